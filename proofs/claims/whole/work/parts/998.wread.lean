/-! the text is read: first the class, then the model -/
theorem Gx.det {mt : Nat → Nat × (Nat → List LI)} {d : Nat} {M : Nat → List LI} {σ : St} {cs : List LI} {ls : Ls} {st : List Vl} {r r' : St × List Vl} (h : Gx mt d M σ cs ls st r) (h' : Gx mt d M σ cs ls st r') : r = r' := by
  obtain ⟨n, h⟩ := h
  obtain ⟨n', h'⟩ := h'
  have a := exec_le (n' := max n n') (Nat.le_max_left _ _) (Nat.le_refl _) h
  have b := exec_le (n' := max n n') (Nat.le_max_right _ _) (Nat.le_refl _) h'
  rw [a] at b
  exact Option.some.inj b
theorem il_f {σ : St} {f f' : FI} {g g' : FL} (h : il σ f g = il σ f' g') : f = f' := congrArg gI h
/-- the model begins to read -/
def ini (f : FI) (M : Nat) : FI := up2 (up2 (up2 (up2 (up2 (up2 (up2 (up2 f M 2 0) M 3 0) M 5 0) M 6 0) M 7 0) M 8 0) M 17 0) M 18 0
theorem ini_o {f : FI} {M c j : Nat} (h : ¬ (c = M ∧ (j = 2 ∨ j = 3 ∨ (5 ≤ j ∧ j ≤ 8) ∨ j = 17 ∨ j = 18))) : ini f M c j = f c j := by
  unfold ini up2
  rw [if_neg (by omega), if_neg (by omega), if_neg (by omega), if_neg (by omega), if_neg (by omega), if_neg (by omega), if_neg (by omega), if_neg (by omega)]
theorem ini_0 {f : FI} {M j : Nat} (h : j = 2 ∨ j = 3 ∨ (5 ≤ j ∧ j ≤ 8) ∨ j = 17 ∨ j = 18) : ini f M M j = 0 := by
  have e : j = 2 ∨ j = 3 ∨ j = 5 ∨ j = 6 ∨ j = 7 ∨ j = 8 ∨ j = 17 ∨ j = 18 := by omega
  unfold ini up2
  rcases e with rfl | rfl | rfl | rfl | rfl | rfl | rfl | rfl <;> simp
/-- the class begins to read -/
def inc (f : FI) (B : Nat) (n : Int) : FI := up2 (up2 (up2 (up2 (up2 (up2 (up2 (up2 (up2 f (B + 5) 4 n) (B + 5) 5 0) (B + 6) 3 0) (B + 5) 6 0) (B + 5) 7 0) (B + 5) 8 0) (B + 5) 9 0) (B + 5) 10 0) (B + 5) 11 0
theorem inc_o {f : FI} {B c j : Nat} {n : Int} (h : ¬ (c = B + 5 ∧ 4 ≤ j ∧ j ≤ 11)) (h2 : ¬ (c = B + 6 ∧ j = 3)) : inc f B n c j = f c j := by
  unfold inc up2
  rw [if_neg (by omega), if_neg (by omega), if_neg (by omega), if_neg (by omega), if_neg (by omega), if_neg (by omega), if_neg (by omega), if_neg (by omega), if_neg (by omega)]
theorem inc_0 {f : FI} {B j : Nat} {n : Int} (h : 5 ≤ j ∧ j ≤ 11) : inc f B n (B + 5) j = 0 := by
  have e : j = 5 ∨ j = 6 ∨ j = 7 ∨ j = 8 ∨ j = 9 ∨ j = 10 ∨ j = 11 := by omega
  unfold inc up2
  rcases e with rfl | rfl | rfl | rfl | rfl | rfl | rfl <;> simp
theorem inc_3 {f : FI} {B : Nat} {n : Int} : inc f B n (B + 6) 3 = 0 ∧ inc f B n (B + 5) 4 = n := by
  unfold inc up2
  exact ⟨by simp, by simp⟩
/-- the model can read what the class reads -/
def Rdy (σm : St) (fm : FI) (M w0 : Nat) (T : Nat → Int) (n : Nat) : Prop := Sh12 σm M ∧ fm M 1 = (n : Int) ∧ (∀ i, i < n → T i = fm (M + 1) i % 256 ∧ -128 ≤ fm (M + 1) i ∧ fm (M + 1) i ≤ 127) ∧ fm M 4 = (w0 : Int)
theorem mid0 {f fm : FI} {B M w0 n : Nat} {T : Nat → Int} {σm : St} (hT : ∀ i, i < n → f (B + 1) i = T i) (h : Rdy σm fm M w0 T n) : Mid (inc f B (n : Int)) (ini fm M) B M w0 T n 0 1 := by
  refine ⟨0, 0, 0, 0, 0, fun _ => 0, fun _ => 0, fun _ => 0, fun _ => 0, fun _ => 0, fun _ => 0, ⟨Nat.zero_le _, by omega, rfl, by omega⟩, Or.inr ⟨rfl, ⟨⟨inc_3.2, fun i hi => by rw [inc_o (by omega) (by omega)]; exact hT i hi, inc_0 (by omega), inc_0 (by omega), inc_0 (by omega)⟩, ⟨inc_0 (by omega), inc_0 (by omega), inc_0 (by omega), inc_0 (by omega)⟩, fun i hi => absurd hi (Nat.not_lt_zero i), fun i hi => absurd hi (Nat.not_lt_zero i), inc_3.1, fun i hi => absurd hi (Nat.not_lt_zero i)⟩, ⟨⟨by rw [ini_o (by omega)]; exact h.2.1, fun i hi => by rw [ini_o (by omega)]; exact h.2.2.1 i hi, ini_0 (by omega), ini_0 (by omega), ini_0 (by omega)⟩, ⟨by rw [ini_o (by omega)]; exact h.2.2.2, ini_0 (by omega), ini_0 (by omega), ini_0 (by omega), ini_0 (by omega), ini_0 (by omega)⟩, fun i hi => absurd hi (Nat.not_lt_zero i), fun i hi => absurd hi (Nat.not_lt_zero i), fun i hi => absurd hi (Nat.not_lt_zero i)⟩, ⟨fun i hi => absurd hi (Nat.not_lt_zero i), ⟨fun i hi => absurd hi (Nat.not_lt_zero i), fun i hi => absurd hi (Nat.not_lt_zero i), rfl⟩, fun i hi => absurd hi (Nat.not_lt_zero i), Nat.le_refl _, Nat.le_refl _, fun i hi => absurd hi (Nat.not_lt_zero i), fun i hi => absurd hi (Nat.not_lt_zero i), Nat.le_refl _⟩, rfl⟩⟩
/-- the model reads the same -/
theorem wish_read {σ : St} {f : FI} {g : FL} {B M w0 n : Nat} {T : Nat → Int} (hs : Sh4 (wR σ (B + 5) 3 (some (B + 1))) B) (hS : Stat (wR σ (B + 5) 3 (some (B + 1))) f) (hl : Lo (wR σ (B + 5) 3 (some (B + 1))) B) (hw : w0 < 12) (hn : n ≤ 200) (hT : ∀ i, i < n → f (B + 1) i = T i ∧ 0 ≤ T i ∧ T i ≤ 255) (h0 : Rdy σ f M w0 T n) : ∃ (fc' : FI) (F : Int), A_X4_read_63 (wR σ (B + 5) 3 (some (B + 1))) (inc f B (n : Int)) g B 1 0 (il (wR σ (B + 5) 3 (some (B + 1))) fc' g, [vI F]) ∧ FCr B f fc' ∧ (((1 ≤ F ∧ F ≤ 1700) ∧ ∀ (σm : St) (fm : FI) (gm : FL) (x1 : Int), Rdy σm fm M w0 T n → ∃ (fm' : FI) (vm : Int), (∀ r, A_X12_wish_65 σm fm' gm M x1 vm r → A_X12_wish_65 σm (ini fm M) gm M x1 1 r) ∧ FMr M w0 fm fm' ∧ fm' M 3 = F) ∨ (F = 0 ∧ ∃ (N : Nat) (K L R : FN), (Wf K L R N ∧ Pf K L R N ∧ (ev K L R N).1 = 1) ∧ (1 ≤ N ∧ N ≤ n) ∧ lv K L R (N - 1) ≤ 40 ∧ (bT K L R (N - 1)).length ≤ n ∧ fc' (B + 6) 3 = (N : Int) ∧ Hld fc' (B + 6) N K L R ∧ ∀ (σm : St) (fm : FI) (gm : FL) (x1 : Int), Rdy σm fm M w0 T n → ∃ (fm' : FI) (vm : Int), (∀ r, A_X12_wish_65 σm fm' gm M x1 vm r → A_X12_wish_65 σm (ini fm M) gm M x1 1 r) ∧ FMr M w0 fm fm' ∧ (fm' M 3 = 0 ∧ fm' M 18 = 1 ∧ fm' M 4 = (w0 : Int)) ∧ fm' M 5 = (N : Int) ∧ ∀ i, i < N → fm' (M + 2) (300 * w0 + i) = swp (K i) ∧ fm' (M + 3) (300 * w0 + i) = L i ∧ fm' (M + 4) (300 * w0 + i) = R i)) := by
  have hT2 : ∀ i, i < n → 0 ≤ T i ∧ T i ≤ 255 := fun i hi => (hT i hi).2
  have hS1 : Stat (wR σ (B + 5) 3 (some (B + 1))) (inc f B (n : Int)) := hS.fr3 hl (fun c j hc => inc_o (by omega) (by omega))
  have Fi : FCr B f (inc f B (n : Int)) := fun c j hc => inc_o (by omega) (by omega)
  have Mi : ∀ fm : FI, FMr M w0 fm (ini fm M) := fun fm c j h1 _ _ _ => ini_o h1
  have one : ∀ (σm : St) (fm : FI) (gm : FL) (x1 : Int), Rdy σm fm M w0 T n → ∃ (fc' fm' : FI) (F vm : Int), A_X4_read_63 (wR σ (B + 5) 3 (some (B + 1))) (inc f B (n : Int)) g B 1 0 (il (wR σ (B + 5) 3 (some (B + 1))) fc' g, [vI F]) ∧ (∀ r, A_X12_wish_65 σm fm' gm M x1 vm r → A_X12_wish_65 σm (ini fm M) gm M x1 1 r) ∧ FCr B f fc' ∧ FMr M w0 fm fm' ∧ (((1 ≤ F ∧ F ≤ 1700) ∧ fm' M 3 = F) ∨ (F = 0 ∧ Fin2 fc' fm' B M w0 n)) := fun σm fm gm x1 hr => by
    obtain ⟨fc', fm', F, vm, A, KM, H1, H2, out⟩ := read_all (g := g) (gm := gm) (x1 := x1) hs hr.1 hl hw hn hT2 (n + 1) 0 0 1 (inc f B (n : Int)) (ini fm M) (by omega) (Nat.le_refl _) hS1 (mid0 (fun i hi => (hT i hi).1) hr)
    exact ⟨fc', fm', F, vm, A, KM, Fi.tr H1, (Mi fm).tr H2, out⟩
  obtain ⟨fc0, fm0, F0, vm0, A0, _, H0, _, out0⟩ := one σ f g 0 h0
  -- the class can end but once
  have same : ∀ (fc' : FI) (F : Int), A_X4_read_63 (wR σ (B + 5) 3 (some (B + 1))) (inc f B (n : Int)) g B 1 0 (il (wR σ (B + 5) 3 (some (B + 1))) fc' g, [vI F]) → fc' = fc0 ∧ F = F0 := fun fc' F A => by
    have d := Gx.det (A none 0) (A0 none 0)
    have d1 := congrArg Prod.fst d
    have d2 := congrArg Prod.snd d
    refine ⟨il_f d1, ?_⟩
    have d3 : vI F = vI F0 := List.head_eq_of_cons_eq d2
    exact Sum.inl.inj d3
  rcases out0 with ⟨o1, o2⟩ | ⟨o1, o2⟩
  · refine ⟨fc0, F0, A0, H0, Or.inl ⟨o1, fun σm fm gm x1 hr => ?_⟩⟩
    obtain ⟨fc', fm', F, vm, A, KM, H1, H2, out⟩ := one σm fm gm x1 hr
    obtain ⟨e1, e2⟩ := same fc' F A
    rcases out with ⟨_, q2⟩ | ⟨q1, _⟩
    · exact ⟨fm', vm, KM, H2, q2.trans e2⟩
    · omega
  · obtain ⟨_, _, N, K, L, R, a1, a2, a3, a4, a5, a6, _, _⟩ := o2
    refine ⟨fc0, F0, A0, H0, Or.inr ⟨o1, N, K, L, R, a1, a2, a3, a4, a5, a6, fun σm fm gm x1 hr => ?_⟩⟩
    obtain ⟨fc', fm', F, vm, A, KM, H1, H2, out⟩ := one σm fm gm x1 hr
    obtain ⟨e1, e2⟩ := same fc' F A
    rcases out with ⟨q1, _⟩ | ⟨_, q2⟩
    · omega
    · obtain ⟨_, b0, N', K', L', R', _, _, _, _, b5, b6, b7, b8⟩ := q2
      rw [e1] at b5 b6
      have nn : N' = N := by
        have := b5.symm.trans a5
        omega
      rw [nn] at b6 b7 b8
      refine ⟨fm', vm, KM, H2, b0, b7, fun i hi => ?_⟩
      obtain ⟨c1, c2, c3⟩ := b6 i hi
      obtain ⟨d1, d2, d3⟩ := a6 i hi
      obtain ⟨f1, f2, f3⟩ := b8 i hi
      exact ⟨by rw [f1, ← c1, d1], by rw [f2, ← c2, d2], by rw [f3, ← c3, d3]⟩
