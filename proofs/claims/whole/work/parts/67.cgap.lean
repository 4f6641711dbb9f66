/-! gap: the model, and the call pair -/
theorem m_gap20 {σ : St} {f : FI} {g : FL} {M : Nat} {gp : Int} (hm : Sh12 σ M) : ∀ k i : Nat, i + k = 8 → ∀ fi : FI, Fr (fun a _ => a = M + 54) f fi → (∀ b, b < i → fi (M + 54) b = -1) → ∃ f' : FI, Fr (fun a _ => a = M + 54) f f' ∧ (∀ b, b < 8 → f' (M + 54) b = -1) ∧ ∀ r, A_X12_gap_41 σ f' g M gp 0 r → A_X12_gap_20 σ fi g M gp (i : Int) r := by
  intro k
  induction k with
  | zero =>
    intro i hi fi hF hb
    obtain rfl : i = 8 := by omega
    exact ⟨fi, hF, hb, fun r A => bk_X12_gap_20 hm ⟨fun _ => A, fun z => absurd (by decide) z⟩⟩
  | succ k ih =>
    intro i hi fi hF hb
    obtain ⟨f', F, h, K⟩ := ih (i + 1) (by omega) (up2 fi (M + 54) i (-1)) (hF.up rfl) (fun b hb2 => by
      by_cases z : b = i
      · subst z; exact u2_s
      · rw [u2_i z]; exact hb b (by omega))
    exact ⟨f', F, h, fun r A => bk_X12_gap_20 hm ⟨fun z => absurd z (by omega), fun _ => ⟨⟨by omega, by omega⟩, K r A⟩⟩⟩
theorem m_gap41 {σ : St} {f : FI} {g : FL} {M n : Nat} {gp : Int} (hm : Sh12 σ M) (hn : f M 51 = (n : Int)) (h8 : n ≤ 8) (ho : ∀ i, i < n → 0 ≤ f (M + 33) i ∧ f (M + 33) i ≤ 7) (hg : 0 ≤ gp ∧ gp ≤ 9) : ∀ k i : Nat, i + k = n → ∀ fi : FI, Fr (fun a _ => a = M + 54) f fi → (∀ b, b < 8 → fi (M + 54) b = tkg (f (M + 33)) gp i b) → ∃ f' : FI, Fr (fun a _ => a = M + 54) f f' ∧ (∀ b, b < 8 → f' (M + 54) b = tkg (f (M + 33)) gp n b) ∧ ∀ r, A_X12_gap_41 σ f' g M gp (n : Int) r → A_X12_gap_41 σ fi g M gp (i : Int) r := by
  intro k
  induction k with
  | zero =>
    intro i hi fi hF hb
    obtain rfl : i = n := by omega
    exact ⟨fi, hF, hb, fun r A => A⟩
  | succ k ih =>
    intro i hi fi hF hb
    have oi := ho i (by omega)
    have e33 : fi (M + 33) i = f (M + 33) i := hF _ _ (by omega)
    have e51 : fi M 51 = (n : Int) := by rw [hF _ _ (by omega)]; exact hn
    have m1 : 0 ≤ gp * (i : Int) := Int.mul_nonneg hg.1 (by omega)
    have m2 : gp * (i : Int) ≤ 9 * 8 := Int.mul_le_mul hg.2 (by omega) (by omega) (by omega)
    obtain ⟨f', F, h, K⟩ := ih (i + 1) (by omega) (up2 fi (M + 54) (fi (M + 33) i).toNat (gp * (i : Int))) (hF.up rfl) (fun b hb2 => by
      rw [e33]
      by_cases z : f (M + 33) i = (b : Int)
      · rw [tkg_1 z, show (f (M + 33) i).toNat = b by omega]; exact u2_s
      · rw [tkg_2 z, u2_i (by omega)]; exact hb b hb2)
    refine ⟨f', F, h, fun r A => bk_X12_gap_41 hm ⟨fun z => absurd z (by rw [e51]; omega), fun _ => ⟨⟨by omega, by omega, ?_, by omega⟩, K r A⟩⟩⟩
    show 0 ≤ fi (M + 33) i ∧ fi (M + 33) i < 8
    omega
theorem m_gap94 {σ : St} {f : FI} {g : FL} {B : Nat} {nn : Nat → Nat} {gp t : Int} (hm : Sh12 σ (B + 165)) (hB0 : ITb f B nn) (hL : IL f g B) (hE : IE f B) (hk : ∀ i : Nat, i < 8 → f (B + 165 + 54) i ≤ 999) (ht : 0 ≤ t ∧ t < 100000) : ∀ k i : Nat, i + k = 512 → ∀ fi : FI, Fr (Scr2 B) f fi → (∀ q : Nat, q < i → En f B q → (sn (GK f g B (f (B + 165 + 54))) 100 t (q : Int) = f (B + 165 + 26) q ∨ sn (GK f g B (f (B + 165 + 54))) 100 t (q : Int) = f (B + 165 + 27) q)) → ∃ (f' : FI) (v : Int), (v = 0 ∨ v = 1) ∧ (v = 1 ↔ Qu f B (GK f g B (f (B + 165 + 54))) (f (B + 165 + 26)) (f (B + 165 + 27)) t) ∧ Fr (Scr2 B) f f' ∧ ∀ r, A_X12_gap_77 σ f' g (B + 165) gp v (t + 1) r → A_X12_gap_94 σ fi g (B + 165) gp 1 t (i : Int) r := by
  intro k
  induction k with
  | zero =>
    intro i hi fi hF hj
    obtain rfl : i = 512 := by omega
    exact ⟨fi, 1, Or.inr rfl, ⟨fun _ => hj, fun _ => rfl⟩, hF, fun r A => bk_X12_gap_94 hm ⟨fun _ => ⟨by omega, A⟩, fun z => absurd (by decide) z⟩⟩
  | succ k ih =>
    intro i hi fi hF hj
    have e33 : fi (B + 165) 33 = f (B + 43) 2 := by rw [hF _ _ (by omega), hE.1]
    have ob2 : ((0 : Int) ≤ (i : Int) ∧ (i : Int) < 512) ∧ ((0 : Int) ≤ fi (B + 165) 33 ∧ fi (B + 165) 33 ≤ 255) := by rw [e33]; exact ⟨by omega, hE.2⟩
    by_cases hEn : En f B (i : Int)
    · have hBi : ITb fi B nn := hB0.fr (fun a h1 h2 => by
        funext j
        exact hF a j (by omega)) fun a h1 h2 => by
        funext j
        exact hF a j (by omega)
      have hLi : IL fi g B := hL.fr (by
        funext j
        exact hF _ j (by omega)) (hF _ _ (by omega)) rfl
      have e54 : ∀ j, fi (B + 165 + 54) j = f (B + 165 + 54) j := fun j => hF _ j (by omega)
      obtain ⟨f2, Q, F2⟩ := x_seenAs (f := fi) (g := g) (p := (i : Int)) (t := t) hm hBi hLi (fun j hj => by rw [e54]; exact hk j hj) (by omega) (by omega)
      have q2 : sn (GK fi g B (fi (B + 165 + 54))) 100 t (i : Int) = sn (GK f g B (f (B + 165 + 54))) 100 t (i : Int) := sn_cong (fun t p hp => GK_of hp (fun a h1 h2 => by
        funext j
        exact hF a j (by omega)) rfl fun j hj => e54 j) 100 t _ (by omega)
      rw [q2] at Q
      have N2 := x_neiM (σ := σ) (f := f2) (g := g) (p := (i : Int)) (v := sn (GK f g B (f (B + 165 + 54))) 100 t (i : Int)) hm (by omega)
      have w3 : f2 (B + 165 + 26) (i : Int).toNat = f (B + 165 + 26) i := by rw [F2 _ _ (by omega), hF _ _ (by omega)]; rfl
      have w4 : f2 (B + 165 + 27) (i : Int).toNat = f (B + 165 + 27) i := by rw [F2 _ _ (by omega), hF _ _ (by omega)]; rfl
      rw [w3, w4] at N2
      by_cases ok : sn (GK f g B (f (B + 165 + 54))) 100 t (i : Int) = f (B + 165 + 26) i ∨ sn (GK f g B (f (B + 165 + 54))) 100 t (i : Int) = f (B + 165 + 27) i
      · rw [bI_f (fun y => ok.elim y.1 y.2)] at N2
        obtain ⟨f', v, v1, v2, F, K⟩ := ih (i + 1) (by omega) f2 (hF.trans F2) (fun q hq hEq => by
          by_cases z : q = i
          · subst z; exact ok
          · exact hj q (by omega) hEq)
        exact ⟨f', v, v1, v2, F, fun r A => bk_X12_gap_94 hm ⟨fun z => absurd z (by omega), fun _ => ⟨fun z => absurd z (by decide), fun _ => ⟨ob2, fun z => absurd (by rw [e33]; exact hEn) z, fun _ => ⟨f2, g, _, Q, f2, g, 0, N2, fun z => absurd rfl z, fun _ => ⟨by omega, K r A⟩⟩⟩⟩⟩⟩
      · rw [bI_t ⟨fun y => ok (Or.inl y), fun y => ok (Or.inr y)⟩] at N2
        refine ⟨f2, 0, Or.inl rfl, ⟨fun z => absurd z (by decide), fun z => absurd (z i (by omega) hEn) ok⟩, hF.trans F2, fun r A => bk_X12_gap_94 hm ⟨fun z => absurd z (by omega), fun _ => ⟨fun z => absurd z (by decide), fun _ => ⟨ob2, fun z => absurd (by rw [e33]; exact hEn) z, fun _ => ⟨f2, g, _, Q, f2, g, 1, N2, fun _ => ⟨by omega, ?_⟩, fun z => absurd z (by decide)⟩⟩⟩⟩⟩
        by_cases y : (512 : Int) ≤ (i : Int) + 1
        · exact bk_X12_gap_94 hm ⟨fun _ => ⟨by omega, A⟩, fun z => absurd y z⟩
        · exact bk_X12_gap_94 hm ⟨fun z => absurd z y, fun _ => ⟨fun _ => ⟨by omega, A⟩, fun z => absurd rfl z⟩⟩
    · obtain ⟨f', v, v1, v2, F, K⟩ := ih (i + 1) (by omega) fi hF (fun q hq hEq => by
        by_cases z : q = i
        · subst z; exact absurd hEq hEn
        · exact hj q (by omega) hEq)
      exact ⟨f', v, v1, v2, F, fun r A => bk_X12_gap_94 hm ⟨fun z => absurd z (by omega), fun _ => ⟨fun z => absurd z (by decide), fun _ => ⟨ob2, fun _ => ⟨by omega, K r A⟩, fun z => absurd (by rw [e33] at z; exact z) hEn⟩⟩⟩⟩
theorem IE.scr2 {f f' : FI} {B : Nat} (h : IE f B) (hF : Fr (Scr2 B) f f') : IE f' B := by
  unfold IE at h ⊢
  rw [hF _ _ (by omega), hF _ _ (by omega)]
  exact h
theorem m_gap77 {σ : St} {f : FI} {g : FL} {B n : Nat} {nn : Nat → Nat} {gp : Int} (hm : Sh12 σ (B + 165)) (hB0 : ITb f B nn) (hL : IL f g B) (hE : IE f B) (hn : f (B + 165) 51 = (n : Int)) (h8 : n ≤ 8) (hg : 0 ≤ gp ∧ gp ≤ 9) (hk : ∀ i : Nat, i < 8 → f (B + 165 + 54) i ≤ 999) : ∀ k i : Nat, (i : Int) + (k : Int) = gp * (n : Int) + 1 → ∀ fi : FI, Fr (Scr2 B) f fi → (∀ t : Int, 0 ≤ t → t < (i : Int) → Qu f B (GK f g B (f (B + 165 + 54))) (f (B + 165 + 26)) (f (B + 165 + 27)) t) → ∃ f' : FI, Fr (Scr2 B) f f' ∧ (((∀ t : Int, 0 ≤ t → t ≤ gp * (n : Int) → Qu f B (GK f g B (f (B + 165 + 54))) (f (B + 165 + 26)) (f (B + 165 + 27)) t) ∧ A_X12_gap_77 σ fi g (B + 165) gp 1 (i : Int) (il σ f' g, [vI gp])) ∨ ((¬ ∀ t : Int, 0 ≤ t → t ≤ gp * (n : Int) → Qu f B (GK f g B (f (B + 165 + 54))) (f (B + 165 + 26)) (f (B + 165 + 27)) t) ∧ ∀ r, A_X12_gap_12 σ f' g (B + 165) (gp + 1) r → A_X12_gap_77 σ fi g (B + 165) gp 1 (i : Int) r)) := by
  have m1 : 0 ≤ gp * (n : Int) := Int.mul_nonneg hg.1 (by omega)
  have m2 : gp * (n : Int) ≤ 9 * 8 := Int.mul_le_mul hg.2 (by omega) (by omega) (by omega)
  intro k
  induction k with
  | zero =>
    intro i hi fi hF hj
    have e51 : fi (B + 165) 51 = (n : Int) := by rw [hF _ _ (by omega)]; exact hn
    refine ⟨fi, hF, Or.inl ⟨fun t h1 h2 => hj t h1 (by omega), bk_X12_gap_77 hm ?_⟩⟩
    rw [e51]
    exact ⟨by omega, fun _ => ⟨fun z => absurd z (by decide), fun _ => rfl⟩, fun z => absurd (by omega) z⟩
  | succ k ih =>
    intro i hi fi hF hj
    have e51 : ∀ fi : FI, Fr (Scr2 B) f fi → fi (B + 165) 51 = (n : Int) := fun fi hF => by rw [hF _ _ (by omega)]; exact hn
    have q1 : ∀ (fi : FI), Fr (Scr2 B) f fi → ∀ t, (Qu fi B (GK fi g B (fi (B + 165 + 54))) (fi (B + 165 + 26)) (fi (B + 165 + 27)) t ↔ Qu f B (GK f g B (f (B + 165 + 54))) (f (B + 165 + 26)) (f (B + 165 + 27)) t) := fun fi hF t => Qu_of (hF _ _ (by omega)) (fun t' p _ hp => GK_of hp (fun a h1 h2 => by
        funext j
        exact hF a j (by omega)) rfl fun j hj => hF _ j (by omega)) (fun q _ _ => hF _ q (by omega)) (fun q _ _ => hF _ q (by omega))
    obtain ⟨f2, v, v1, v2, F2, K⟩ := m_gap94 (σ := σ) (f := fi) (g := g) (B := B) (gp := gp) (t := (i : Int)) hm (hB0.fr (fun a h1 h2 => by
        funext j
        exact hF a j (by omega)) fun a h1 h2 => by
        funext j
        exact hF a j (by omega)) (hL.fr (by
        funext j
        exact hF _ j (by omega)) (hF _ _ (by omega)) rfl) (hE.scr2 hF) (fun j hj => by rw [hF _ j (by omega)]; exact hk j hj) (by omega) 512 0 rfl fi Fr.rfl' (fun q hq => absurd hq (Nat.not_lt_zero q))
    rw [q1 fi hF] at v2
    have hF2 := hF.trans F2
    rcases v1 with rfl | rfl
    · refine ⟨f2, hF2, Or.inr ⟨fun z => absurd (v2.mpr (z i (by omega) (by omega))) (by decide), fun r A => bk_X12_gap_77 hm ?_⟩⟩
      rw [e51 fi hF]
      refine ⟨by omega, fun z => absurd z (by omega), fun _ => ⟨fun z => absurd z (by decide), fun _ => K r (bk_X12_gap_77 hm ?_)⟩⟩
      rw [e51 f2 hF2]
      exact ⟨by omega, fun _ => ⟨fun _ => ⟨by omega, A⟩, fun z => absurd rfl z⟩, fun _ => ⟨fun _ => ⟨fun _ => ⟨by omega, A⟩, fun z => absurd rfl z⟩, fun z => absurd rfl z⟩⟩
    · obtain ⟨f', F, h⟩ := ih (i + 1) (by omega) f2 hF2 (fun t h1 h2 => by
        by_cases z : t = (i : Int)
        · subst z; exact v2.mp rfl
        · exact hj t h1 (by omega))
      refine ⟨f', F, ?_⟩
      have go : ∀ r, A_X12_gap_77 σ f2 g (B + 165) gp 1 ((i + 1 : Nat) : Int) r → A_X12_gap_77 σ fi g (B + 165) gp 1 (i : Int) r := fun r A => by
        refine bk_X12_gap_77 hm ?_
        rw [e51 fi hF]
        exact ⟨by omega, fun z => absurd z (by omega), fun _ => ⟨fun z => absurd z (by decide), fun _ => K r A⟩⟩
      rcases h with ⟨h1, h2⟩ | ⟨h1, h2⟩
      · exact Or.inl ⟨h1, go _ h2⟩
      · exact Or.inr ⟨h1, fun r A => go r (h2 r A)⟩
abbrev Scr5 (B : Nat) : Nat → Nat → Prop := fun a k => a = B + 165 + 54 ∨ Scr3 B a k
theorem x_gapM {σ : St} {f : FI} {g : FL} {B n : Nat} {nn : Nat → Nat} {s : Int} (hm : Sh12 σ (B + 165)) (hB0 : ITb f B nn) (hL : IL f g B) (hE : IE f B) (hS : IS f B s) (hsl : s < 1999900000) (hn : f (B + 165) 51 = (n : Int)) (h8 : 1 ≤ n ∧ n ≤ 8) (ho : ∀ i, i < n → 0 ≤ f (B + 146) i ∧ f (B + 146) i ≤ 7) (he : ∀ i, i < n → f (B + 165 + 33) i = f (B + 146) i) : ∀ k i : Nat, i + k = 10 → 1 ≤ i → ∀ (fi : FI) (si : Int), Fr (Scr5 B) f fi → IS fi B si → si ≤ s + 1024 * (i : Int) → ∃ (f' : FI) (v s' : Int), Ga (GQ f g B n) (i : Int) v ∧ A_X12_gap_12 σ fi g (B + 165) (i : Int) (il σ f' g, [vI v]) ∧ Fr (Scr5 B) f f' ∧ IS f' B s' ∧ s' ≤ s + 10240 := by
  intro k
  induction k with
  | zero =>
    intro i hi h1 fi si hF hSi hsi
    obtain rfl : i = 10 := by omega
    exact ⟨fi, -2, si, Or.inl ⟨rfl, fun x h1 h2 => absurd h1 (by omega)⟩, bk_X12_gap_12 hm ⟨fun _ => rfl, fun z => absurd (by decide) z⟩, hF, hSi, by omega⟩
  | succ k ih =>
    intro i hi h1 fi si hF hSi hsi
    have ho' : ∀ j, j < n → 0 ≤ fi (B + 165 + 33) j ∧ fi (B + 165 + 33) j ≤ 7 := fun j hj => by rw [hF _ j (by omega), he j hj]; exact ho j hj
    have hn' : fi (B + 165) 51 = (n : Int) := by rw [hF _ _ (by omega)]; exact hn
    obtain ⟨f1, F1, t1, K1⟩ := m_gap20 (σ := σ) (f := fi) (g := g) (M := B + 165) (gp := (i : Int)) hm 8 0 rfl fi Fr.rfl' (fun b hb => absurd hb (Nat.not_lt_zero b))
    obtain ⟨f2, F2, t2, K2⟩ := m_gap41 (σ := σ) (f := f1) (g := g) (M := B + 165) (n := n) (gp := (i : Int)) hm (by rw [F1 _ _ (by omega)]; exact hn') h8.2 (fun j hj => by rw [F1 _ j (by omega)]; exact ho' j hj) (by omega) n 0 (by omega) f1 Fr.rfl' (fun b hb => t1 b hb)
    have F12 : Fr (fun a _ => a = B + 165 + 54) fi f2 := F1.trans F2
    have hF2 : Fr (Scr5 B) f f2 := fun a k hk => by rw [F12 a k (fun z => hk (Or.inl z)), hF a k hk]
    have tk2 : ∀ b, b < 8 → f2 (B + 165 + 54) b = tkg (f (B + 146)) (i : Int) n b := fun b hb => by
      rw [t2 b hb]
      refine tkg_cong n fun j hj => ?_
      rw [F1 _ j (by omega), hF _ j (by omega), he j hj]
    have eT2 : SameT f f2 B := fun a h3 h4 => by
      funext j
      exact hF2 a j (by omega)
    have hB2 : ITb f2 B nn := hB0.fr eT2 fun a h3 h4 => by
      funext j
      exact hF2 a j (by omega)
    have hL2 : IL f2 g B := hL.fr (by
      funext j
      exact hF2 _ j (by omega)) (hF2 _ _ (by omega)) rfl
    have hS2 : IS f2 B si := hSi.of (F12 _ _ (by omega)) (by
      funext j
      exact F12 _ j (by omega))
    obtain ⟨f3, s3, E3, e3, S3, F3⟩ := x_endsByTicks (σ := σ) (f := f2) (g := g) hm hB2 hL2 hS2 (by omega)
    have hF3 : Fr (Scr5 B) f f3 := fun a k hk => by rw [F3 a k (fun z => hk (Or.inr z)), hF2 a k hk]
    have eT3 : SameT f f3 B := fun a h3 h4 => by
      funext j
      exact hF3 a j (by omega)
    have eu : us (f2 (B + 165 + 54)) 8 = wbN (f (B + 146)) 0 0 n := (us_cong tk2).trans (us_tkg (by omega) ho)
    have tk3 : ∀ b, b < 8 → f3 (B + 165 + 54) b = tkg (f (B + 146)) (i : Int) n b := fun b hb => by rw [F3 _ b (by omega)]; exact tk2 b hb
    have tk9 : ∀ b, b < 8 → f3 (B + 165 + 54) b ≤ 999 := fun b hb => by
      rw [tk3 b hb]
      have : ∀ m, m ≤ 8 → tkg (f (B + 146)) (i : Int) m b ≤ 999 := by
        intro m
        induction m with
        | zero => intro _; show (-1 : Int) ≤ 999; omega
        | succ m ihm =>
          intro hm8
          by_cases z : f (B + 146) m = (b : Int)
          · rw [tkg_1 z]
            have : (i : Int) * (m : Int) ≤ 9 * 8 := Int.mul_le_mul (by omega) (by omega) (by omega) (by omega)
            omega
          · rw [tkg_2 z]; exact ihm (by omega)
      exact this n h8.2
    have hE3 : IE f3 B := by
      unfold IE at hE ⊢
      rw [hF3 _ _ (by omega), hF3 _ _ (by omega)]
      exact hE
    have n3 : f3 (B + 165) 51 = (n : Int) := by rw [hF3 _ _ (by omega)]; exact hn
    have m1 : 0 ≤ (i : Int) * (n : Int) := Int.mul_nonneg (by omega) (by omega)
    obtain ⟨m, hmm⟩ := Int.eq_ofNat_of_zero_le m1
    obtain ⟨f4, F4, h4⟩ := m_gap77 (σ := σ) (f := f3) (g := g) (B := B) (n := n) (gp := (i : Int)) hm (Scr3.itb hB2 F3) (Scr3.il hL2 F3) hE3 n3 h8.2 (by omega) tk9 (m + 1) 0 (by rw [hmm]; omega) f3 Fr.rfl' (fun t h2 h3 => absurd h3 (by omega))
    have eq : ∀ t, Qu f3 B (GK f3 g B (f3 (B + 165 + 54))) (f3 (B + 165 + 26)) (f3 (B + 165 + 27)) t ↔ Qu f B (GK f g B (tkg (f (B + 146)) (i : Int) n)) (fun q => enD (GB f g B 0) (q : Int)) (fun q => enD (GB f g B (wbN (f (B + 146)) 0 0 n : Nat)) (q : Int)) t := fun t => Qu_of (hF3 _ _ (by omega)) (fun t' p _ hp => GK_of hp eT3 rfl tk3) (fun q hq _ => by
        rw [(e3 q hq).1]
        exact enD_cong fun z hz => GB_of hz eT2 rfl) (fun q hq _ => by
        rw [(e3 q hq).2, eu]
        exact enD_cong fun z hz => GB_of hz eT2 rfl)
    have S4 : IS f4 B s3 := S3.1.of (F4 _ _ (by omega)) (by
      funext j
      exact F4 _ j (by omega))
    have hF4 : Fr (Scr5 B) f f4 := fun a k hk => by rw [F4 a k (fun z => hk (Or.inr (Or.inl ⟨z.1, by omega, by omega⟩))), hF3 a k hk]
    have go : ∀ r, A_X12_gap_77 σ f3 g (B + 165) (i : Int) 1 0 r → A_X12_gap_12 σ fi g (B + 165) (i : Int) r := fun r A => bk_X12_gap_12 hm ⟨fun z => absurd z (by omega), fun _ => K1 r (K2 r (bk_X12_gap_41 hm ⟨fun _ => ⟨f3, g, E3, A⟩, fun z => absurd (by rw [show f2 (B + 165) 51 = (n : Int) by rw [hF2 _ _ (by omega)]; exact hn]; omega) z⟩))⟩
    rcases h4 with ⟨h5, h6⟩ | ⟨h5, h6⟩
    · exact ⟨f4, i, s3, Or.inr ⟨by omega, fun t h2 h3 => (eq t).mp (h5 t h2 h3), fun x h2 h3 => absurd h3 (by omega)⟩, go _ h6, hF4, S4, by omega⟩
    · obtain ⟨f', v, s', G, A, r⟩ := ih (i + 1) (by omega) (by omega) f4 s3 hF4 S4 (by omega)
      exact ⟨f', v, s', Ga.back G fun z => h5 fun t h2 h3 => (eq t).mpr (z t h2 h3), go _ (h6 _ A), r⟩
theorem c_gap {σ : St} {f : FI} {g : FL} {B : Nat} (hs : Sh11 σ B) (hm : Sh12 σ (B + 165)) {nn : Nat → Nat} {s : Int} (hB0 : ITb f B nn) (hL : IL f g B) (hE : IE f B) (hO : IO f B) (hS : IS f B s) (hsl : s < 1999900000) : ∃ (σ1 : St) (v : Int) (f1 f2 : FI), Ex mt 5 186 (il σ f g) [vR 11 (some B)] (il σ1 f1 g, [vI v]) ∧ Ex mt 6 310 (il σ1 f1 g) [vR 12 (some (B + 165))] (il σ1 f2 g, [vI v]) ∧ Sw B σ σ1 ∧ (∃ s2, IS f2 B s2 ∧ s2 ≤ s + 10240) ∧ Fr (fun a k => (B + 149 ≤ a ∧ a ≤ B + 153) ∨ Scr5 B a k) f f2 := by
  obtain ⟨⟨o1, o2, o3⟩, o4, o5⟩ := hO
  by_cases z : 1 ≤ f (B + 144) 3
  · obtain ⟨n, hn⟩ := Int.eq_ofNat_of_zero_le (show 0 ≤ f (B + 144) 3 by omega)
    have ho : ∀ i, i < n → 0 ≤ f (B + 146) i ∧ f (B + 146) i ≤ 7 := fun i hi => (o4 i (by omega)).2
    obtain ⟨σ1, f1, v, G, E, W, F⟩ := x_findGap (g := g) hs.o10 hB0.tcs hE.2 hn (by omega) ho (fun i j h1 h2 => o5 i j h1 (by omega))
    have eT : SameT f f1 B := fun a h3 h4 => F a (by omega)
    have hB1 : ITb f1 B nn := hB0.fr eT fun a h3 h4 => F a (by omega)
    have hL1 : IL f1 g B := hL.fr (F _ (by omega)) (by rw [F _ (by omega)]) rfl
    have hE1 : IE f1 B := by
      unfold IE at hE ⊢
      rw [F _ (by omega), F _ (by omega)]
      exact hE
    have hS1 : IS f1 B s := hS.of (by rw [F _ (by omega)]) (F _ (by omega))
    have hm1 := W.ks.sh12 hm
    have n1 : f1 (B + 165) 51 = (n : Int) := by rw [F _ (by omega), ← o1]; exact hn
    obtain ⟨f2, w, s2, G2, A, F2, S2, b2⟩ := x_gapM (σ := σ1) (f := f1) (g := g) (B := B) (n := n) hm1 hB1 hL1 hE1 hS1 hsl n1 (by omega) (by rw [F _ (by omega)]; exact ho) (fun i hi => by rw [F _ (by omega), F _ (by omega)]; exact (o4 i (by omega)).1.symm) 9 1 rfl (by omega) f1 s Fr.rfl' hS1 (by omega)
    have eGQ : GQ f1 g B n = GQ f g B n := by
      funext gp
      refine propext ?_
      unfold GQ
      rw [F (B + 146) (by omega)]
      have : ∀ t, Qu f1 B (GK f1 g B (tkg (f (B + 146)) gp n)) (fun q => enD (GB f1 g B 0) (q : Int)) (fun q => enD (GB f1 g B (wbN (f (B + 146)) 0 0 n : Nat)) (q : Int)) t ↔ Qu f B (GK f g B (tkg (f (B + 146)) gp n)) (fun q => enD (GB f g B 0) (q : Int)) (fun q => enD (GB f g B (wbN (f (B + 146)) 0 0 n : Nat)) (q : Int)) t := fun t => Qu_of (by rw [F _ (by omega)]) (fun t' p _ hp => GK_of hp eT rfl fun _ _ => rfl) (fun q _ _ => enD_cong fun z hz => GB_of hz eT rfl) (fun q _ _ => enD_cong fun z hz => GB_of hz eT rfl)
      exact ⟨fun h t h1 h2 => (this t).mp (h t h1 h2), fun h t h1 h2 => (this t).mpr (h t h1 h2)⟩
    rw [eGQ] at G2
    obtain rfl := G.one G2
    exact ⟨σ1, v, f1, f2, bk_X11_gap_0 hs ⟨σ1, f1, g, v, E, rfl⟩, bk_X12_gap_0 hm1 ⟨fun _ => A, fun y => absurd (by rw [n1]; omega) y⟩, W, ⟨s2, S2, b2⟩, fun a k hk => by rw [F2 a k (fun y => hk (Or.inr y)), F a (by omega)]⟩
  · exact ⟨σ, -1, f, f, bk_X11_gap_0 hs ⟨σ, f, g, -1, bk_X5_findGap_0 hs.o10 ⟨fun y => absurd (show 0 < f (B + 144) 3 from y) (by omega), fun _ => rfl⟩, rfl⟩, bk_X12_gap_0 hm ⟨fun y => absurd y (by rw [← o1]; exact z), fun _ => rfl⟩, Sw.rfl' hs.o10, ⟨s, hS, by omega⟩, Fr.rfl'⟩
