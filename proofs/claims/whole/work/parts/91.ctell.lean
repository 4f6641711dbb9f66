/-! tell: the call pair -/
/-- the tree of a wish, on both sides -/
def Tre (σ : St) (f : FI) (M j t N : Nat) (K L R : FN) : Prop := Sh9 σ t N ∧ f t 3 = (N : Int) ∧ Hld f t N K L R ∧ Wf K L R N ∧ (1 ≤ N ∧ N ≤ 200) ∧ lv K L R (N - 1) ≤ 40 ∧ (bT K L R (N - 1)).length ≤ 200 ∧ f (M + 5) j = (N : Int) ∧ ∀ i, i < N → f (M + 2) (300 * j + i) = swp (K i) ∧ f (M + 3) (300 * j + i) = L i ∧ f (M + 4) (300 * j + i) = R i
def TrW (σ : St) (f : FI) (B w : Nat) (q tr : Nat → Nat) : Prop := ∀ j, j < w → gR σ (q j) 1 = some (tr j) ∧ B + 220 ≤ tr j ∧ ∃ (N : Nat) (K L R : FN), Tre σ f (B + 165) j (tr j) N K L R
/-- the class prints -/
theorem x_putAllC {σ : St} {f : FI} {g : FL} {a t N : Nat} {K L R : FN} (hs : Sh8 σ a) (ht : Sh9 σ t N) (hta : a + 6 < t) (h3 : f t 3 = (N : Int)) (hH : Hld f t N K L R) (hw : Wf K L R N) (h1 : 1 ≤ N ∧ N ≤ 200) (hv : lv K L R (N - 1) ≤ 40) (hl : (bT K L R (N - 1)).length ≤ 200) : ∃ f' : FI, Ex mt 204 114 (il σ f g) [vR 8 (some a), vR 9 (some t)] (il σ f' g, [vI (((bT K L R (N - 1)).length : Nat) : Int)]) ∧ Pr a 1 (a + 1) f f' 0 (bT K L R (N - 1)) := by
  have hH1 : Hld (up2 f a 1 0) t N K L R := fun i hi => by
    obtain ⟨b1, b2, b3⟩ := hH i hi
    exact ⟨(u2_a (by omega)).trans b1, (u2_a (by omega)).trans b2, (u2_a (by omega)).trans b3⟩
  obtain ⟨f1, E, P⟩ := x_putRoot (g := g) (k := N - 1) hs ht (Or.inr (by omega)) (Nat.le_refl _) hw (by omega) u2_s hH1 hl hv
  have e3 : (up2 f a 1 0) t 3 - 1 = ((N - 1 : Nat) : Int) := by
    rw [u2_a (by omega), h3]
    omega
  refine ⟨f1, bk_X8_putAll_0 hs ht ?_, P.1, P.2.1, fun k hk => absurd hk (Nat.not_lt_zero k), fun c j hc ho => ?_⟩
  · rw [e3]
    refine ⟨by omega, f1, g, E, ?_⟩
    rw [P.1, Nat.zero_add]
  · rw [P.2.2.2 c j hc ho]
    unfold up2
    rw [if_neg hc]
/-- the class prints what it made shorter -/
theorem x_putShorterC {σ : St} {f : FI} {g : FL} {a t N : Nat} {K L R : FN} (hs : Sh8 σ a) (ht : Sh9 σ t N) (hta : a + 6 < t) (h3 : f t 3 = (N : Int)) (hH : Hld f t N K L R) (hw : Wf K L R N) (h1 : 1 ≤ N ∧ N ≤ 200) (hv : lv K L R (N - 1) ≤ 40) (hl : (bT K L R (N - 1)).length ≤ 200) {l : List Int} (el : l = bT (tRun true K L R N).1.2.1 (tRun true K L R N).1.2.2.1 (tRun true K L R N).1.2.2.2 ((tRun true K L R N).2 (N - 1))) : ∃ f' : FI, Ex mt 204 115 (il σ f g) [vR 8 (some a), vR 9 (some t)] (il σ f' g, [vI ((l.length : Nat) : Int)]) ∧ l.length ≤ 200 ∧ f' a 1 = ((l.length : Nat) : Int) ∧ (∀ k, k < l.length → f' (a + 1) k = l.getD k 0) ∧ ∀ b j, ¬ (b = a ∧ j = 1) → (b ≤ a ∨ a + 6 < b) → f' b j = f b j := by
  have hH1 : Hld (up2 f a 1 0) t N K L R := fun i hi => by
    obtain ⟨b1, b2, b3⟩ := hH i hi
    exact ⟨(u2_a (by omega)).trans b1, (u2_a (by omega)).trans b2, (u2_a (by omega)).trans b3⟩
  obtain ⟨f1, E1, Z, F1⟩ := x_shorten (σ := σ) (f := up2 f a 1 0) (g := g) hs ht (Or.inr (by omega)) (Nat.le_refl _) hw h1 (by rw [u2_a (by omega)]; exact h3) hH1
  obtain ⟨wz, nz, bz⟩ := tRun_bd hw N (Nat.le_refl _)
  obtain ⟨b1, b2, b3⟩ := bz (N - 1) (by omega)
  have b0 := b2 0 (by omega) (by omega)
  unfold tZ at b0
  rw [tZ_0, tZ_0, ← el] at b0
  obtain ⟨f2, E2, P⟩ := x_putRoot (g := g) (k := (tRun true K L R N).2 (N - 1)) hs hs.o2 (Or.inr (by omega)) (by omega) wz b1 (by rw [F1 _ _ (by omega), u2_s]) Z.2 (by rw [← el]; omega) (Nat.le_trans b3 hv)
  rw [← el] at P
  refine ⟨f2, bk_X8_putShorter_0 hs ht ⟨f1, g, _, E1, f2, g, E2, ?_⟩, by omega, ?_, fun k hk => ?_, fun b j hb h6 => ?_⟩
  · rw [P.1, Nat.zero_add]
  · rw [P.1, Nat.zero_add]
  · have := P.2.1 k hk
    rw [Nat.zero_add] at this
    exact this
  · rw [P.2.2.2 b j hb (by omega), F1 b j (by omega)]
    unfold up2
    rw [if_neg hb]
/-- the model prints -/
theorem x_tellM {σ : St} {f : FI} {g : FL} {M w w0 N : Nat} {K L R : FN} (b : Bool) (hm : Sh12 σ M) (h4 : f M 4 = (w0 : Int)) (h0 : w0 ≤ 12) (hww : w < w0) (hw : Wf K L R N) (h1 : 1 ≤ N ∧ N ≤ 200) (h5 : f (M + 5) w = (N : Int)) (hH : ∀ i, i < N → f (M + 2) (300 * w + i) = swp (K i) ∧ f (M + 3) (300 * w + i) = L i ∧ f (M + 4) (300 * w + i) = R i) (wz : WfZ (tRun b K L R N).1) (nz : (tRun b K L R N).1.1 ≤ N) (bz : (tRun b K L R N).2 (N - 1) < (tRun b K L R N).1.1) {l : List Int} (el : bT (tRun b K L R N).1.2.1 (tRun b K L R N).1.2.2.1 (tRun b K L R N).1.2.2.2 ((tRun b K L R N).2 (N - 1)) = l) (ll : l.length ≤ 200) : ∃ f' : FI, Ex mt 3 290 (il σ f g) [vR 12 (some M), vI (w : Int), vI (fl b)] (il σ f' g, [vI ((l.length : Nat) : Int)]) ∧ f' M 67 = ((l.length : Nat) : Int) ∧ (∀ k, k < l.length → f' (M + 45) k = l.getD k 0) ∧ Fr (fun a k => (a = M ∧ (k = 64 ∨ k = 67 ∨ k = 68)) ∨ (M + 41 ≤ a ∧ a ≤ M + 46)) f f' := by
  obtain ⟨f1, E1, Z, F1⟩ := x_rootM (g := g) b hm (by omega) hw h1 h5 hH
  obtain ⟨f2, E2, P2⟩ := x_later (σ := σ) (f := up2 (up2 f1 M 67 0) M 68 0) (g := g) (s := 0) (x := (((tRun b K L R N).2 (N - 1) : Nat) : Int)) hm u2_s (by omega)
  have Z2 : HM f2 M (tRun b K L R N).1 := by
    refine HM.pr (f := up2 (up2 f1 M 67 0) M 68 0) ⟨?_, fun j hj => ?_⟩ P2 (by decide) (Or.inr rfl)
    · rw [u2_i (by decide), u2_i (by decide)]
      exact Z.1
    · rw [u2_a (by omega), u2_a (by omega), u2_a (by omega), u2_a (by omega), u2_a (by omega), u2_a (by omega)]
      exact Z.2 j hj
  have t67 : f2 M 67 = ((0 : Nat) : Int) := by
    rw [P2.2.2.2 _ _ (by omega) (by omega), u2_i (by decide), u2_s]
    rfl
  have tp := P2.2.1 0 (by simp)
  rw [Nat.add_zero] at tp
  obtain ⟨f3, P3, K3⟩ := pr_node (σ := σ) (g := g) hm wz (by omega) _ bz 0 0 f2 Z2 t67 P2.1 tp (by rw [el]; omega) (by rw [el]; omega)
  rw [el] at P3
  refine ⟨f3, bk_X12_tell_0 hm ⟨⟨by omega, by omega⟩, fun _ => ⟨f1, g, _, E1, f2, g, E2, K3 _ (bk_X12_tell_32 hm ⟨fun _ => ?_, fun y => absurd (by rw [P3.2.2.2.1]; decide) y⟩)⟩, fun y => absurd (by omega) y⟩, ?_, fun k hk => ?_, fun a k hk => ?_⟩
  · rw [P3.1, Nat.zero_add]
  · rw [P3.1, Nat.zero_add]
  · have := P3.2.1 k hk
    rw [Nat.zero_add] at this
    exact this
  · rw [P3.2.2.2.2.2 a k (by omega) (by omega) (by omega), P2.2.2.2 a k (by omega) (by omega)]
    unfold up2
    rw [if_neg (by omega), if_neg (by omega)]
    exact F1 a k (by omega)
theorem c_tell {σ : St} {f : FI} {g : FL} {B w : Nat} {q md tr : Nat → Nat} (hs : Sh11 σ B) (hm : Sh12 σ (B + 165)) (hI : IW σ f g B w q md) (hT : TrW σ f B w q tr) (hX : IX f B) {x : Int} (b : Bool) (rx : -2147483648 ≤ x ∧ x ≤ 2147483647) : ∃ (v : Int) (f1 f2 : FI), Ex mt 205 175 (il σ f g) [vR 11 (some B), vI x, vI (fl b)] (il σ f1 g, [vI v]) ∧ Ex mt 3 290 (il σ f1 g) [vR 12 (some (B + 165)), vI x, vI (fl b)] (il σ f2 g, [vI v]) ∧ IX f2 B ∧ Fr (fun a k => (a = B + 36 ∧ k = 1) ∨ (B + 37 ≤ a ∧ a ≤ B + 42) ∨ (a = B + 165 ∧ (k = 64 ∨ k = 67 ∨ k = 68)) ∨ (B + 165 + 41 ≤ a ∧ a ≤ B + 165 + 46)) f f2 := by
  have w12 := hI.1.1
  have e4 : f (B + 165) 4 = (w : Int) := hI.1.2.2
  by_cases hc : (0 ≤ x ∧ x < w)
  · obtain ⟨j, rfl⟩ := Int.eq_ofNat_of_zero_le hc.1
    have hj : j < w := by omega
    obtain ⟨g1, tB, N, K, L, R, ht, h3, hH, hw, hN, hv, hl, h5, hM⟩ := hT j hj
    -- what both print
    have both : ∃ l : List Int, bT (tRun b K L R N).1.2.1 (tRun b K L R N).1.2.2.1 (tRun b K L R N).1.2.2.2 ((tRun b K L R N).2 (N - 1)) = l ∧ l.length ≤ 200 ∧ WfZ (tRun b K L R N).1 ∧ (tRun b K L R N).1.1 ≤ N ∧ (tRun b K L R N).2 (N - 1) < (tRun b K L R N).1.1 ∧ ∃ f1 : FI, Ex mt 205 175 (il σ f g) [vR 11 (some B), vI (j : Int), vI (fl b)] (il σ f1 g, [vI ((l.length : Nat) : Int)]) ∧ f1 (B + 36) 1 = ((l.length : Nat) : Int) ∧ (∀ k, k < l.length → f1 (B + 37) k = l.getD k 0) ∧ ∀ c i, ¬ (c = B + 36 ∧ i = 1) → (c ≤ B + 36 ∨ B + 36 + 6 < c) → f1 c i = f c i := by
      cases b with
      | true =>
        obtain ⟨wz, nz, bz⟩ := tRun_bd hw N (Nat.le_refl _)
        obtain ⟨f1, E, l2, a1, a2, a3⟩ := x_putShorterC (σ := σ) (f := f) (g := g) hs.o8 ht (by omega) h3 hH hw hN hv hl rfl
        exact ⟨_, rfl, l2, wz, nz, (bz (N - 1) (by omega)).1, f1, bk_X11_tell_0 hs (Or.inr ⟨f, g, q j, x_wishAt1 hs hI hj, fun y => absurd y (by decide), fun _ => ⟨tr j, g1, f1, g, _, E, rfl⟩⟩), a1, a2, a3⟩
      | false =>
        obtain ⟨wz, nz, bz⟩ := tRun_eq hw N (Nat.le_refl _)
        obtain ⟨b1, b2, b3⟩ := bz (N - 1) (by omega)
        obtain ⟨f1, E, P⟩ := x_putAllC (σ := σ) (f := f) (g := g) hs.o8 ht (by omega) h3 hH hw hN hv hl
        refine ⟨_, b3, hl, wz, nz, b1, f1, bk_X11_tell_0 hs (Or.inr ⟨f, g, q j, x_wishAt1 hs hI hj, fun _ => ⟨tr j, g1, f1, g, _, E, rfl⟩, fun y => absurd rfl y⟩), ?_, fun k hk => ?_, fun c i h1 h2 => P.2.2.2 c i h1 (by omega)⟩
        · rw [P.1, Nat.zero_add]
        · have := P.2.1 k hk
          rw [Nat.zero_add] at this
          exact this
    obtain ⟨l, el, ll, wz, nz, bz, f1, C, c1, c2, c3⟩ := both
    have kM : ∀ c i, B + 165 ≤ c → f1 c i = f c i := fun c i h => c3 c i (by omega) (by omega)
    obtain ⟨f2, E2, d1, d2, d3⟩ := x_tellM (σ := σ) (f := f1) (g := g) (M := B + 165) (w := j) (w0 := w) b hm (by rw [kM _ _ (by omega)]; exact e4) (by omega) hj hw hN (by rw [kM _ _ (by omega)]; exact h5) (fun i hi => by rw [kM _ _ (by omega), kM _ _ (by omega), kM _ _ (by omega)]; exact hM i hi) wz nz bz el ll
    have k2 : ∀ c i, c < B + 165 → f2 c i = f1 c i := fun c i h => d3 c i (by omega)
    refine ⟨_, f1, f2, C, E2, ⟨⟨?_, ?_, ?_⟩, fun i hi => ?_⟩, fun c i hci => ?_⟩
    · rw [k2 _ _ (by omega), c1, d1]
    · rw [k2 _ _ (by omega), c1]
      omega
    · rw [k2 _ _ (by omega), c1]
      omega
    · rw [k2 _ _ (by omega), c1] at hi
      rw [k2 _ _ (by omega), c2 i (by omega), d2 i (by omega)]
    · rw [d3 c i (by omega), c3 c i (by omega) (by omega)]
  · refine ⟨-1, f, f, bk_X11_tell_0 hs (Or.inl ⟨f, g, x_wishAt0 hs hI hc, rfl⟩), bk_X12_tell_0 hm ⟨⟨by omega, by omega⟩, fun y => absurd (by omega) hc, fun _ => rfl⟩, hX, Fr.rfl'⟩
