/-! gap: which boxes are written by a tick; shapes over a changed skeleton -/
/-- the skeleton has changed where shapes don't look -/
def KS (B : Nat) (σ σ' : St) : Prop := (∀ a, a < B + 220 → ln σ' a = ln σ a) ∧ (∀ a k, a < B + 220 → ¬ (a = B + 144 ∧ (k = 9 ∨ k = 10)) → ¬ a = B + 2 → ¬ (a = B + 5 ∧ k = 3) → ¬ a = B + 14 → gR σ' a k = gR σ a k) ∧ ((gR σ' (B + 144) 9 = some (B + 152) ∧ gR σ' (B + 144) 10 = some (B + 153)) ∨ (gR σ' (B + 144) 9 = some (B + 153) ∧ gR σ' (B + 144) 10 = some (B + 152)))
theorem Sh7.of {σ σ' : St} {a : Nat} (h : Sh7 σ a) (e1 : ∀ b, a ≤ b → b ≤ a + 5 → ln σ' b = ln σ b) (e2 : ∀ k, gR σ' a k = gR σ a k) : Sh7 σ' a := ⟨(e2 _).trans h.r0, (e1 _ (by omega) (by omega)).trans h.l0, (e2 _).trans h.r1, (e1 _ (by omega) (by omega)).trans h.l1, (e2 _).trans h.r2, (e1 _ (by omega) (by omega)).trans h.l2, (e2 _).trans h.r4, (e1 _ (by omega) (by omega)).trans h.l4, (e2 _).trans h.r5, (e1 _ (by omega) (by omega)).trans h.l5⟩
theorem KS.sh3 {σ σ' : St} {B : Nat} (h : KS B σ σ') (hs : Sh3 σ (B + 43)) : Sh3 σ' (B + 43) := by
  obtain ⟨l, r, -⟩ := h
  exact ⟨(r _ 0 (by omega) (by omega) (by omega) (by omega) (by omega)).trans hs.r0, (l _ (by omega)).trans hs.l0, (r _ 3 (by omega) (by omega) (by omega) (by omega) (by omega)).trans hs.r3, (l _ (by omega)).trans hs.l3, (r _ 5 (by omega) (by omega) (by omega) (by omega) (by omega)).trans hs.r5, (l _ (by omega)).trans hs.l5, (r _ 6 (by omega) (by omega) (by omega) (by omega) (by omega)).trans hs.r6, (l _ (by omega)).trans hs.l6, fun i h1 h2 => (r _ _ (by omega) (by omega) (by omega) (by omega) (by omega)).trans (hs.t_ i h1 h2), fun i h1 h2 => (hs.s_ i h1 h2).of (fun b h3 h4 => l _ (by unfold tA at h3 h4; omega)) (fun k => r _ _ (by unfold tA; omega) (by unfold tA; omega) (by unfold tA; omega) (by unfold tA; omega) (by unfold tA; omega))⟩
theorem KS.sh5 {σ σ' : St} {B : Nat} (h : KS B σ σ') (hs : Sh5 σ (B + 43)) : Sh5 σ' (B + 43) := by
  have h3 := h.sh3 hs.o0
  obtain ⟨l, r, w⟩ := h
  exact ⟨(r _ 0 (by omega) (by omega) (by omega) (by omega) (by omega)).trans hs.r0, h3, (r _ 1 (by omega) (by omega) (by omega) (by omega) (by omega)).trans hs.r1, (l _ (by omega)).trans hs.l1, (r _ 2 (by omega) (by omega) (by omega) (by omega) (by omega)).trans hs.r2, (l _ (by omega)).trans hs.l2, (r _ 4 (by omega) (by omega) (by omega) (by omega) (by omega)).trans hs.r4, (l _ (by omega)).trans hs.l4, (r _ 5 (by omega) (by omega) (by omega) (by omega) (by omega)).trans hs.r5, (l _ (by omega)).trans hs.l5, (r _ 6 (by omega) (by omega) (by omega) (by omega) (by omega)).trans hs.r6, (l _ (by omega)).trans hs.l6, (r _ 7 (by omega) (by omega) (by omega) (by omega) (by omega)).trans hs.r7, (l _ (by omega)).trans hs.l7, (r _ 8 (by omega) (by omega) (by omega) (by omega) (by omega)).trans hs.r8, (l _ (by omega)).trans hs.l8, w, (l _ (by omega)).trans hs.l9, (l _ (by omega)).trans hs.l10⟩
theorem KS.sh6 {σ σ' : St} {B : Nat} (h : KS B σ σ') (hs : Sh6 σ (B + 43)) : Sh6 σ' (B + 43) := by
  have h3 := h.sh3 hs.o0
  obtain ⟨l, r, w⟩ := h
  exact ⟨(r _ 0 (by omega) (by omega) (by omega) (by omega) (by omega)).trans hs.r0, h3, (r _ 1 (by omega) (by omega) (by omega) (by omega) (by omega)).trans hs.r1, (l _ (by omega)).trans hs.l1, (r _ 4 (by omega) (by omega) (by omega) (by omega) (by omega)).trans hs.r4, (l _ (by omega)).trans hs.l4, (r _ 6 (by omega) (by omega) (by omega) (by omega) (by omega)).trans hs.r6, (l _ (by omega)).trans hs.l6⟩
theorem KS.sh9 {σ σ' : St} {B b : Nat} (h : KS B σ σ') (h1 : b + 3 < B + 220) (h2 : B + 5 < b) (h3 : b ≠ B + 14) (h4 : b ≠ B + 144) {c : Nat} (hs : Sh9 σ b c) : Sh9 σ' b c := by
  obtain ⟨l, r, w⟩ := h
  exact ⟨(r _ 0 (by omega) (by omega) (by omega) (by omega) (by omega)).trans hs.r0, (l _ (by omega)).trans hs.l0, (r _ 1 (by omega) (by omega) (by omega) (by omega) (by omega)).trans hs.r1, (l _ (by omega)).trans hs.l1, (r _ 2 (by omega) (by omega) (by omega) (by omega) (by omega)).trans hs.r2, (l _ (by omega)).trans hs.l2⟩
theorem KS.sh11 {σ σ' : St} {B : Nat} (h : KS B σ σ') (hs : Sh11 σ B) : Sh11 σ' B := by
  have h3 := h.sh3 hs.o9
  have h5 := h.sh5 hs.o10
  have h6 := h.sh6 hs.o11
  have ha := h.sh9 (by omega) (by omega) (by omega) (by omega) hs.o6.o0
  have hb := h.sh9 (by omega) (by omega) (by omega) (by omega) hs.o8.o2
  obtain ⟨l, r, w⟩ := h
  exact ⟨(r _ 0 (by omega) (by omega) (by omega) (by omega) (by omega)).trans hs.r0, (l _ (by omega)).trans hs.l0, (r _ 2 (by omega) (by omega) (by omega) (by omega) (by omega)).trans hs.r2, (l _ (by omega)).trans hs.l2, (r _ 4 (by omega) (by omega) (by omega) (by omega) (by omega)).trans hs.r4, (l _ (by omega)).trans hs.l4, (r _ 5 (by omega) (by omega) (by omega) (by omega) (by omega)).trans hs.r5, (l _ (by omega)).trans hs.l5, (r _ 6 (by omega) (by omega) (by omega) (by omega) (by omega)).trans hs.r6, ⟨(r _ 0 (by omega) (by omega) (by omega) (by omega) (by omega)).trans hs.o6.r0, ha, (r _ 1 (by omega) (by omega) (by omega) (by omega) (by omega)).trans hs.o6.r1, (l _ (by omega)).trans hs.o6.l1, (r _ 2 (by omega) (by omega) (by omega) (by omega) (by omega)).trans hs.o6.r2, (l _ (by omega)).trans hs.o6.l2⟩, (r _ 7 (by omega) (by omega) (by omega) (by omega) (by omega)).trans hs.r7, ⟨(r _ 0 (by omega) (by omega) (by omega) (by omega) (by omega)).trans hs.o7.r0, (l _ (by omega)).trans hs.o7.l0, (r _ 1 (by omega) (by omega) (by omega) (by omega) (by omega)).trans hs.o7.r1, (l _ (by omega)).trans hs.o7.l1⟩, (r _ 8 (by omega) (by omega) (by omega) (by omega) (by omega)).trans hs.r8, ⟨(r _ 0 (by omega) (by omega) (by omega) (by omega) (by omega)).trans hs.o8.r0, (l _ (by omega)).trans hs.o8.l0, (r _ 2 (by omega) (by omega) (by omega) (by omega) (by omega)).trans hs.o8.r2, hb, (r _ 3 (by omega) (by omega) (by omega) (by omega) (by omega)).trans hs.o8.r3, (l _ (by omega)).trans hs.o8.l3⟩, (r _ 9 (by omega) (by omega) (by omega) (by omega) (by omega)).trans hs.r9, h3, (r _ 10 (by omega) (by omega) (by omega) (by omega) (by omega)).trans hs.r10, h5, (r _ 11 (by omega) (by omega) (by omega) (by omega) (by omega)).trans hs.r11, h6, (r _ 12 (by omega) (by omega) (by omega) (by omega) (by omega)).trans hs.r12, ⟨(r _ 0 (by omega) (by omega) (by omega) (by omega) (by omega)).trans hs.o12.r0, (l _ (by omega)).trans hs.o12.l0, (r _ 3 (by omega) (by omega) (by omega) (by omega) (by omega)).trans hs.o12.r3, (l _ (by omega)).trans hs.o12.l3, (r _ 4 (by omega) (by omega) (by omega) (by omega) (by omega)).trans hs.o12.r4, (l _ (by omega)).trans hs.o12.l4⟩, (r _ 13 (by omega) (by omega) (by omega) (by omega) (by omega)).trans hs.r13, ⟨(r _ 0 (by omega) (by omega) (by omega) (by omega) (by omega)).trans hs.o13.r0, (l _ (by omega)).trans hs.o13.l0, (r _ 1 (by omega) (by omega) (by omega) (by omega) (by omega)).trans hs.o13.r1, (l _ (by omega)).trans hs.o13.l1⟩⟩
theorem KS.sh12 {σ σ' : St} {B : Nat} (h : KS B σ σ') (hs : Sh12 σ (B + 165)) : Sh12 σ' (B + 165) := by
  obtain ⟨l, r, w⟩ := h
  exact ⟨(r _ 9 (by omega) (by omega) (by omega) (by omega) (by omega)).trans hs.r9, (l _ (by omega)).trans hs.l9, (r _ 10 (by omega) (by omega) (by omega) (by omega) (by omega)).trans hs.r10, (l _ (by omega)).trans hs.l10, (r _ 11 (by omega) (by omega) (by omega) (by omega) (by omega)).trans hs.r11, (l _ (by omega)).trans hs.l11, (r _ 12 (by omega) (by omega) (by omega) (by omega) (by omega)).trans hs.r12, (l _ (by omega)).trans hs.l12, (r _ 13 (by omega) (by omega) (by omega) (by omega) (by omega)).trans hs.r13, (l _ (by omega)).trans hs.l13, (r _ 14 (by omega) (by omega) (by omega) (by omega) (by omega)).trans hs.r14, (l _ (by omega)).trans hs.l14, (r _ 15 (by omega) (by omega) (by omega) (by omega) (by omega)).trans hs.r15, (l _ (by omega)).trans hs.l15, (r _ 16 (by omega) (by omega) (by omega) (by omega) (by omega)).trans hs.r16, (l _ (by omega)).trans hs.l16, (r _ 19 (by omega) (by omega) (by omega) (by omega) (by omega)).trans hs.r19, (l _ (by omega)).trans hs.l19, (r _ 20 (by omega) (by omega) (by omega) (by omega) (by omega)).trans hs.r20, (l _ (by omega)).trans hs.l20, (r _ 21 (by omega) (by omega) (by omega) (by omega) (by omega)).trans hs.r21, (l _ (by omega)).trans hs.l21, (r _ 22 (by omega) (by omega) (by omega) (by omega) (by omega)).trans hs.r22, (l _ (by omega)).trans hs.l22, (r _ 23 (by omega) (by omega) (by omega) (by omega) (by omega)).trans hs.r23, (l _ (by omega)).trans hs.l23, (r _ 24 (by omega) (by omega) (by omega) (by omega) (by omega)).trans hs.r24, (l _ (by omega)).trans hs.l24, (r _ 25 (by omega) (by omega) (by omega) (by omega) (by omega)).trans hs.r25, (l _ (by omega)).trans hs.l25, (r _ 26 (by omega) (by omega) (by omega) (by omega) (by omega)).trans hs.r26, (l _ (by omega)).trans hs.l26, (r _ 27 (by omega) (by omega) (by omega) (by omega) (by omega)).trans hs.r27, (l _ (by omega)).trans hs.l27, (r _ 28 (by omega) (by omega) (by omega) (by omega) (by omega)).trans hs.r28, (l _ (by omega)).trans hs.l28, (r _ 29 (by omega) (by omega) (by omega) (by omega) (by omega)).trans hs.r29, (l _ (by omega)).trans hs.l29, (r _ 30 (by omega) (by omega) (by omega) (by omega) (by omega)).trans hs.r30, (l _ (by omega)).trans hs.l30, (r _ 31 (by omega) (by omega) (by omega) (by omega) (by omega)).trans hs.r31, (l _ (by omega)).trans hs.l31, (r _ 32 (by omega) (by omega) (by omega) (by omega) (by omega)).trans hs.r32, (l _ (by omega)).trans hs.l32, (r _ 35 (by omega) (by omega) (by omega) (by omega) (by omega)).trans hs.r35, (l _ (by omega)).trans hs.l35, (r _ 36 (by omega) (by omega) (by omega) (by omega) (by omega)).trans hs.r36, (l _ (by omega)).trans hs.l36, (r _ 42 (by omega) (by omega) (by omega) (by omega) (by omega)).trans hs.r42, (l _ (by omega)).trans hs.l42, (r _ 43 (by omega) (by omega) (by omega) (by omega) (by omega)).trans hs.r43, (l _ (by omega)).trans hs.l43, (r _ 44 (by omega) (by omega) (by omega) (by omega) (by omega)).trans hs.r44, (l _ (by omega)).trans hs.l44, (r _ 45 (by omega) (by omega) (by omega) (by omega) (by omega)).trans hs.r45, (l _ (by omega)).trans hs.l45, (r _ 46 (by omega) (by omega) (by omega) (by omega) (by omega)).trans hs.r46, (l _ (by omega)).trans hs.l46, (r _ 47 (by omega) (by omega) (by omega) (by omega) (by omega)).trans hs.r47, (l _ (by omega)).trans hs.l47, (r _ 48 (by omega) (by omega) (by omega) (by omega) (by omega)).trans hs.r48, (l _ (by omega)).trans hs.l48, (r _ 49 (by omega) (by omega) (by omega) (by omega) (by omega)).trans hs.r49, (l _ (by omega)).trans hs.l49, (r _ 50 (by omega) (by omega) (by omega) (by omega) (by omega)).trans hs.r50, (l _ (by omega)).trans hs.l50, (r _ 52 (by omega) (by omega) (by omega) (by omega) (by omega)).trans hs.r52, (l _ (by omega)).trans hs.l52, (r _ 53 (by omega) (by omega) (by omega) (by omega) (by omega)).trans hs.r53, (l _ (by omega)).trans hs.l53, (r _ 55 (by omega) (by omega) (by omega) (by omega) (by omega)).trans hs.r55, (l _ (by omega)).trans hs.l55, (r _ 56 (by omega) (by omega) (by omega) (by omega) (by omega)).trans hs.r56, (l _ (by omega)).trans hs.l56, (r _ 57 (by omega) (by omega) (by omega) (by omega) (by omega)).trans hs.r57, (l _ (by omega)).trans hs.l57, (r _ 58 (by omega) (by omega) (by omega) (by omega) (by omega)).trans hs.r58, (l _ (by omega)).trans hs.l58, (r _ 59 (by omega) (by omega) (by omega) (by omega) (by omega)).trans hs.r59, (l _ (by omega)).trans hs.l59, (r _ 60 (by omega) (by omega) (by omega) (by omega) (by omega)).trans hs.r60, (l _ (by omega)).trans hs.l60, (r _ 61 (by omega) (by omega) (by omega) (by omega) (by omega)).trans hs.r61, (l _ (by omega)).trans hs.l61, (r _ 62 (by omega) (by omega) (by omega) (by omega) (by omega)).trans hs.r62, (l _ (by omega)).trans hs.l62, (r _ 63 (by omega) (by omega) (by omega) (by omega) (by omega)).trans hs.r63, (l _ (by omega)).trans hs.l63, (r _ 65 (by omega) (by omega) (by omega) (by omega) (by omega)).trans hs.r65, (l _ (by omega)).trans hs.l65, (r _ 66 (by omega) (by omega) (by omega) (by omega) (by omega)).trans hs.r66, (l _ (by omega)).trans hs.l66, (r _ 71 (by omega) (by omega) (by omega) (by omega) (by omega)).trans hs.r71, (l _ (by omega)).trans hs.l71, (r _ 72 (by omega) (by omega) (by omega) (by omega) (by omega)).trans hs.r72, (l _ (by omega)).trans hs.l72, (r _ 73 (by omega) (by omega) (by omega) (by omega) (by omega)).trans hs.r73, (l _ (by omega)).trans hs.l73, (r _ 74 (by omega) (by omega) (by omega) (by omega) (by omega)).trans hs.r74, (l _ (by omega)).trans hs.l74, (r _ 75 (by omega) (by omega) (by omega) (by omega) (by omega)).trans hs.r75, (l _ (by omega)).trans hs.l75, (r _ 76 (by omega) (by omega) (by omega) (by omega) (by omega)).trans hs.r76, (l _ (by omega)).trans hs.l76, (r _ 77 (by omega) (by omega) (by omega) (by omega) (by omega)).trans hs.r77, (l _ (by omega)).trans hs.l77, (r _ 78 (by omega) (by omega) (by omega) (by omega) (by omega)).trans hs.r78, (l _ (by omega)).trans hs.l78⟩
/-- the boxes of an order that are written by a tick, of the first k -/
def wbN (o : Nat → Int) (gp t : Int) : Nat → Nat
  | 0 => 0
  | k + 1 => if t < (k : Int) * gp then wbN o gp t k else wbN o gp t k ||| 2 ^ (o k).toNat
/-- in which tick a box of an order is written -/
def tkg (o : Nat → Int) (gp : Int) : Nat → Nat → Int
  | 0, _ => -1
  | k + 1, b => if o k = (b : Int) then gp * (k : Int) else tkg o gp k b
theorem wbN_1 {o : Nat → Int} {gp t : Int} {k : Nat} (h : t < (k : Int) * gp) : wbN o gp t (k + 1) = wbN o gp t k := if_pos h
theorem wbN_2 {o : Nat → Int} {gp t : Int} {k : Nat} (h : ¬ t < (k : Int) * gp) : wbN o gp t (k + 1) = wbN o gp t k ||| 2 ^ (o k).toNat := if_neg h
theorem tkg_1 {o : Nat → Int} {gp : Int} {k b : Nat} (h : o k = (b : Int)) : tkg o gp (k + 1) b = gp * (k : Int) := if_pos h
theorem tkg_2 {o : Nat → Int} {gp : Int} {k b : Nat} (h : ¬ o k = (b : Int)) : tkg o gp (k + 1) b = tkg o gp k b := if_neg h
theorem tkg_no {o : Nat → Int} {gp : Int} {b : Nat} : ∀ k, (∀ i, i < k → ¬ o i = (b : Int)) → tkg o gp k b = -1
  | 0, _ => rfl
  | k + 1, h => (tkg_2 (h k (by omega))).trans (tkg_no k fun i hi => h i (by omega))
theorem wbN_lt {o : Nat → Int} {gp t : Int} : ∀ k, (∀ i, i < k → 0 ≤ o i ∧ o i ≤ 7) → wbN o gp t k < 2 ^ 8
  | 0, _ => by show 0 < 256; omega
  | k + 1, h => by
    have ih := wbN_lt (o := o) (gp := gp) (t := t) k fun i hi => h i (by omega)
    have := h k (by omega)
    by_cases z : t < (k : Int) * gp
    · rw [wbN_1 z]; exact ih
    · rw [wbN_2 z]; exact or_lt ih (by omega)
theorem wbN_31 {o : Nat → Int} {gp t : Int} {k : Nat} (h : ∀ i, i < k → 0 ≤ o i ∧ o i ≤ 7) : wbN o gp t k < 2147483648 := Nat.lt_trans (wbN_lt k h) (by decide)
theorem mul_nn {gp : Int} {k : Nat} (h : 0 ≤ gp) : 0 ≤ gp * (k : Int) := Int.mul_nonneg h (by omega)
theorem wbN_bit {o : Nat → Int} {gp t : Int} {n : Nat} (h1 : ∀ i, i < n → 0 ≤ o i ∧ o i ≤ 7) (h2 : ∀ i j, i < j → j < n → ¬ o i = o j) (hg : 0 ≤ gp) : ∀ k, k ≤ n → ∀ b : Nat, ((wbN o gp t k).testBit b = true ↔ ¬ tkg o gp k b = -1 ∧ tkg o gp k b ≤ t)
  | 0, _, b => by simp [wbN, tkg]
  | k + 1, hk, b => by
    have ih := wbN_bit (t := t) h1 h2 hg k (by omega) b
    have hk1 := h1 k (by omega)
    have mm := mul_nn (k := k) hg
    have cm : (k : Int) * gp = gp * (k : Int) := Int.mul_comm _ _
    by_cases e : o k = (b : Int)
    · have en : (o k).toNat = b := by omega
      have e1 : tkg o gp k b = -1 := tkg_no k fun i hi z => h2 i k hi (by omega) (z.trans e.symm)
      rw [tkg_1 e]
      rw [e1] at ih
      by_cases z : t < (k : Int) * gp
      · rw [wbN_1 z, ih]
        exact ⟨fun y => absurd rfl y.1, fun y => by omega⟩
      · rw [wbN_2 z, or_bit, en]
        exact ⟨fun _ => by omega, fun _ => by simp⟩
    · have en : ¬ (o k).toNat = b := by omega
      rw [tkg_2 e]
      by_cases z : t < (k : Int) * gp
      · rw [wbN_1 z]; exact ih
      · rw [wbN_2 z, or_bit, decide_eq_false en, Bool.or_false]; exact ih
/-- all boxes of the order -/
theorem wbN_any {o : Nat → Int} {gp : Int} (hg : 0 ≤ gp) {n : Nat} (h1 : ∀ i, i < n → 0 ≤ o i ∧ o i ≤ 7) : ∀ k, k ≤ n → ∀ b : Nat, ((wbN o 0 0 k).testBit b = true ↔ ¬ tkg o gp k b = -1)
  | 0, _, b => by simp [wbN, tkg]
  | k + 1, hk, b => by
    have ih := wbN_any hg h1 k (by omega) b
    have hk1 := h1 k (by omega)
    have mm := mul_nn (k := k) hg
    have z : ¬ (0 : Int) < (k : Int) * 0 := by omega
    rw [wbN_2 z, or_bit]
    by_cases e : o k = (b : Int)
    · have en : (o k).toNat = b := by omega
      rw [tkg_1 e, en]
      exact ⟨fun _ => by omega, fun _ => by simp⟩
    · have en : ¬ (o k).toNat = b := by omega
      rw [tkg_2 e, decide_eq_false en, Bool.or_false]; exact ih
theorem wbN_all {o : Nat → Int} {gp t : Int} : ∀ k, (∀ i : Nat, i < k → (i : Int) * gp ≤ t) → wbN o gp t k = wbN o 0 0 k
  | 0, _ => rfl
  | k + 1, h => by
    have := h k (by omega)
    rw [wbN_2 (by omega), wbN_2 (by omega), wbN_all k fun i hi => h i (by omega)]
theorem us_bit (tk : Nat → Int) (b : Nat) : ∀ k, ((us tk k).testBit b = true ↔ b < k ∧ ¬ tk b = -1)
  | 0 => by simp [us]
  | k + 1 => by
    have ih := us_bit tk b k
    unfold us
    by_cases e : tk k = -1
    · rw [if_pos e, ih]
      constructor
      · exact fun y => ⟨by omega, y.2⟩
      · intro y
        refine ⟨?_, y.2⟩
        by_cases z : b = k
        · subst z; exact absurd e y.2
        · omega
    · rw [if_neg e, or_bit]
      by_cases z : k = b
      · subst z
        simp [e]
      · rw [decide_eq_false z, Bool.or_false, ih]
        exact ⟨fun y => ⟨by omega, y.2⟩, fun y => ⟨by omega, y.2⟩⟩
theorem us_tkg {o : Nat → Int} {gp : Int} (hg : 0 ≤ gp) {n : Nat} (h1 : ∀ i, i < n → 0 ≤ o i ∧ o i ≤ 7) : us (tkg o gp n) 8 = wbN o 0 0 n := by
  refine bit_ext (n := 8) (us_lt _ _) (wbN_lt n h1) fun i hi => ?_
  have a := us_bit (tkg o gp n) i 8
  have b := wbN_any hg h1 n (Nat.le_refl _) i
  cases e1 : (us (tkg o gp n) 8).testBit i <;> cases e2 : (wbN o 0 0 n).testBit i
  · rfl
  · rw [e1] at a; rw [e2] at b; exact absurd (a.mpr ⟨hi, b.mp rfl⟩) (by decide)
  · rw [e1] at a; rw [e2] at b; exact absurd (b.mpr (a.mp rfl).2) (by decide)
  · rfl
theorem GB_wb {f : FI} {g : FL} {B : Nat} {o : Nat → Int} {gp t : Int} {n : Nat} (h1 : ∀ i, i < n → 0 ≤ o i ∧ o i ≤ 7) (h2 : ∀ i j, i < j → j < n → ¬ o i = o j) (hg : 0 ≤ gp) {p : Int} (hp : pk p) : GB f g B (wbN o gp t n : Nat) p = GK f g B (tkg o gp n) t p := by
  have b := wbN_bit (t := t) h1 h2 hg n (Nat.le_refl _) (p / 64).toNat
  rw [← hB_nat] at b
  have e : (((p / 64).toNat : Nat) : Int) = p / 64 := by omega
  rw [e] at b
  unfold GB GK
  by_cases z : ¬ tkg o gp n (p / 64).toNat = -1 ∧ tkg o gp n (p / 64).toNat ≤ t
  · rw [bI_t z, show ((wbN o gp t n : Nat) : Int) / p2 (p / 64) % 2 = 1 from b.mpr z]
  · have := (Int.emod_two_eq (((wbN o gp t n : Nat) : Int) / p2 (p / 64))).resolve_right fun y => z (b.mp y)
    rw [bI_f z, this]
def A_X5_writtenBy_5 (σ : St) (f : FI) (g : FL) (n : Nat) (x1 : Int) (x2 : Int) (x3 : Int) (x4 : Int) (r : St × List Vl) : Prop := Gx mt 0 cd_X5_writtenBy (il σ f g) (cd_X5_writtenBy 5) [some (vR 5 (some (n + 101))), some (vI x1), some (vI x2), some (vI x3), some (vI x4)] [] r
theorem bk_X5_writtenBy_0 {σ : St} {f : FI} {g : FL} {n : Nat} {x1 : Int} {x2 : Int} {r : St × List Vl} (hs : Sh5 σ n) (h : (A_X5_writtenBy_5 σ f g n x1 x2 0 0 r)) : Ex mt 0 83 (il σ f g) [vR 5 (some (n + 101)), vI x1, vI x2] r := Ex.mk mt_83 (show Gx mt 0 cd_X5_writtenBy (il σ f g) b_X5_writtenBy_0 [some (vR 5 (some (n + 101))), some (vI x1), some (vI x2), none, none] [] r from (go_pushI rfl (go_stoI rfl rfl (go_pushI rfl (go_stoI rfl rfl (go_fall (h)))))))
theorem bk_X5_writtenBy_5 {σ : St} {f : FI} {g : FL} {n : Nat} {x1 : Int} {x2 : Int} {x3 : Int} {x4 : Int} {r : St × List Vl} (hs : Sh5 σ n) (h : (((f (n + 101) 3) ≤ x4 → (r = ((il σ f g), [vI x3]))) ∧ (¬ (f (n + 101) 3) ≤ x4 → ((-2147483648 ≤ (x4 * x2) ∧ (x4 * x2) ≤ 2147483647)) ∧ ((x1 < (x4 * x2) → ((-2147483648 ≤ (x4 + 1) ∧ (x4 + 1) ≤ 2147483647)) ∧ (A_X5_writtenBy_5 σ f g n x1 x2 (iOr x3 0) (x4 + 1) r)) ∧ (¬ x1 < (x4 * x2) → ((0 ≤ x4 ∧ x4 < 8) ∧ (0 ≤ (f (n + 103) ((x4).toNat)) ∧ (f (n + 103) ((x4).toNat)) < 31)) ∧ ((-2147483648 ≤ (x4 + 1) ∧ (x4 + 1) ≤ 2147483647)) ∧ (A_X5_writtenBy_5 σ f g n x1 x2 (iOr x3 (p2 (f (n + 103) ((x4).toNat)))) (x4 + 1) r)))))) : A_X5_writtenBy_5 σ f g n x1 x2 x3 x4 r := (show Gx mt 0 cd_X5_writtenBy (il σ f g) b_X5_writtenBy_5 [some (vR 5 (some (n + 101))), some (vI x1), some (vI x2), some (vI x3), some (vI x4)] [] r from (go_loadI rfl (go_loadA rfl (gi_getI (gq_icmp_ge (fun e3 => have h1 := h.1 e3; (go_loadI rfl (h1 ▸ gq_retI))) (fun e3 => have h2 := h.2 e3; (go_loadI rfl (go_loadI rfl (go_loadI rfl (go_imul h2.1 (go_loadI rfl (gq_icmp_gt (fun e6 => have h4 := h2.2.1 e6; (go_pushI rfl (go_fall (go_ior rfl (go_stoI rfl rfl (go_iinc rfl h4.1 rfl (go_goto (h4.2)))))))) (fun e6 => have h5 := h2.2.2 e6; (go_pushI rfl (go_loadA rfl (gi_getR (Sh5.r2 hs) (go_loadI rfl (gi_iald (inl_ (Sh5.l2 hs) h5.1.1) (go_ishl (iShl_1 h5.1.2) (go_goto (go_ior rfl (go_stoI rfl rfl (go_iinc rfl h5.2.1 rfl (go_goto (h5.2.2)))))))))))))))))))))))))
theorem x_writtenBy {σ : St} {f : FI} {g : FL} {B n : Nat} {gp t : Int} (hs : Sh5 σ (B + 43)) (hn : f (B + 144) 3 = (n : Int)) (h8 : n ≤ 8) (ho : ∀ i, i < n → 0 ≤ f (B + 146) i ∧ f (B + 146) i ≤ 7) (hg : 0 ≤ gp ∧ gp ≤ 9) : Ex mt 0 83 (il σ f g) [vR 5 (some (B + 144)), vI t, vI gp] (il σ f g, [vI (wbN (f (B + 146)) gp t n : Nat)]) := by
  have loop : ∀ k i : Nat, i + k = n → A_X5_writtenBy_5 σ f g (B + 43) t gp (wbN (f (B + 146)) gp t i : Nat) (i : Int) (il σ f g, [vI (wbN (f (B + 146)) gp t n : Nat)]) := by
    intro k
    induction k with
    | zero =>
      intro i hi
      obtain rfl : i = n := by omega
      exact bk_X5_writtenBy_5 hs ⟨fun _ => rfl, fun z => absurd (by rw [show f (B + 43 + 101) 3 = (i : Int) from hn]; omega) z⟩
    | succ k ih =>
      intro i hi
      have A := ih (i + 1) (by omega)
      have oi := ho i (by omega)
      have ul := wbN_31 (o := f (B + 146)) (gp := gp) (t := t) (k := i) fun j hj => ho j (by omega)
      have m1 : 0 ≤ (i : Int) * gp := Int.mul_nonneg (by omega) hg.1
      have m2 : (i : Int) * gp ≤ 8 * 9 := Int.mul_le_mul (by omega) hg.2 hg.1 (by omega)
      refine bk_X5_writtenBy_5 hs ⟨fun z => absurd z (by rw [show f (B + 43 + 101) 3 = (n : Int) from hn]; omega), fun _ => ⟨by omega, fun z => ⟨by omega, ?_⟩, fun z => ⟨⟨by omega, ?_⟩, by omega, ?_⟩⟩⟩
      · rw [wbN_1 z] at A
        rw [iOr_0 ul]
        exact A
      · show 0 ≤ f (B + 146) i ∧ f (B + 146) i < 31
        omega
      · rw [wbN_2 z] at A
        have e : f (B + 146) i = ((f (B + 146) i).toNat : Int) := by omega
        rw [show p2 (f (B + 43 + 103) ((i : Int)).toNat) = p2 (((f (B + 146) i).toNat : Nat) : Int) from congrArg p2 e, iOr_p2 ul (by omega)]
        exact A
  exact bk_X5_writtenBy_0 hs (loop n 0 (by omega))
