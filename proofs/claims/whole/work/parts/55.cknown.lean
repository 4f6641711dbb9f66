/-! known: both -/
theorem Clo_cong {n : Nat} {e o : Nat → Nat} {D : Nat} {on on' : Nat → Prop} (h : ∀ i, i < n → (on i ↔ on' i)) {R : Nat} : Clo n e o D on R ↔ Clo n e o D on' R := ⟨fun z => ⟨z.1, fun i hi y => z.2 i hi ((h i hi).mpr y)⟩, fun z => ⟨z.1, fun i hi y => z.2 i hi ((h i hi).mp y)⟩⟩
theorem Okr_cong {n : Nat} {e o : Nat → Nat} {D : Nat} {on on' : Nat → Prop} (h : ∀ i, i < n → (on i ↔ on' i)) {a T : Nat} (k : Okr n e o D on a T) : Okr n e o D on' a T := ⟨k.1, k.2.1, fun R hR => k.2.2 R ((Clo_cong h).mpr hR)⟩
/-- the cables as class and model hold them -/
def CC (f : FI) (a n : Nat) (e o : Nat → Nat) (D : Nat) : Prop := f a 2 = (n : Int) ∧ f a 3 = (D : Int) ∧ ∀ i, i < n → f (a + 1) i = (e i : Int) ∧ f (a + 2) i = (o i : Int)
def CM (f : FI) (M n : Nat) (e o : Nat → Nat) (D : Nat) : Prop := f M 69 = (n : Int) ∧ f M 70 = (D : Int) ∧ ∀ i, i < n → f (M + 47) i = (e i : Int) ∧ f (M + 48) i = (o i : Int)
theorem IC.cab {f : FI} {B : Nat} (h : IC f B) : ∃ (n : Nat) (e o : Nat → Nat) (D : Nat), Cab n e o D ∧ CC f (B + 162) n e o D ∧ CM f (B + 165) n e o D := by
  obtain ⟨⟨h1, h2, h3⟩, ⟨h4, h5, h6⟩, h7⟩ := h
  obtain ⟨n, hn⟩ := Int.eq_ofNat_of_zero_le h2
  obtain ⟨D, hD⟩ := Int.eq_ofNat_of_zero_le h5
  have q : ∀ i : Nat, i < n → (f (B + 163) i = f (B + 165 + 47) i ∧ f (B + 164) i = f (B + 165 + 48) i) ∧ (0 ≤ f (B + 163) i ∧ f (B + 163) i ≤ 7) ∧ (0 ≤ f (B + 164) i ∧ f (B + 164) i ≤ 7) ∧ ¬ f (B + 163) i = f (B + 164) i := fun i hi => h7 i (by rw [hn]; omega)
  refine ⟨n, fun i => (f (B + 163) i).toNat, fun i => (f (B + 164) i).toNat, D, ⟨by omega, by omega, fun i hi => ?_⟩, ⟨hn, hD, fun i hi => ?_⟩, ⟨by rw [← h1]; exact hn, by rw [← h4]; exact hD, fun i hi => ?_⟩⟩
  · have := q i hi
    dsimp only
    omega
  · have := q i hi
    show f (B + 163) i = _ ∧ f (B + 164) i = _
    dsimp only
    omega
  · have := q i hi
    dsimp only
    omega
theorem x_knownWith {σ : St} {f : FI} {g : FL} {a n D tp : Nat} {e o : Nat → Nat} (hs : Sh0 σ a) (hc : Cab n e o D) (h : CC f a n e o D) (htp : tp < 2 ^ n) : ∃ K : Nat, K < 2 ^ n ∧ (∀ c, c < n → (K.testBit c = true ↔ Kn n e o D tp c)) ∧ Ex mt 3 3 (il σ f g) [vR 0 (some a), vI (tp : Int)] (il σ f g, [vI (K : Int)]) := by
  have n16 := hc.1
  have pn : 2 ^ n ≤ 2 ^ 16 := Nat.pow_le_pow_right (by decide) n16
  have p16 : 2 ^ 16 = 65536 := rfl
  have loop : ∀ k i : Nat, i + k = n → ∀ b : Nat, b < 2 ^ n → (∀ c, c < i → (b.testBit c = true ↔ Kn n e o D tp c)) → (∀ c, i ≤ c → b.testBit c = tp.testBit c) → ∃ K : Nat, K < 2 ^ n ∧ (∀ c, c < n → (K.testBit c = true ↔ Kn n e o D tp c)) ∧ A_X0_knownWith_4 σ f g a (tp : Int) (b : Int) (i : Int) (il σ f g, [vI (K : Int)]) := by
    intro k
    induction k with
    | zero =>
      intro i hi b hb h1 h2
      obtain rfl : i = n := by omega
      exact ⟨b, hb, h1, bk_X0_knownWith_4 hs ⟨fun _ => rfl, fun z => absurd (by rw [h.1]; omega) z⟩⟩
    | succ k ih =>
      intro i hi b hb h1 h2
      have hin : i < n := by omega
      have nge : ¬ f a 2 ≤ (i : Int) := by rw [h.1]; omega
      have ob : ((-2147483648 : Int) ≤ (tp : Int) ∧ (tp : Int) ≤ 2147483647) ∧ ((0 : Int) ≤ (i : Int) ∧ (i : Int) < 32) := ⟨by omega, by omega⟩
      have keep : (tp.testBit i = true ↔ Kn n e o D tp i) → ∃ K : Nat, K < 2 ^ n ∧ (∀ c, c < n → (K.testBit c = true ↔ Kn n e o D tp c)) ∧ A_X0_knownWith_4 σ f g a (tp : Int) (b : Int) ((i : Int) + 1) (il σ f g, [vI (K : Int)]) := fun q => ih (i + 1) (by omega) b hb (fun c hc2 => by
        by_cases z : c = i
        · rw [z, h2 i (Nat.le_refl _)]; exact q
        · exact h1 c (by omega)) (fun c hc2 => h2 c (by omega))
      by_cases ht : tp.testBit i = true
      · obtain ⟨K, k1, k2, A⟩ := keep ⟨fun z => Or.inl z, fun _ => ht⟩
        exact ⟨K, k1, k2, bk_X0_knownWith_4 hs ⟨fun z => absurd z nge, fun _ => ⟨ob, fun _ => ⟨by omega, A⟩, fun z => absurd (hB_nat.mpr ht) z⟩⟩⟩
      · obtain ⟨T, t1, t2, E⟩ := x_isOnRing (σ := σ) (f := f) (g := g) (c := i) (tp := tp) hs hc h.1 h.2.1 h.2.2 hin (by omega)
        have kn := Kn_of hc hin t1 t2
        by_cases hT : T.testBit (o i) = true
        · obtain ⟨K, k1, k2, A⟩ := keep ⟨fun z => absurd z ht, fun z => z.elim id fun y => absurd hT (kn.mp y)⟩
          exact ⟨K, k1, k2, bk_X0_knownWith_4 hs ⟨fun z => absurd z nge, fun _ => ⟨ob, fun z => absurd (hB_nat.mp z) ht, fun _ => ⟨f, g, _, E, fun _ => ⟨by omega, A⟩, fun z => absurd (hB_nat.mpr hT) ((bI_0 _).mp z)⟩⟩⟩⟩
        · obtain ⟨K, k1, k2, A⟩ := ih (i + 1) (by omega) (b ||| 2 ^ i) (or_lt hb hin) (fun c hc2 => by
            rw [or_bit]
            by_cases z : c = i
            · rw [z]
              exact ⟨fun _ => Or.inr (kn.mpr hT), fun _ => by simp⟩
            · have : ¬ i = c := fun y => z y.symm
              simp only [this, decide_false, Bool.or_false]
              exact h1 c (by omega)) (fun c hc2 => by
            rw [or_bit]
            have : ¬ i = c := by omega
            simp only [this, decide_false, Bool.or_false]
            exact h2 c (by omega))
          refine ⟨K, k1, k2, bk_X0_knownWith_4 hs ⟨fun z => absurd z nge, fun _ => ⟨ob, fun z => absurd (hB_nat.mp z) ht, fun _ => ⟨f, g, _, E, fun z => absurd (bI_f fun y => hT (hB_nat.mp y)) z, fun _ => ⟨by omega, by omega, ?_⟩⟩⟩⟩⟩
          rw [iOr_p2 (by omega) (by omega)]
          exact A
  obtain ⟨K, k1, k2, A⟩ := loop n 0 (by omega) tp htp (fun c hc2 => absurd hc2 (Nat.not_lt_zero c)) (fun _ _ => rfl)
  exact ⟨K, k1, k2, bk_X0_knownWith_0 hs A⟩
theorem x_isKnown {σ : St} {f : FI} {g : FL} {M n D tp c : Nat} {e o : Nat → Nat} (hm : Sh12 σ M) (hc : Cab n e o D) (h : CM f M n e o D) (htp : tp < 65536) (hcn : c < n) : ∃ v : Int, (v = 0 ∨ v = 1) ∧ (v = 1 ↔ Kn n e o D tp c) ∧ Ex mt 1 295 (il σ f g) [vR 12 (some M), vI (c : Int), vI (tp : Int)] (il σ f g, [vI v]) := by
  have n16 := hc.1
  have pn : 2 ^ n ≤ 2 ^ 16 := Nat.pow_le_pow_right (by decide) n16
  have p16 : 2 ^ 16 = 65536 := rfl
  have pos : 0 < 2 ^ n := Nat.two_pow_pos n
  have pc : 2 ^ c < 2 ^ 16 := p2_lt (by omega)
  by_cases ht : tp.testBit c = true
  · exact ⟨1, Or.inr rfl, ⟨fun _ => Or.inl ht, fun _ => rfl⟩, bk_X12_isKnown_0 hm ⟨⟨by omega, by omega⟩, fun z => absurd (hB_nat.mpr ht) z, fun _ => rfl⟩⟩
  · have hcc := hc.2.2 c hcn
    have e1 : p2 (f M 69) - 1 = ((2 ^ n - 1 : Nat) : Int) := by rw [h.1, p2_Nat]; omega
    have le1 : (2 ^ n - 1) &&& (2 ^ 32 - (tp + 1)) ≤ 2 ^ n - 1 := Nat.and_le_left
    have eb : iAnd (iAnd (p2 (f M 69) - 1) (-1 - (tp : Int))) (-1 - p2 (c : Int)) = ((((2 ^ n - 1) &&& (2 ^ 32 - (tp + 1))) &&& (2 ^ 32 - (2 ^ c + 1)) : Nat) : Int) := by
      rw [e1, iAnd_not (by omega) (by omega), p2_Nat, iAnd_not (by omega) (by omega)]
    have le2 : ((2 ^ n - 1) &&& (2 ^ 32 - (tp + 1))) &&& (2 ^ 32 - (2 ^ c + 1)) ≤ (2 ^ n - 1) &&& (2 ^ 32 - (tp + 1)) := Nat.and_le_left
    have on : ∀ i, i < n → ((((2 ^ n - 1) &&& (2 ^ 32 - (tp + 1))) &&& (2 ^ 32 - (2 ^ c + 1))).testBit i = true ↔ (¬ i = c ∧ tp.testBit i = false)) := fun i hi => by
      rw [and_not_bit (by omega) (by omega), and_not_bit (by omega) (by omega), Nat.testBit_two_pow_sub_one, Nat.testBit_two_pow]
      have : ¬ c = i ↔ ¬ i = c := ⟨fun z y => z y.symm, fun z y => z y.symm⟩
      simp [hi, this, and_comm]
    obtain ⟨T, t1, t2, E⟩ := x_reached (σ := σ) (f := f) (g := g) (a := e c) (b0 := ((2 ^ n - 1) &&& (2 ^ 32 - (tp + 1))) &&& (2 ^ 32 - (2 ^ c + 1))) hm hc h.1 h.2.1 h.2.2 hcc.1 (by omega)
    rw [← eb, ← (h.2.2 c hcn).1] at E
    have kn := Kn_of hc hcn (Okr_cong on t1) ((Clo_cong on).mp t2)
    have T8 := t1.1
    have fo : f (M + 48) (c : Int).toNat = (o c : Int) := (h.2.2 c hcn).2
    have ob : ((0 : Int) ≤ f M 69 ∧ f M 69 < 31) ∧ (-2147483648 ≤ p2 (f M 69) - 1 ∧ p2 (f M 69) - 1 ≤ 2147483647) ∧ ((-2147483648 : Int) ≤ (tp : Int) ∧ (tp : Int) ≤ 2147483647) ∧ ((0 : Int) ≤ (c : Int) ∧ (c : Int) < 31) ∧ (-2147483648 ≤ p2 (c : Int) ∧ p2 (c : Int) ≤ 2147483647) ∧ ((0 : Int) ≤ (c : Int) ∧ (c : Int) < 16) := by
      rw [e1, h.1, p2_Nat]
      generalize hz : 2 ^ c = z at pc
      exact ⟨by omega, by omega, by omega, by omega, by omega, by omega⟩
    have ob2 : ((0 : Int) ≤ (c : Int) ∧ (c : Int) < 16) ∧ ((-2147483648 : Int) ≤ (T : Int) ∧ (T : Int) ≤ 2147483647) ∧ ((0 : Int) ≤ f (M + 48) (c : Int).toNat ∧ f (M + 48) (c : Int).toNat < 32) := by rw [fo]; exact ⟨by omega, by omega, by omega⟩
    have bit : (T : Int) / p2 (f (M + 48) (c : Int).toNat) % 2 = 0 ↔ ¬ T.testBit (o c) = true := by
      rw [fo, ← hB_nat]
      unfold hB
      omega
    by_cases hT : T.testBit (o c) = true
    · exact ⟨0, Or.inl rfl, ⟨fun z => absurd z (by decide), fun z => z.elim (fun y => absurd y ht) fun y => absurd hT (kn.mp y)⟩, bk_X12_isKnown_0 hm ⟨⟨by omega, by omega⟩, fun _ => ⟨ob, f, g, _, E, ob2, fun _ => rfl, fun z => absurd hT (bit.mp z)⟩, fun z => absurd (hB_nat.mp z) ht⟩⟩
    · exact ⟨1, Or.inr rfl, ⟨fun _ => Or.inr (kn.mpr hT), fun _ => rfl⟩, bk_X12_isKnown_0 hm ⟨⟨by omega, by omega⟩, fun _ => ⟨ob, f, g, _, E, ob2, fun z => absurd (bit.mpr hT) z, fun _ => rfl⟩, fun z => absurd (hB_nat.mp z) ht⟩⟩
theorem x_areThere {σ : St} {f : FI} {g : FL} {a n D : Nat} {e o : Nat → Nat} (hs : Sh0 σ a) (hc : Cab n e o D) (h : CC f a n e o D) (x : Int) : ∃ v : Int, (v = 0 ∨ v = 1) ∧ (v = 1 ↔ 0 ≤ x ∧ x < ((2 ^ n : Nat) : Int)) ∧ Ex mt 1 2 (il σ f g) [vR 0 (some a), vI x] (il σ f g, [vI v]) := by
  have n16 := hc.1
  have pn : 2 ^ n ≤ 2 ^ 16 := Nat.pow_le_pow_right (by decide) n16
  have p16 : 2 ^ 16 = 65536 := rfl
  have pos : 0 < 2 ^ n := Nat.two_pow_pos n
  have E := bk_X0_areThere_0 (σ := σ) (f := f) (g := g) (x1 := x) hs ⟨⟨by rw [h.1]; omega, by rw [h.1, p2_Nat]; omega⟩, rfl⟩
  refine ⟨_, by have := bI_01 (0 ≤ x ∧ x ≤ p2 (f a 2) - 1); omega, ?_, E⟩
  rw [bI_1, h.1, p2_Nat]
  omega
theorem x_isCables {σ : St} {f : FI} {g : FL} {M n D : Nat} {e o : Nat → Nat} (hm : Sh12 σ M) (hc : Cab n e o D) (h : CM f M n e o D) {x : Int} (rx : -2147483648 ≤ x ∧ x ≤ 2147483647) : ∃ v : Int, (v = 0 ∨ v = 1) ∧ (v = 1 ↔ 0 ≤ x ∧ x < ((2 ^ n : Nat) : Int)) ∧ Ex mt 0 296 (il σ f g) [vR 12 (some M), vI x] (il σ f g, [vI v]) := by
  have n16 := hc.1
  have pos : 0 < 2 ^ n := Nat.two_pow_pos n
  by_cases h0 : x < 0
  · exact ⟨0, Or.inl rfl, ⟨fun z => absurd z (by decide), fun z => by omega⟩, bk_X12_isCables_0 hm ⟨fun _ => rfl, fun z => absurd h0 z⟩⟩
  · obtain ⟨k, rfl⟩ := Int.eq_ofNat_of_zero_le (Int.not_lt.mp h0)
    have q : (k : Int) / p2 (f M 69) = 0 ↔ k < 2 ^ n := by
      rw [h.1, idiv_p2]
      have := Nat.div_eq_zero_iff (a := k) (b := 2 ^ n)
      omega
    by_cases h1 : k < 2 ^ n
    · exact ⟨1, Or.inr rfl, ⟨fun _ => by omega, fun _ => rfl⟩, bk_X12_isCables_0 hm ⟨fun z => absurd z h0, fun _ => ⟨⟨rx, by rw [h.1]; omega⟩, fun z => absurd (q.mpr h1) z, fun _ => rfl⟩⟩⟩
    · exact ⟨0, Or.inl rfl, ⟨fun z => absurd z (by decide), fun z => by omega⟩, bk_X12_isCables_0 hm ⟨fun z => absurd z h0, fun _ => ⟨⟨rx, by rw [h.1]; omega⟩, fun _ => rfl, fun z => absurd (q.mp z) h1⟩⟩⟩
theorem c_known {σ : St} {f : FI} {g : FL} {B : Nat} (hs : Sh11 σ B) (hm : Sh12 σ (B + 165)) (h : IC f B) {x : Int} (rx : -2147483648 ≤ x ∧ x ≤ 2147483647) : ∃ v : Int, Ex mt 4 179 (il σ f g) [vR 11 (some B), vI x] (il σ f g, [vI v]) ∧ Ex mt 2 297 (il σ f g) [vR 12 (some (B + 165)), vI x] (il σ f g, [vI v]) := by
  obtain ⟨n, e, o, D, hc, h1, h2⟩ := h.cab
  have n16 := hc.1
  have pn : 2 ^ n ≤ 2 ^ 16 := Nat.pow_le_pow_right (by decide) n16
  have p16 : 2 ^ 16 = 65536 := rfl
  obtain ⟨v, v1, v2, E1⟩ := x_areThere (σ := σ) (g := g) hs.o13 hc h1 x
  obtain ⟨w, w1, w2, E2⟩ := x_isCables (σ := σ) (g := g) hm hc h2 rx
  by_cases hx : 0 ≤ x ∧ x < ((2 ^ n : Nat) : Int)
  · obtain ⟨tp, rfl⟩ := Int.eq_ofNat_of_zero_le hx.1
    have htp : tp < 2 ^ n := by omega
    obtain ⟨K, k1, k2, E3⟩ := x_knownWith (σ := σ) (g := g) hs.o13 hc h1 htp
    have vv := v2.mpr hx
    have ww := w2.mpr hx
    subst vv ww
    have loop : ∀ k i : Nat, i + k = n → ∀ b : Nat, b < 2 ^ i → (∀ c, c < i → (b.testBit c = true ↔ Kn n e o D tp c)) → A_X12_known_14 σ f g (B + 165) (tp : Int) (b : Int) (i : Int) (il σ f g, [vI (K : Int)]) := by
      intro k
      induction k with
      | zero =>
        intro i hi b hb hq
        obtain rfl : i = n := by omega
        have : b = K := bit_ext hb k1 fun c hc2 => by
          have a := hq c hc2
          have d := k2 c hc2
          cases y : b.testBit c <;> cases z : K.testBit c
          · rfl
          · rw [y] at a; exact absurd (a.mpr (d.mp z)) (by decide)
          · rw [z] at d; exact absurd (d.mpr (a.mp y)) (by decide)
          · rfl
        subst this
        exact bk_X12_known_14 hm ⟨fun _ => rfl, fun z => absurd (by rw [h2.1]; omega) z⟩
      | succ k ih =>
        intro i hi b hb hq
        have hin : i < n := by omega
        have pi : 2 ^ i ≤ 2 ^ 16 := Nat.pow_le_pow_right (by decide) (by omega)
        have nge : ¬ f (B + 165) 69 ≤ (i : Int) := by rw [h2.1]; omega
        obtain ⟨u, u1, u2, E⟩ := x_isKnown (σ := σ) (g := g) (tp := tp) hm hc h2 (by omega) hin
        rcases u1 with rfl | rfl
        · have A := ih (i + 1) (by omega) b (by rw [Nat.pow_succ]; omega) fun c hc2 => by
            by_cases z : c = i
            · rw [z, big_bit hb (Nat.le_refl _)]
              exact ⟨fun y => absurd y (by decide), fun y => absurd (u2.mpr y) (by decide)⟩
            · exact hq c (by omega)
          refine bk_X12_known_14 hm ⟨fun z => absurd z nge, fun _ => ⟨f, g, _, E, fun _ => ⟨by omega, ?_⟩, fun z => absurd rfl z⟩⟩
          rw [iOr_0 (by omega)]
          exact A
        · have A := ih (i + 1) (by omega) (b ||| 2 ^ i) (or_lt (by rw [Nat.pow_succ]; omega) (by omega)) fun c hc2 => by
            rw [or_bit]
            by_cases z : c = i
            · rw [z]
              exact ⟨fun _ => u2.mp rfl, fun _ => by simp⟩
            · have : ¬ i = c := fun y => z y.symm
              simp only [this, decide_false, Bool.or_false]
              exact hq c (by omega)
          refine bk_X12_known_14 hm ⟨fun z => absurd z nge, fun _ => ⟨f, g, _, E, fun z => absurd z (by decide), fun _ => ⟨by omega, by omega, ?_⟩⟩⟩
          rw [iOr_p2 (by omega) (by omega)]
          exact A
    have A := loop n 0 (by omega) 0 (by show 0 < 1; omega) fun c hc2 => absurd hc2 (Nat.not_lt_zero c)
    exact ⟨K, bk_X11_known_0 hs ⟨f, g, _, E1, fun z => absurd z (by decide), fun _ => ⟨f, g, _, E3, rfl⟩⟩, bk_X12_known_0 hm ⟨f, g, _, E2, fun _ => A, fun z => absurd z (by decide)⟩⟩
  · have vv : v = 0 := v1.elim id fun z => absurd (v2.mp z) hx
    have ww : w = 0 := w1.elim id fun z => absurd (w2.mp z) hx
    subst vv ww
    exact ⟨-1, bk_X11_known_0 hs ⟨f, g, _, E1, fun _ => rfl, fun z => absurd rfl z⟩, bk_X12_known_0 hm ⟨f, g, _, E2, fun z => absurd rfl z, fun _ => rfl⟩⟩
