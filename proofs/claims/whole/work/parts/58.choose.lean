/-! kept: branch and bound, in the class -/
def Bas (f0 f : FI) (a : Nat) : Prop := ∀ c, c ≠ a → c ≠ a + 2 → f c = f0 c
def Lf (f : FI) (a : Nat) (N : Nat → Nat → Int) (R : Nat → Int) (T i : Nat) : Prop := ∀ b, b < 8 → f (a + 2) b = R b - sm (fun j => N j b) T i ∧ 0 ≤ f (a + 2) b
theorem x_chooseFrom {σ : St} {f0 : FI} {g : FL} {a ar w : Nat} {q rn : Nat → Nat} {W : Nat → Int} {N : Nat → Nat → Int} {R : Nat → Int} (hs : Sh1 σ a) (hk : KC σ f0 ar w q rn W N) (hl : ∀ j, j < w → (q j ≠ a ∧ q j ≠ a + 2) ∧ (rn j ≠ a ∧ rn j ≠ a + 2)) (hW : ∀ j, 0 ≤ W j ∧ W j ≤ 999) (hN : ∀ j b, 0 ≤ N j b) (hR : ∀ b, b < 8 → R b ≤ 999) (hr : ∀ i, i < w → f0 (a + 3) i = f0 (a + 3) (i + 1) + W i) (hr0 : f0 (a + 3) w = 0) (hrb : ∀ i, i ≤ w → 0 ≤ f0 (a + 3) i ∧ f0 (a + 3) i ≤ 12000) : ∀ (n i T : Nat) (f : FI) (C : Nat), i + n = w → Bas f0 f a → T < 2 ^ i → Lf f a N R T i → Cho f a w W N R C → ∃ (f' : FI) (C' : Nat), Ex mt (n + 30) 10 (il σ f g) [vR 1 (some a), vR 18 (some ar), vI (w : Int), vI (i : Int), vI (T : Int), vI (sm W T i)] (il σ f' g, []) ∧ Cho f' a w W N R C' ∧ Bt W w C' C ∧ (∀ S, S < 2 ^ w → Fit N R w S → (∀ j, j < i → S.testBit j = T.testBit j) → (∀ j, i ≤ j → j < w → S.testBit j = true → 0 < W j) → Bt W w C' S) ∧ Bas f0 f' a ∧ (∀ b, b < 8 → f' (a + 2) b = f (a + 2) b) := by
  have w12 := hk.1
  have bound : ∀ (S k i : Nat), i + k = w → sm W S w ≤ sm W S i + f0 (a + 3) i := by
    intro S k
    induction k with
    | zero =>
      intro i hi
      obtain rfl : i = w := by omega
      omega
    | succ k ih =>
      intro i hi
      have h1 := ih (i + 1) (by omega)
      have h2 := hr i (by omega)
      have h3 := hW i
      have h4 : sm W S (i + 1) ≤ sm W S i + W i := by
        show sm W S i + (if S.testBit i = true then W i else 0) ≤ _
        split <;> omega
      omega
  intro n
  induction n with
  | zero =>
    intro i T f C hi hb hT hL hC
    obtain rfl : i = w := by omega
    have hF : Fit N R i T := fun b hb2 => by
      have := hL b hb2
      omega
    obtain ⟨f', C', E, c1, c2, c3, c4⟩ := x_consider (σ := σ) (g := g) hs w12 hC hT hF
    exact ⟨f', C', bk_X1_chooseFrom_0 hs ⟨fun z => absurd z (by omega), fun _ => ⟨f', g, E, rfl⟩⟩, c1, c2, fun S s1 s2 s3 _ => by
      have : S = T := bit_ext s1 hT s3
      rw [this]; exact c3, fun c h1 h2 => by rw [c4 c h1]; exact hb c h1 h2, fun b _ => by rw [c4 _ (by omega)]⟩
  | succ n ih =>
    intro i T f C hi hb hT hL hC
    have hiw : i < w := by omega
    have pw : 2 ^ i ≤ 2 ^ 12 := Nat.pow_le_pow_right (by decide) (by omega)
    have p12 : 2 ^ 12 = 4096 := rfl
    have sv := sm_W (S := T) hW i
    have rb := hrb i (by omega)
    have e3 : f (a + 3) (i : Int).toNat = f0 (a + 3) i := by rw [hb _ (by omega) (by omega)]; rfl
    have kc : ∀ f1 : FI, Bas f0 f1 a → KC σ f1 ar w q rn W N := fun f1 h => hk.fr fun j hj => ⟨h _ (hl j hj).1.1 (hl j hj).1.2, h _ (hl j hj).2.1 (hl j hj).2.2⟩
    have ki := (kc f hb).2.2 i hiw
    have ob1 : ((0 : Int) ≤ (i : Int) ∧ (i : Int) < 13) ∧ (-2147483648 ≤ sm W T i + f (a + 3) (i : Int).toNat ∧ sm W T i + f (a + 3) (i : Int).toNat ≤ 2147483647) := by rw [e3]; omega
    have oba : ((0 : Int) ≤ (i : Int) ∧ (i : Int) < (ln σ ar : Int)) := by rw [hk.2.1]; omega
    have ga : gR σ ar (i : Int).toNat = some (q i) := ki.1.1
    have lt1 : T < 2 ^ (i + 1) := by rw [Nat.pow_succ]; omega
    -- the rest without this wish
    have skip : ∀ (f1 : FI) (C1 : Nat), Bas f0 f1 a → Lf f1 a N R T i → Cho f1 a w W N R C1 → ∃ (f' : FI) (C' : Nat), Ex mt (n + 1 + 29) 10 (il σ f1 g) [vR 1 (some a), vR 18 (some ar), vI (w : Int), vI ((i : Int) + 1), vI (T : Int), vI (sm W T i)] (il σ f' g, []) ∧ Cho f' a w W N R C' ∧ Bt W w C' C1 ∧ (∀ S, S < 2 ^ w → Fit N R w S → (∀ j, j < i → S.testBit j = T.testBit j) → S.testBit i = false → (∀ j, i ≤ j → j < w → S.testBit j = true → 0 < W j) → Bt W w C' S) ∧ Bas f0 f' a ∧ (∀ b, b < 8 → f' (a + 2) b = f1 (a + 2) b) := fun f1 C1 h1 h2 h3 => by
      obtain ⟨f', C', E, c1, c2, c3, c4⟩ := ih (i + 1) T f1 C1 (by omega) h1 lt1 (fun b hb2 => by rw [sm_out hT]; exact h2 b hb2) h3
      rw [sm_out hT] at E
      refine ⟨f', C', ?_, c1, c2, fun S s1 s2 s3 s4 s5 => c3 S s1 s2 (fun j hj => ?_) fun j h1 => s5 j (by omega), c4⟩
      · rw [show n + 1 + 29 = n + 30 by omega]
        exact E
      · by_cases y : j = i
        · rw [y, s4, big_bit hT (Nat.le_refl _)]
        · exact s3 j (by omega)
    by_cases hp : f a 4 ≤ sm W T i + f (a + 3) (i : Int).toNat
    · by_cases hw0 : W i ≤ 0
      · obtain ⟨f', C', E, c1, c2, c3, c4⟩ := skip f C hb hL hC
        exact ⟨f', C', bk_X1_chooseFrom_0 hs ⟨fun _ => ⟨ob1, fun _ => ⟨oba, q i, ga, fun _ => ⟨by omega, f', g, E, rfl⟩, fun z => absurd (by rw [ki.2.1.1]; exact hw0) z⟩, fun z => absurd hp z⟩, fun z => absurd (by omega) z⟩, c1, c2, fun S s1 s2 s3 s4 => c3 S s1 s2 s3 (by
          cases x : S.testBit i
          · rfl
          · have := s4 i (Nat.le_refl _) hiw x
            omega) s4, c4⟩
      · have nw : ¬ f (q i) 4 ≤ 0 := by rw [ki.2.1.1]; exact hw0
        obtain ⟨v, v1, v2, E0⟩ := x_hasRoomFor (σ := σ) (f := f) (g := g) hs (kc f hb) hiw
        rcases v1 with rfl | rfl
        · obtain ⟨f', C', E, c1, c2, c3, c4⟩ := skip f C hb hL hC
          refine ⟨f', C', bk_X1_chooseFrom_0 hs ⟨fun _ => ⟨ob1, fun _ => ⟨oba, q i, ga, fun z => absurd z nw, fun _ => ⟨f, g, _, E0, fun _ => ⟨by omega, f', g, E, rfl⟩, fun z => absurd rfl z⟩⟩, fun z => absurd hp z⟩, fun z => absurd (by omega) z⟩, c1, c2, fun S s1 s2 s3 s4 => c3 S s1 s2 s3 ?_ s4, c4⟩
          cases x : S.testBit i
          · rfl
          · refine absurd (v2.mpr fun b hb2 => ?_) (by decide)
            have h1 := s2 b hb2
            have h2 := sm_le (X := fun j => N j b) (S := S) (i + 1) (fun j => hN j b) (w - (i + 1))
            rw [show i + 1 + (w - (i + 1)) = w by omega] at h2
            have h3 : sm (fun j => N j b) S (i + 1) = sm (fun j => N j b) T i + N i b := by
              show sm (fun j => N j b) S i + _ = _
              rw [x, sm_cong s3]
              simp
            have h4 := hL b hb2
            omega
        · have room := v2.mp rfl
          have lb : ∀ b, b < 8 → -1000000 ≤ f (a + 2) b ∧ f (a + 2) b ≤ 1000000 := fun b hb2 => by
            have h1 := hL b hb2
            have h2 := hR b hb2
            have h3 := sm_le (X := fun j => N j b) (S := T) 0 (fun j => hN j b) i
            have h4 : sm (fun j => N j b) T 0 = 0 := rfl
            rw [Nat.zero_add] at h3
            omega
          obtain ⟨f1, E1, l1, o1⟩ := x_changeRoom (σ := σ) (f := f) (g := g) (s := -1) hs (kc f hb) hiw (hl i hiw).2.2 (Or.inr rfl) lb
          have b1 : Bas f0 f1 a := fun c h1 h2 => by rw [o1 c h2]; exact hb c h1 h2
          have lt2 : T ||| 2 ^ i < 2 ^ (i + 1) := or_lt lt1 (by omega)
          have L1 : Lf f1 a N R (T ||| 2 ^ i) (i + 1) := fun b hb2 => by
            have h1 := hL b hb2
            have h2 := l1 b hb2
            have h3 := room b hb2
            rw [sm_in hT]
            omega
          have C1 : Cho f1 a w W N R C := by
            unfold Cho at hC ⊢
            rw [o1 a (by omega)]
            exact hC
          obtain ⟨f2, C2, E2, c1, c2, c3, c4, c5⟩ := ih (i + 1) (T ||| 2 ^ i) f1 C (by omega) b1 lt2 L1 C1
          rw [sm_in hT, ← iOr_p2 (by omega) (by omega), ← ((kc f1 b1).2.2 i hiw).2.1.1] at E2
          obtain ⟨f3, E3, l3, o3⟩ := x_changeRoom (σ := σ) (f := f2) (g := g) (s := 1) hs (kc f2 c4) hiw (hl i hiw).2.2 (Or.inl rfl) (fun b hb2 => by
            have h1 := c5 b hb2
            have h2 := l1 b hb2
            have h3 := lb b hb2
            have h4 := (ki.2.2 b hb2).2
            have h5 := hL b hb2
            omega)
          have b3 : Bas f0 f3 a := fun c h1 h2 => by rw [o3 c h2]; exact c4 c h1 h2
          have back : ∀ b, b < 8 → f3 (a + 2) b = f (a + 2) b := fun b hb2 => by
            have h1 := c5 b hb2
            have h2 := l1 b hb2
            have h3 := l3 b hb2
            omega
          have C3 : Cho f3 a w W N R C2 := by
            unfold Cho at c1 ⊢
            rw [o3 a (by omega)]
            exact c1
          obtain ⟨f', C', E, d1, d2, d3, d4, d5⟩ := skip f3 C2 b3 (fun b hb2 => by rw [back b hb2]; exact hL b hb2) C3
          have E2' : Ex mt (n + 1 + 29) 10 (il σ f1 g) [vR 1 (some a), vR 18 (some ar), vI (w : Int), vI ((i : Int) + 1), vI (iOr (T : Int) (p2 (i : Int))), vI (sm W T i + f1 (q i) 4)] (il σ f2 g, []) := by
            rw [show n + 1 + 29 = n + 30 by omega]
            exact E2
          refine ⟨f', C', bk_X1_chooseFrom_0 hs ⟨fun _ => ⟨ob1, fun _ => ⟨oba, q i, ga, fun z => absurd z nw, fun _ => ⟨f, g, _, E0, fun z => absurd z (by decide), fun _ => ⟨f1, g, E1, ⟨by omega, by omega, ?_⟩, f2, g, E2', f3, g, E3, by omega, f', g, E, rfl⟩⟩⟩, fun z => absurd hp z⟩, fun z => absurd (by omega) z⟩, d1, d2.tr c2, fun S s1 s2 s3 s4 => ?_, d4, fun b hb2 => by rw [d5 b hb2, back b hb2]⟩
          · have := hW i
            rw [((kc f1 b1).2.2 i hiw).2.1.1]
            omega
          · cases x : S.testBit i
            · exact d3 S s1 s2 s3 x s4
            · refine d2.tr (c3 S s1 s2 (fun j hj => ?_) fun j h1 => s4 j (by omega))
              rw [or_bit]
              by_cases y : j = i
              · rw [y, x]; simp
              · have : ¬ i = j := fun z => y z.symm
                rw [s3 j (by omega)]
                simp [this]
    · refine ⟨f, C, bk_X1_chooseFrom_0 hs ⟨fun _ => ⟨ob1, fun z => absurd z hp, fun _ => rfl⟩, fun z => absurd (by omega) z⟩, hC, Bt.rfl', fun S s1 s2 s3 _ => Or.inl ?_, hb, fun _ _ => rfl⟩
      have h1 := bound S (n + 1) i hi
      rw [sm_cong s3] at h1
      have h2 := hC.2.1
      omega
