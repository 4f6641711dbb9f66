/-! the model: one relation behind the other -/
theorem lB_us1 {x : BitVec 64} {i : Nat} : ((x >>> i) &&& 1#64 = 1#64) ↔ x.getLsbD i = true := by
  have e : ((x >>> i) &&& 1#64) = BitVec.zeroExtend 64 (BitVec.ofBool (x.getLsbD i)) := by
    apply BitVec.eq_of_getLsbD_eq
    intro j hj
    cases j with
    | zero => simp
    | succ j => simp
  rw [e]
  cases x.getLsbD i <;> decide
theorem ush_0 {x : BitVec 64} {i : Nat} (h : x >>> i = 0#64) {t : Nat} (ht : i ≤ t) : x.getLsbD t = false := by
  have : (x >>> i).getLsbD (t - i) = x.getLsbD (i + (t - i)) := by rw [BitVec.getLsbD_ushiftRight]
  rw [h, show i + (t - i) = t by omega] at this
  rw [← this]
  simp
theorem ush_64 (x : BitVec 64) : x >>> 64 = 0#64 := BitVec.eq_of_getLsbD_eq fun j hj => by
  rw [BitVec.getLsbD_ushiftRight, BitVec.getLsbD_of_ge x (64 + j) (by omega)]
  simp
theorem m_follows {σ : St} {f : FI} {g : FL} {M n : Nat} (hm : Sh12 σ M) (hn : n + 1 < 28) : ∃ g' : FL, Ex mt 0 225 (il σ f g) [vR 12 (some M), vI (n : Int), vI ((n + 1 : Nat) : Int)] (il σ f g', []) ∧ Fm M n g g' ∧ ∀ p q, p < 512 → q < 512 → (bt (mw g' M n) p q ↔ ∃ m, m < 512 ∧ bt (mw g M n) p m ∧ bt (mw g M (n + 1)) m q) := by
  -- a row of the other is added
  have add : ∀ (p o t : Nat) (X : BitVec 64), p < 512 → o < 8 → t < 64 → ∀ (gj : FL), (∀ b, b ≠ M + 11 → gj b = g b ∨ b = M + 9) → Fm M n g gj → ∀ u i : Nat, i + u = 8 → ∀ gi : FL, (∀ b, b ≠ M + 11 → gi b = gj b) → (∀ k, gi (M + 11) k = if 0 ≤ k ∧ k < 0 + i then gj (M + 11) k ||| mw g M (n + 1) (8 * (64 * o + t) + (k - 0)) else gj (M + 11) k) → ∃ g1 : FL, (∀ b, b ≠ M + 11 → g1 b = gj b) ∧ (∀ q, q < 512 → (bt (g1 (M + 11)) 0 q ↔ bt (gj (M + 11)) 0 q ∨ bt (mw g M (n + 1)) (64 * o + t) q)) ∧ ∀ r, A_X12_follows_70 σ f g1 M (n : Int) ((n + 1 : Nat) : Int) (p : Int) ((4096 * n + 8 * p : Nat) : Int) (o : Int) (X >>> (t + 1)) ((t + 1 : Nat) : Int) r → A_X12_follows_108 σ f gi M (n : Int) ((n + 1 : Nat) : Int) (p : Int) ((4096 * n + 8 * p : Nat) : Int) (o : Int) (X >>> t) (t : Int) ((4096 * (n + 1) + 8 * (64 * o + t) : Nat) : Int) (i : Int) r := by
    intro p o t X hp ho ht gj hG hFj u
    induction u with
    | zero =>
      intro i hi gi hF hI
      obtain rfl : i = 8 := hi
      refine ⟨gi, hF, fun q hq => ?_, fun r A => bk_X12_follows_108 hm ⟨fun _ => ⟨by omega, ?_⟩, fun y => absurd (by decide) y⟩⟩
      · rw [row_bt (W := gj (M + 11)) (W' := gi (M + 11)) (V := mw g M (n + 1)) (p0 := 0) (b := 64 * o + t) (fun k => by rw [hI k]) (p := 0) hq]
        exact or_congr Iff.rfl ⟨fun z => z.2, fun z => ⟨rfl, z⟩⟩
      · rw [show (1 : Int).toNat = 1 from rfl, ← BitVec.shiftRight_add]
        exact A
    | succ u ih =>
      intro i hi gi hF hI
      have ev : gi (M + 9) (4096 * (n + 1) + 8 * (64 * o + t) + i) = mw g M (n + 1) (8 * (64 * o + t) + i) := by
        rw [hF (M + 9) (by omega), hFj.2 _ (by omega)]
        unfold mw
        rw [Nat.add_assoc]
      obtain ⟨g1, H1, H2, H3⟩ := ih (i + 1) (by omega) (up2 gi (M + 11) i (gi (M + 11) i ||| mw g M (n + 1) (8 * (64 * o + t) + i))) (fun b hb => by
        rw [← hF b hb]
        exact funext fun j => u2_a hb) (fun k => by
        rw [up2_if]
        have := orw (s := 0) (r := 8 * (64 * o + t)) (i := i) (W := gj (M + 11)) (V := mw g M (n + 1)) (Wi := gi (M + 11)) hI (x := gi (M + 11) i ||| mw g M (n + 1) (8 * (64 * o + t) + i)) (by rw [Nat.zero_add]) k
        rw [Nat.zero_add] at this
        rw [this])
      refine ⟨g1, H1, H2, fun r A => bk_X12_follows_108 hm ⟨fun y => absurd y (by omega), fun _ => ?_⟩⟩
      rw [show (((4096 * (n + 1) + 8 * (64 * o + t) : Nat) : Int) + (i : Int)).toNat = 4096 * (n + 1) + 8 * (64 * o + t) + i by omega, show ((i : Int)).toNat = i from rfl, ev, show (i : Int) + 1 = ((i + 1 : Nat) : Int) by omega]
      exact ⟨⟨by omega, by omega, by omega, by omega⟩, H3 r A⟩
  -- the bits of a word
  have bits : ∀ (p o : Nat) (X : BitVec 64), p < 512 → o < 8 → (∀ t, t < 64 → (X.getLsbD t = true ↔ bt (mw g M n) p (64 * o + t))) → ∀ (gj : FL), (∀ b, b ≠ M + 11 → gj b = g b ∨ b = M + 9) → Fm M n g gj → ∀ u t : Nat, t + u = 64 → ∀ gi : FL, (∀ b, b ≠ M + 11 → gi b = gj b) → (∀ q, q < 512 → (bt (gi (M + 11)) 0 q ↔ ∃ m, m < 64 * o + t ∧ bt (mw g M n) p m ∧ bt (mw g M (n + 1)) m q)) → ∃ g1 : FL, (∀ b, b ≠ M + 11 → g1 b = gj b) ∧ (∀ q, q < 512 → (bt (g1 (M + 11)) 0 q ↔ ∃ m, m < 64 * (o + 1) ∧ bt (mw g M n) p m ∧ bt (mw g M (n + 1)) m q)) ∧ ∀ r, A_X12_follows_48 σ f g1 M (n : Int) ((n + 1 : Nat) : Int) (p : Int) ((4096 * n + 8 * p : Nat) : Int) ((o + 1 : Nat) : Int) r → A_X12_follows_70 σ f gi M (n : Int) ((n + 1 : Nat) : Int) (p : Int) ((4096 * n + 8 * p : Nat) : Int) (o : Int) (X >>> t) (t : Int) r := by
    intro p o X hp ho hX gj hG hFj u
    induction u with
    | zero =>
      intro t ht gi hF hI
      obtain rfl : t = 64 := ht
      refine ⟨gi, hF, fun q hq => ?_, fun r A => bk_X12_follows_70 hm ⟨fun _ => ⟨by omega, A⟩, fun y => absurd (ush_64 X) y⟩⟩
      rw [show 64 * (o + 1) = 64 * o + 64 by omega]
      exact hI q hq
    | succ u ih =>
      intro t ht gi hF hI
      by_cases z : X >>> t = 0#64
      · refine ⟨gi, hF, fun q hq => ?_, fun r A => bk_X12_follows_70 hm ⟨fun _ => ⟨by omega, A⟩, fun y => absurd z y⟩⟩
        rw [hI q hq]
        constructor
        · rintro ⟨m, m1, m2⟩
          exact ⟨m, by omega, m2⟩
        · rintro ⟨m, m1, m2, m3⟩
          by_cases e : m < 64 * o + t
          · exact ⟨m, e, m2, m3⟩
          · have a := (hX (m - 64 * o) (by omega)).mpr (by rw [show 64 * o + (m - 64 * o) = m by omega]; exact m2)
            rw [ush_0 z (by omega)] at a
            exact absurd a (by decide)
      · by_cases y : X.getLsbD t = true
        · obtain ⟨g0, H1, H2, H3⟩ := add p o t X hp ho (by omega) gi (fun b hb => by rw [hF b hb]; exact hG b hb) ⟨fun b h1 h2 => by rw [hF b h2]; exact hFj.1 b h1 h2, fun k hk => by rw [hF _ (by omega)]; exact hFj.2 k hk⟩ 8 0 rfl gi (fun _ _ => rfl) (fun k => by rw [if_neg (by omega)])
          obtain ⟨g1, G1, G2, G3⟩ := ih (t + 1) (by omega) g0 (fun b hb => (H1 b hb).trans (hF b hb)) (fun q hq => by
            rw [H2 q hq, hI q hq]
            constructor
            · rintro (⟨m, m1, m2⟩ | w)
              · exact ⟨m, by omega, m2⟩
              · exact ⟨64 * o + t, by omega, (hX t (by omega)).mp y, w⟩
            · rintro ⟨m, m1, m2, m3⟩
              by_cases e : m < 64 * o + t
              · exact Or.inl ⟨m, e, m2, m3⟩
              · rw [show m = 64 * o + t by omega] at m3
                exact Or.inr m3)
          refine ⟨g1, G1, G2, fun r A => bk_X12_follows_70 hm ⟨fun w => absurd w z, fun _ => ⟨fun w => absurd (lB_us1.mpr y) w, fun _ => ?_⟩⟩⟩
          rw [show 4096 * ((n + 1 : Nat) : Int) + 8 * (64 * (o : Int) + (t : Int)) = ((4096 * (n + 1) + 8 * (64 * o + t) : Nat) : Int) by omega]
          exact ⟨⟨by omega, by omega, by omega, by omega, by omega⟩, H3 _ (G3 r A)⟩
        · obtain ⟨g1, G1, G2, G3⟩ := ih (t + 1) (by omega) gi hF (fun q hq => by
            rw [hI q hq]
            constructor
            · rintro ⟨m, m1, m2⟩
              exact ⟨m, by omega, m2⟩
            · rintro ⟨m, m1, m2, m3⟩
              by_cases e : m < 64 * o + t
              · exact ⟨m, e, m2, m3⟩
              · rw [show m = 64 * o + t by omega] at m2
                exact absurd ((hX t (by omega)).mpr m2) y)
          refine ⟨g1, G1, G2, fun r A => bk_X12_follows_70 hm ⟨fun w => absurd w z, fun _ => ⟨fun _ => ⟨by omega, ?_⟩, fun w => absurd (lB_us1.mp w) y⟩⟩⟩
          rw [show (1 : Int).toNat = 1 from rfl, ← BitVec.shiftRight_add]
          exact G3 r A
  -- the words of a row
  have words : ∀ (p : Nat), p < 512 → ∀ (gj : FL), (∀ b, b ≠ M + 11 → gj b = g b ∨ b = M + 9) → Fm M n g gj → (∀ k, 4096 * n + 8 * p ≤ k → gj (M + 9) k = g (M + 9) k) → ∀ u o : Nat, o + u = 8 → ∀ gi : FL, (∀ b, b ≠ M + 11 → gi b = gj b) → (∀ q, q < 512 → (bt (gi (M + 11)) 0 q ↔ ∃ m, m < 64 * o ∧ bt (mw g M n) p m ∧ bt (mw g M (n + 1)) m q)) → ∃ g1 : FL, (∀ b, b ≠ M + 11 → g1 b = gj b) ∧ (∀ q, q < 512 → (bt (g1 (M + 11)) 0 q ↔ ∃ m, m < 512 ∧ bt (mw g M n) p m ∧ bt (mw g M (n + 1)) m q)) ∧ ∀ r, A_X12_follows_162 σ f g1 M (n : Int) ((n + 1 : Nat) : Int) (p : Int) ((4096 * n + 8 * p : Nat) : Int) 0 r → A_X12_follows_48 σ f gi M (n : Int) ((n + 1 : Nat) : Int) (p : Int) ((4096 * n + 8 * p : Nat) : Int) (o : Int) r := by
    intro p hp gj hG hFj hK u
    induction u with
    | zero =>
      intro o ho gi hF hI
      obtain rfl : o = 8 := ho
      exact ⟨gi, hF, hI, fun r A => bk_X12_follows_48 hm ⟨fun _ => A, fun y => absurd (by decide) y⟩⟩
    | succ u ih =>
      intro o ho gi hF hI
      obtain ⟨g0, H1, H2, H3⟩ := bits p o (g (M + 9) (4096 * n + (8 * p + o))) hp (by omega) (fun t ht => by
        unfold bt mw
        rw [show (64 * o + t) / 64 = o by omega, show (64 * o + t) % 64 = t by omega]) gj hG hFj 64 0 rfl gi hF hI
      obtain ⟨g1, G1, G2, G3⟩ := ih (o + 1) (by omega) g0 H1 H2
      refine ⟨g1, G1, G2, fun r A => bk_X12_follows_48 hm ⟨fun y => absurd y (by omega), fun _ => ?_⟩⟩
      have := H3 _ (G3 r A)
      rw [BitVec.ushiftRight_zero] at this
      rw [show (((4096 * n + 8 * p : Nat) : Int) + (o : Int)).toNat = 4096 * n + (8 * p + o) by omega, hF (M + 9) (by omega), hK _ (by omega)]
      exact ⟨⟨by omega, by omega⟩, this⟩
  -- nothing yet
  have zer : ∀ (p : Nat), p < 512 → ∀ (gj : FL), ∀ u i : Nat, i + u = 8 → ∀ gi : FL, (∀ b, b ≠ M + 11 → gi b = gj b) → (∀ k, k < i → gi (M + 11) k = 0#64) → ∃ g1 : FL, (∀ b, b ≠ M + 11 → g1 b = gj b) ∧ (∀ k, k < 8 → g1 (M + 11) k = 0#64) ∧ ∀ r, A_X12_follows_48 σ f g1 M (n : Int) ((n + 1 : Nat) : Int) (p : Int) ((4096 * n + 8 * p : Nat) : Int) 0 r → A_X12_follows_24 σ f gi M (n : Int) ((n + 1 : Nat) : Int) (p : Int) ((4096 * n + 8 * p : Nat) : Int) (i : Int) r := by
    intro p hp gj u
    induction u with
    | zero =>
      intro i hi gi hF hI
      obtain rfl : i = 8 := hi
      exact ⟨gi, hF, hI, fun r A => bk_X12_follows_24 hm ⟨fun _ => A, fun y => absurd (by decide) y⟩⟩
    | succ u ih =>
      intro i hi gi hF hI
      obtain ⟨g1, G1, G2, G3⟩ := ih (i + 1) (by omega) (up2 gi (M + 11) i 0#64) (fun b hb => by
        rw [← hF b hb]
        exact funext fun j => u2_a hb) (fun k hk => by
        rw [up2_if]
        by_cases e : k = i
        · rw [if_pos e]
        · rw [if_neg e]
          exact hI k (by omega))
      refine ⟨g1, G1, G2, fun r A => bk_X12_follows_24 hm ⟨fun y => absurd y (by omega), fun _ => ?_⟩⟩
      rw [show ((i : Int)).toNat = i from rfl, show (i : Int) + 1 = ((i + 1 : Nat) : Int) by omega]
      exact ⟨⟨by omega, by omega⟩, G3 r A⟩
  -- the row is put back
  have back : ∀ (p : Nat), p < 512 → ∀ (gj : FL), ∀ u i : Nat, i + u = 8 → ∀ gi : FL, (∀ b, b ≠ M + 9 → gi b = gj b) → (∀ k, gi (M + 9) k = if 4096 * n + 8 * p ≤ k ∧ k < 4096 * n + 8 * p + i then gj (M + 11) (k - (4096 * n + 8 * p)) else gj (M + 9) k) → ∃ g1 : FL, (∀ b, b ≠ M + 9 → g1 b = gj b) ∧ (∀ k, g1 (M + 9) k = if 4096 * n + 8 * p ≤ k ∧ k < 4096 * n + 8 * p + 8 then gj (M + 11) (k - (4096 * n + 8 * p)) else gj (M + 9) k) ∧ ∀ r, A_X12_follows_2 σ f g1 M (n : Int) ((n + 1 : Nat) : Int) ((p + 1 : Nat) : Int) r → A_X12_follows_162 σ f gi M (n : Int) ((n + 1 : Nat) : Int) (p : Int) ((4096 * n + 8 * p : Nat) : Int) (i : Int) r := by
    intro p hp gj u
    induction u with
    | zero =>
      intro i hi gi hF hI
      obtain rfl : i = 8 := hi
      exact ⟨gi, hF, hI, fun r A => bk_X12_follows_162 hm ⟨fun _ => ⟨by omega, A⟩, fun y => absurd (by decide) y⟩⟩
    | succ u ih =>
      intro i hi gi hF hI
      obtain ⟨g1, G1, G2, G3⟩ := ih (i + 1) (by omega) (up2 gi (M + 9) (4096 * n + 8 * p + i) (gj (M + 11) i)) (fun b hb => by
        rw [← hF b hb]
        exact funext fun j => u2_a hb) (fun k => by
        rw [up2_if, hI]
        by_cases e : k = 4096 * n + 8 * p + i
        · rw [if_pos e, if_pos (by omega), show k - (4096 * n + 8 * p) = i by omega]
        · rw [if_neg e]
          by_cases e2 : 4096 * n + 8 * p ≤ k ∧ k < 4096 * n + 8 * p + i
          · rw [if_pos e2, if_pos (by omega)]
          · rw [if_neg e2, if_neg (by omega)])
      refine ⟨g1, G1, G2, fun r A => bk_X12_follows_162 hm ⟨fun y => absurd y (by omega), fun _ => ?_⟩⟩
      rw [show (((4096 * n + 8 * p : Nat) : Int) + (i : Int)).toNat = 4096 * n + 8 * p + i by omega, show ((i : Int)).toNat = i from rfl, hF (M + 11) (by omega), show (i : Int) + 1 = ((i + 1 : Nat) : Int) by omega]
      exact ⟨⟨by omega, by omega, by omega, by omega⟩, G3 r A⟩
  have loop : ∀ u p : Nat, p + u = 512 → ∀ gi : FL, (∀ b, b ≠ M + 11 → gi b = g b ∨ b = M + 9) → Fm M n g gi → (∀ k, 4096 * n + 8 * p ≤ k → gi (M + 9) k = g (M + 9) k) → (∀ p' q, p' < p → q < 512 → (bt (mw gi M n) p' q ↔ ∃ m, m < 512 ∧ bt (mw g M n) p' m ∧ bt (mw g M (n + 1)) m q)) → ∃ g' : FL, A_X12_follows_2 σ f gi M (n : Int) ((n + 1 : Nat) : Int) (p : Int) (il σ f g', []) ∧ Fm M n g g' ∧ ∀ p q, p < 512 → q < 512 → (bt (mw g' M n) p q ↔ ∃ m, m < 512 ∧ bt (mw g M n) p m ∧ bt (mw g M (n + 1)) m q) := by
    intro u
    induction u with
    | zero =>
      intro p hp gi hG hF hK hI
      obtain rfl : p = 512 := hp
      exact ⟨gi, bk_X12_follows_2 hm ⟨fun _ => rfl, fun y => absurd (by decide) y⟩, hF, hI⟩
    | succ u ih =>
      intro p hp gi hG hF hK hI
      obtain ⟨g0, Z1, Z2, Z3⟩ := zer p (by omega) gi 8 0 rfl gi (fun _ _ => rfl) (fun k hk => absurd hk (Nat.not_lt_zero k))
      obtain ⟨g1, H1, H2, H3⟩ := words p (by omega) gi hG hF hK 8 0 rfl g0 Z1 (fun q hq => by
        unfold bt
        rw [Z2 _ (by omega)]
        constructor
        · intro z
          simp at z
        · rintro ⟨m, m1, _⟩
          omega)
      obtain ⟨g2, B1, B2, B3⟩ := back p (by omega) g1 8 0 rfl g1 (fun _ _ => rfl) (fun k => by rw [if_neg (by omega)])
      obtain ⟨g', A, G1, G2⟩ := ih (p + 1) (by omega) g2 (fun b hb => by
        by_cases e : b = M + 9
        · exact Or.inr e
        · rw [B1 b e, H1 b hb]
          exact hG b hb) ⟨fun b h1 h2 => by rw [B1 b h1, H1 b h2]; exact hF.1 b h1 h2, fun k hk => by rw [B2, if_neg (by omega), H1 _ (by omega)]; exact hF.2 k hk⟩ (fun k hk => by rw [B2, if_neg (by omega), H1 _ (by omega)]; exact hK k (by omega)) (fun p' q hp' hq => by
        by_cases e : p' = p
        · subst e
          rw [← H2 q hq]
          unfold bt mw
          rw [B2, if_pos (by omega), show 4096 * n + (8 * p' + q / 64) - (4096 * n + 8 * p') = 8 * 0 + q / 64 by omega]
        · rw [← hI p' q (by omega) hq]
          unfold bt mw
          rw [B2, if_neg (by omega), H1 _ (by omega)])
      refine ⟨g', bk_X12_follows_2 hm ⟨fun y => absurd y (by omega), fun _ => ⟨⟨by omega, by omega, by omega⟩, ?_⟩⟩, G1, G2⟩
      rw [show 4096 * (n : Int) + 8 * (p : Int) = ((4096 * n + 8 * p : Nat) : Int) by omega]
      exact Z3 _ (H3 _ (B3 _ A))
  obtain ⟨g', A, G1, G2⟩ := loop 512 0 rfl g (fun _ _ => Or.inl rfl) Fm.rfl' (fun _ _ => rfl) (fun p' q h => absurd h (Nat.not_lt_zero _))
  exact ⟨g', bk_X12_follows_0 hm A, G1, G2⟩
