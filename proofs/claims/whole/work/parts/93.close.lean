/-! relations one behind the other, and closed ones -/
theorem x_followC {σ : St} {f : FI} {g : FL} {a c d : Nat} (hs : Sh2 σ a) (hc : ln σ c = 4096) (hd : ln σ d = 4096) (hcd : c ≠ d) (hac : a + 22 ≠ c) (had : a + 22 ≠ d) : ∃ g' : FL, Ex mt 3 25 (il σ f g) [vR 2 (some a), vR 15 (some c), vR 15 (some d)] (il σ f g', []) ∧ (∀ b, b ≠ c → b ≠ a + 22 → g' b = g b) ∧ ∀ p q, p < 512 → q < 512 → (bt (g' c) p q ↔ ∃ m, m < 512 ∧ bt (g c) p m ∧ bt (g d) m q) := by
  have inner : ∀ (p : Nat), p < 512 → ∀ n o : Nat, o + n = 8 → ∀ gi : FL, (∀ b, b ≠ c → b ≠ a + 22 → gi b = g b) → (∀ k, 8 * p ≤ k → gi c k = g c k) → (∀ q, q < 512 → (bt (gi (a + 22)) 0 q ↔ ∃ m, m < 64 * o ∧ bt (g c) p m ∧ bt (g d) m q)) → ∃ g1 : FL, (∀ b, b ≠ a + 22 → g1 b = gi b) ∧ (∀ q, q < 512 → (bt (g1 (a + 22)) 0 q ↔ ∃ m, m < 512 ∧ bt (g c) p m ∧ bt (g d) m q)) ∧ ∀ r, A_X2_follow_2 σ f (up1 g1 c (cpyF (g1 (a + 22)) (g1 c) 0 (8 * p) 8)) a c d ((8 * (p + 1) : Nat) : Int) r → A_X2_follow_20 σ f gi a c d ((8 * p : Nat) : Int) (o : Int) r := by
    intro p hp n
    induction n with
    | zero =>
      intro o ho gi hF hI hB
      obtain rfl : o = 8 := ho
      refine ⟨gi, fun _ _ => rfl, hB, fun r A => bk_X2_follow_20 hs ⟨fun _ => ⟨⟨by omega, by omega, by omega, by rw [hs.2.2.2]; omega, by rw [hc]; omega⟩, fun g4 e4 => ⟨by omega, ?_⟩⟩, fun y => absurd (by decide) y⟩⟩
      rw [e4, show ((8 * p : Nat) : Int) + 8 = ((8 * (p + 1) : Nat) : Int) by omega]
      exact A
    | succ n ih =>
      intro o ho gi hF hI hB
      have e1 : (((8 * p : Nat) : Int) + (o : Int)).toNat = 8 * p + o := by omega
      have e2 : (o : Int) + 1 = ((o + 1 : Nat) : Int) := by omega
      have bitm : ∀ t, t < 64 → ((gi c (8 * p + o)).getLsbD t = true ↔ bt (g c) p (64 * o + t)) := fun t ht => by
        unfold bt
        rw [hI _ (by omega), show (64 * o + t) / 64 = o by omega, show (64 * o + t) % 64 = t by omega]
      by_cases z : gi c (8 * p + o) = 0#64
      · obtain ⟨g1, H1, H2, H3⟩ := ih (o + 1) (by omega) gi hF hI (fun q hq => by
          rw [hB q hq]
          constructor
          · rintro ⟨m, m1, m2⟩
            exact ⟨m, by omega, m2⟩
          · rintro ⟨m, m1, m2, m3⟩
            by_cases e : m < 64 * o
            · exact ⟨m, e, m2, m3⟩
            · have := (bitm (m - 64 * o) (by omega)).mpr (by rw [show 64 * o + (m - 64 * o) = m by omega]; exact m2)
              rw [z] at this
              simp at this)
        refine ⟨g1, H1, H2, fun r A => bk_X2_follow_20 hs ⟨fun y => absurd y (by omega), fun _ => ?_⟩⟩
        rw [e1, hc, e2]
        exact ⟨⟨by omega, by omega⟩, fun _ => ⟨by omega, H3 r A⟩, fun y => absurd z y⟩
      · obtain ⟨g0, E0, F0, B0⟩ := x_addRows (σ := σ) (f := f) (g := gi) (a := a) (c := d) (o := o) (X := gi c (8 * p + o)) hs hd had (by omega)
        obtain ⟨g1, H1, H2, H3⟩ := ih (o + 1) (by omega) g0 (fun b h1 h2 => by rw [F0 b h2]; exact hF b h1 h2) (fun k hk => by rw [F0 c (fun y => hac y.symm)]; exact hI k hk) (fun q hq => by
          rw [B0 q hq, hB q hq, hF d (fun y => hcd y.symm) (fun y => had y.symm)]
          constructor
          · rintro (⟨m, m1, m2⟩ | ⟨t, t1, t2, t3⟩)
            · exact ⟨m, by omega, m2⟩
            · exact ⟨64 * o + t, by omega, (bitm t t1).mp t2, t3⟩
          · rintro ⟨m, m1, m2, m3⟩
            by_cases e : m < 64 * o
            · exact Or.inl ⟨m, e, m2, m3⟩
            · refine Or.inr ⟨m - 64 * o, by omega, (bitm (m - 64 * o) (by omega)).mpr ?_, ?_⟩
              · rw [show 64 * o + (m - 64 * o) = m by omega]
                exact m2
              · rw [show 64 * o + (m - 64 * o) = m by omega]
                exact m3)
        refine ⟨g1, fun b hb => (H1 b hb).trans (F0 b hb), H2, fun r A => bk_X2_follow_20 hs ⟨fun y => absurd y (by omega), fun _ => ?_⟩⟩
        rw [e1, hc, e2]
        exact ⟨⟨by omega, by omega⟩, fun y => absurd y z, fun _ => ⟨⟨by omega, by omega⟩, f, g0, E0, by omega, H3 r A⟩⟩
  have loop : ∀ n p : Nat, p + n = 512 → ∀ gi : FL, (∀ b, b ≠ c → b ≠ a + 22 → gi b = g b) → (∀ k, 8 * p ≤ k → gi c k = g c k) → (∀ p' q, p' < p → q < 512 → (bt (gi c) p' q ↔ ∃ m, m < 512 ∧ bt (g c) p' m ∧ bt (g d) m q)) → ∃ g' : FL, A_X2_follow_2 σ f gi a c d ((8 * p : Nat) : Int) (il σ f g', []) ∧ (∀ b, b ≠ c → b ≠ a + 22 → g' b = g b) ∧ ∀ p q, p < 512 → q < 512 → (bt (g' c) p q ↔ ∃ m, m < 512 ∧ bt (g c) p m ∧ bt (g d) m q) := by
    intro n
    induction n with
    | zero =>
      intro p hp gi hF hI hB
      obtain rfl : p = 512 := hp
      exact ⟨gi, bk_X2_follow_2 hs ⟨fun _ => rfl, fun y => absurd (by decide) y⟩, hF, hB⟩
    | succ n ih =>
      intro p hp gi hF hI hB
      have E := x_fillL (σ := σ) (f := f) (g := gi) (w := a + 22) (n := 8) (v := 0#64) hs.2.2.2 (by omega)
      obtain ⟨g0, hg0⟩ : ∃ y : FL, y = up1 gi (a + 22) (fun k => if k < 8 then 0#64 else gi (a + 22) k) := ⟨_, rfl⟩
      rw [← hg0] at E
      have k0 : ∀ b, b ≠ a + 22 → g0 b = gi b := fun b hb => by rw [hg0, up1_ne' hb]
      obtain ⟨g1, H1, H2, H3⟩ := inner p (by omega) 8 0 rfl g0 (fun b h1 h2 => by rw [k0 b h2]; exact hF b h1 h2) (fun k hk => by rw [k0 c (fun y => hac y.symm)]; exact hI k hk) (fun q hq => by
        rw [hg0, up1_at']
        unfold bt
        show (if 8 * 0 + q / 64 < 8 then 0#64 else _ : BitVec 64).getLsbD (q % 64) = true ↔ _
        rw [if_pos (by omega)]
        constructor
        · intro z
          simp at z
        · rintro ⟨m, m1, _⟩
          omega)
      have gc : ∀ k, g1 c k = gi c k := fun k => by rw [H1 c (fun y => hac y.symm), k0 c (fun y => hac y.symm)]
      obtain ⟨g', A, G1, G2⟩ := ih (p + 1) (by omega) (up1 g1 c (cpyF (g1 (a + 22)) (g1 c) 0 (8 * p) 8)) (fun b h1 h2 => by rw [up1_ne' h1, H1 b h2, k0 b h2]; exact hF b h1 h2) (fun k hk => by
        rw [up1_at']
        unfold cpyF
        rw [if_neg (by omega), gc]
        exact hI k (by omega)) (fun p' q hp' hq => by
        rw [up1_at']
        by_cases e : p' = p
        · rw [e, ← H2 q hq]
          unfold bt cpyF
          rw [if_pos (by omega), show 0 + (8 * p + q / 64 - 8 * p) = 8 * 0 + q / 64 by omega]
        · rw [← hB p' q (by omega) hq]
          unfold bt cpyF
          rw [if_neg (by omega), gc])
      exact ⟨g', bk_X2_follow_2 hs ⟨fun y => absurd y (by omega), fun _ => ⟨f, g0, E, H3 _ A⟩⟩, G1, G2⟩
  obtain ⟨g', A, G1, G2⟩ := loop 512 0 rfl g (fun _ _ _ => rfl) (fun _ _ => rfl) (fun p' q h => absurd h (Nat.not_lt_zero _))
  exact ⟨g', bk_X2_follow_0 hs A, G1, G2⟩
/-- one that is made of others -/
theorem x_sumUp {σ : St} {f : FI} {g : FL} {a c : Nat} (hs : Sh2 σ a) (hc : ln σ c = 4096) (hac : a + 22 ≠ c) : ∃ g' : FL, Ex mt 1 28 (il σ f g) [vR 2 (some a), vR 15 (some c)] (il σ f g', []) ∧ Fo (a + 22) g g' ∧ ∀ q, q < 512 → (bt (g' (a + 22)) 0 q ↔ ∃ p, p < 512 ∧ p ≠ q ∧ bt (g c) p q) := by
  have inner : ∀ (p : Nat), p < 512 → ∀ (gj : FL), Fo (a + 22) g gj → ∀ n i : Nat, i + n = 8 → ∀ gi : FL, Fo (a + 22) g gi → (∀ k, gi (a + 22) k = if 0 ≤ k ∧ k < 0 + i then gj (a + 22) k ||| (fun k => if k = p / 64 then g c (8 * p + k) &&& ((1#64 <<< (p % 64)) ^^^ 18446744073709551615#64) else g c (8 * p + k)) (8 * 0 + (k - 0)) else gj (a + 22) k) → ∃ g1 : FL, Fo (a + 22) g g1 ∧ (∀ q, q < 512 → (bt (g1 (a + 22)) 0 q ↔ bt (gj (a + 22)) 0 q ∨ (p ≠ q ∧ bt (g c) p q))) ∧ ∀ r, A_X2_sumUpOthers_10 σ f g1 a c ((p + 1 : Nat) : Int) r → A_X2_sumUpOthers_25 σ f gi a c (p : Int) ((p : Int) / 64) (i : Int) r := by
    intro p hp gj hFj n
    induction n with
    | zero =>
      intro i hi gi hF hI
      obtain rfl : i = 8 := hi
      refine ⟨gi, hF, fun q hq => ?_, fun r A => bk_X2_sumUpOthers_25 hs ⟨fun _ => ⟨by omega, A⟩, fun y => absurd (by decide) y⟩⟩
      have := row_bt (W := gj (a + 22)) (W' := gi (a + 22)) (V := fun k => if k = p / 64 then g c (8 * p + k) &&& ((1#64 <<< (p % 64)) ^^^ 18446744073709551615#64) else g c (8 * p + k)) (p0 := 0) (b := 0) (fun k => by rw [hI k]) (p := 0) hq
      rw [this]
      refine or_congr Iff.rfl ?_
      unfold bt
      show 0 = 0 ∧ (if 8 * 0 + q / 64 = p / 64 then _ else _ : BitVec 64).getLsbD (q % 64) = true ↔ _
      by_cases e : q / 64 = p / 64
      · rw [if_pos (by omega), anb (by omega) (by omega), Bool.and_eq_true, show 8 * p + (8 * 0 + q / 64) = 8 * p + q / 64 by omega]
        constructor
        · rintro ⟨_, z1, z2⟩
          refine ⟨fun y => ?_, z1⟩
          rw [y] at z2
          simp at z2
        · rintro ⟨z1, z2⟩
          refine ⟨rfl, z2, ?_⟩
          have : ¬ p % 64 = q % 64 := by omega
          simp [this]
      · rw [if_neg (by omega), show 8 * p + (8 * 0 + q / 64) = 8 * p + q / 64 by omega]
        exact ⟨fun z => ⟨fun y => e (by rw [y]), z.2⟩, fun z => ⟨rfl, z.2⟩⟩
    | succ n ih =>
      intro i hi gi hF hI
      have e : ((p : Int) * 8 + (i : Int)).toNat = 8 * p + i := by omega
      have e2 : (i : Int) + 1 = ((i + 1 : Nat) : Int) := by omega
      have e3 : ((p : Int) % 64).toNat = p % 64 := by omega
      obtain ⟨x, hx⟩ : ∃ x : BitVec 64, x = gi (a + 22) i ||| (if i = p / 64 then g c (8 * p + i) &&& ((1#64 <<< (p % 64)) ^^^ 18446744073709551615#64) else g c (8 * p + i)) := ⟨_, rfl⟩
      obtain ⟨g1, H1, H2, H3⟩ := ih (i + 1) (by omega) (up2 gi (a + 22) i x) hF.up (fun k => by
        rw [up2_if]
        have := orw (s := 0) (r := 8 * 0) (i := i) (W := gj (a + 22)) (V := fun k => if k = p / 64 then g c (8 * p + k) &&& ((1#64 <<< (p % 64)) ^^^ 18446744073709551615#64) else g c (8 * p + k)) (Wi := gi (a + 22)) hI (x := x) (by
          rw [hx, Nat.zero_add]) k
        rw [Nat.zero_add] at this
        rw [this])
      refine ⟨g1, H1, H2, fun r A => bk_X2_sumUpOthers_25 hs ⟨fun y => absurd y (by omega), fun _ => ?_⟩⟩
      rw [hc, e, show ((i : Int)).toNat = i from rfl, hF c (fun z => hac z.symm), e2, e3]
      refine ⟨⟨by omega, by omega, by omega, by omega⟩, fun y => ⟨⟨by omega, by omega⟩, ?_⟩, fun y => ⟨by omega, ⟨by omega, by omega⟩, ?_⟩⟩
      · have := H3 r A
        rw [hx, if_neg (by omega)] at this
        exact this
      · have := H3 r A
        rw [hx, if_pos (by omega)] at this
        exact this
  have loop : ∀ n p : Nat, p + n = 512 → ∀ gi : FL, Fo (a + 22) g gi → (∀ q, q < 512 → (bt (gi (a + 22)) 0 q ↔ ∃ p', p' < p ∧ p' ≠ q ∧ bt (g c) p' q)) → ∃ g' : FL, A_X2_sumUpOthers_10 σ f gi a c (p : Int) (il σ f g', []) ∧ Fo (a + 22) g g' ∧ ∀ q, q < 512 → (bt (g' (a + 22)) 0 q ↔ ∃ p, p < 512 ∧ p ≠ q ∧ bt (g c) p q) := by
    intro n
    induction n with
    | zero =>
      intro p hp gi hF hI
      obtain rfl : p = 512 := hp
      exact ⟨gi, bk_X2_sumUpOthers_10 hs ⟨fun _ => rfl, fun y => absurd (by decide) y⟩, hF, hI⟩
    | succ n ih =>
      intro p hp gi hF hI
      obtain ⟨g1, H1, H2, H3⟩ := inner p (by omega) gi hF 8 0 rfl gi hF (fun k => by rw [if_neg (by omega)])
      obtain ⟨g', A, G1, G2⟩ := ih (p + 1) (by omega) g1 H1 (fun q hq => by
        rw [H2 q hq, hI q hq]
        constructor
        · rintro (⟨m, m1, m2⟩ | z)
          · exact ⟨m, by omega, m2⟩
          · exact ⟨p, by omega, z⟩
        · rintro ⟨m, m1, m2⟩
          by_cases e : m = p
          · rw [e] at m2
            exact Or.inr m2
          · exact Or.inl ⟨m, by omega, m2⟩)
      exact ⟨g', bk_X2_sumUpOthers_10 hs ⟨fun y => absurd y (by omega), fun _ => ⟨by omega, H3 _ A⟩⟩, G1, G2⟩
  have E := x_fillL (σ := σ) (f := f) (g := g) (w := a + 22) (n := 8) (v := 0#64) hs.2.2.2 (by omega)
  obtain ⟨g0, hg0⟩ : ∃ y : FL, y = up1 g (a + 22) (fun k => if k < 8 then 0#64 else g (a + 22) k) := ⟨_, rfl⟩
  rw [← hg0] at E
  obtain ⟨g', A, G1, G2⟩ := loop 512 0 rfl g0 (fun b hb => by rw [hg0, up1_ne' hb]) (fun q hq => by
    rw [hg0, up1_at']
    unfold bt
    show (if 8 * 0 + q / 64 < 8 then 0#64 else _ : BitVec 64).getLsbD (q % 64) = true ↔ _
    rw [if_pos (by omega)]
    constructor
    · intro z
      simp at z
    · rintro ⟨m, m1, _⟩
      omega)
  exact ⟨g', bk_X2_sumUpOthers_0 hs ⟨f, g0, E, A⟩, G1, G2⟩
/-- all go on by one -/
theorem x_goOnBy {σ : St} {f : FI} {g : FL} {c b : Nat} (hc : ln σ c = 4096) (hb : b < 512) : ∃ g' : FL, Ex mt 1 29 (il σ f g) [vR 15 (some c), vI (b : Int)] (il σ f g', []) ∧ Fo c g g' ∧ ∀ p q, p < 512 → q < 512 → (bt (g' c) p q ↔ bt (g c) p q ∨ (bt (g c) p b ∧ bt (g c) b q)) := by
  have E := x_isEmptyRow (σ := σ) (f := f) (g := g) (w := c) (o := (b : Int) * 8) (by rw [hc]; omega) (by omega) (by omega)
  by_cases z : many (fun i => g c (((b : Int) * 8).toNat + i)) = 0
  · refine ⟨g, bk_X2_goOnBy_0 ⟨by omega, f, g, _, E, fun y => ?_, fun _ => rfl⟩, Fo.rfl', fun p q hp hq => ⟨Or.inl, fun y => y.elim id fun y => ?_⟩⟩
    · unfold bI at y
      rw [if_pos z] at y
      exact absurd y (by decide)
    · have e := many_0.mp z (q / 64) (by omega)
      have e' : g c (8 * b + q / 64) = 0#64 := by
        rw [← e]
        show g c _ = g c _
        rw [show ((b : Int) * 8).toNat = 8 * b by omega]
      have y2 := y.2
      unfold bt at y2
      rw [e'] at y2
      simp at y2
  · have inner : ∀ (p : Nat), p < 512 → ∀ (gj : FL), Fo c g gj → ∀ n i : Nat, i + n = 8 → ∀ gi : FL, Fo c g gi → (∀ k, gi c k = if 8 * p ≤ k ∧ k < 8 * p + i then gj c k ||| gj c (8 * b + (k - 8 * p)) else gj c k) → ∃ g1 : FL, Fo c g g1 ∧ (∀ p' q, q < 512 → (bt (g1 c) p' q ↔ bt (gj c) p' q ∨ (p' = p ∧ bt (gj c) b q))) ∧ ∀ r, A_X2_goOnBy_16 σ f g1 c (b : Int) ((b : Int) * 8) ((8 * (p + 1) : Nat) : Int) r → A_X2_goOnBy_46 σ f gi c (b : Int) ((b : Int) * 8) ((8 * p : Nat) : Int) (i : Int) r := by
      intro p hp gj hFj n
      induction n with
      | zero =>
        intro i hi gi hF hI
        obtain rfl : i = 8 := hi
        refine ⟨gi, hF, fun p' q hq => row_bt hI hq, fun r A => bk_X2_goOnBy_46 ⟨fun _ => ⟨by omega, ?_⟩, fun y => absurd (by decide) y⟩⟩
        rw [show ((8 * p : Nat) : Int) + 8 = ((8 * (p + 1) : Nat) : Int) by omega]
        exact A
      | succ n ih =>
        intro i hi gi hF hI
        have e1 : (((8 * p : Nat) : Int) + (i : Int)).toNat = 8 * p + i := by omega
        have e2 : ((b : Int) * 8 + (i : Int)).toNat = 8 * b + i := by omega
        obtain ⟨g1, H1, H2, H3⟩ := ih (i + 1) (by omega) (up2 gi c (8 * p + i) (gi c (8 * p + i) ||| gi c (8 * b + i))) hF.up (fun k => by
          rw [up2_if]
          exact orw (s := 8 * p) (r := 8 * b) (i := i) (W := gj c) (V := gj c) (Wi := gi c) hI (by rw [hI (8 * b + i), if_neg (by omega)]) k)
        refine ⟨g1, H1, H2, fun r A => bk_X2_goOnBy_46 ⟨fun y => absurd y (by omega), fun _ => ?_⟩⟩
        rw [hc, e1, e2, show (i : Int) + 1 = ((i + 1 : Nat) : Int) by omega]
        exact ⟨⟨by omega, by omega, by omega, by omega, by omega⟩, H3 r A⟩
    have loop : ∀ n p : Nat, p + n = 512 → ∀ gi : FL, Fo c g gi → (∀ p' q, p' < 512 → q < 512 → (bt (gi c) p' q ↔ bt (g c) p' q ∨ (p' < p ∧ bt (g c) p' b ∧ bt (g c) b q))) → ∃ g' : FL, A_X2_goOnBy_16 σ f gi c (b : Int) ((b : Int) * 8) ((8 * p : Nat) : Int) (il σ f g', []) ∧ Fo c g g' ∧ ∀ p q, p < 512 → q < 512 → (bt (g' c) p q ↔ bt (g c) p q ∨ (bt (g c) p b ∧ bt (g c) b q)) := by
      intro n
      induction n with
      | zero =>
        intro p hp gi hF hI
        obtain rfl : p = 512 := hp
        refine ⟨gi, bk_X2_goOnBy_16 ⟨fun _ => rfl, fun y => absurd (by decide) y⟩, hF, fun p q hp hq => ?_⟩
        rw [hI p q hp hq]
        exact or_congr Iff.rfl ⟨fun z => z.2, fun z => ⟨hp, z⟩⟩
      | succ n ih =>
        intro p hp gi hF hI
        have e1 : (((8 * p : Nat) : Int) + (b : Int) / 64).toNat = 8 * p + b / 64 := by omega
        have e2 : ((b : Int) % 64).toNat = b % 64 := by omega
        have e3 : ((8 * p : Nat) : Int) + 8 = ((8 * (p + 1) : Nat) : Int) := by omega
        have tst : ((gi c (8 * p + b / 64)) >>> (b % 64) &&& 1#64 = 0#64) ↔ ¬ bt (g c) p b := by
          rw [lB_sh1, ← Bool.not_eq_true]
          refine not_congr ?_
          show bt (gi c) p b ↔ _
          rw [hI p b (by omega) hb]
          exact ⟨fun z => z.elim id fun z => absurd z.1 (Nat.lt_irrefl _), Or.inl⟩
        by_cases y : bt (g c) p b
        · obtain ⟨g1, H1, H2, H3⟩ := inner p (by omega) gi hF 8 0 rfl gi hF (fun k => by rw [if_neg (by omega)])
          obtain ⟨g', A, G1, G2⟩ := ih (p + 1) (by omega) g1 H1 (fun p' q hp' hq => by
            rw [H2 p' q hq, hI p' q hp' hq, hI b q hb hq]
            constructor
            · rintro ((z | z) | ⟨z1, z2 | z2⟩)
              · exact Or.inl z
              · exact Or.inr ⟨by omega, z.2⟩
              · exact Or.inr ⟨by omega, by rw [z1]; exact y, z2⟩
              · exact Or.inr ⟨by omega, by rw [z1]; exact y, z2.2.2⟩
            · rintro (z | ⟨z1, z2, z3⟩)
              · exact Or.inl (Or.inl z)
              · by_cases e : p' = p
                · exact Or.inr ⟨e, Or.inl z3⟩
                · exact Or.inl (Or.inr ⟨by omega, z2, z3⟩))
          refine ⟨g', bk_X2_goOnBy_16 ⟨fun y => absurd y (by omega), fun _ => ?_⟩, G1, G2⟩
          rw [hc, e1, e2, e3]
          exact ⟨⟨by omega, by omega, by omega, by omega⟩, fun w => absurd y (tst.mp w), fun _ => H3 _ A⟩
        · obtain ⟨g', A, G1, G2⟩ := ih (p + 1) (by omega) gi hF (fun p' q hp' hq => by
            rw [hI p' q hp' hq]
            constructor
            · rintro (z | z)
              · exact Or.inl z
              · exact Or.inr ⟨by omega, z.2⟩
            · rintro (z | ⟨z1, z2, z3⟩)
              · exact Or.inl z
              · by_cases e : p' = p
                · rw [e] at z2
                  exact absurd z2 y
                · exact Or.inr ⟨by omega, z2, z3⟩)
          refine ⟨g', bk_X2_goOnBy_16 ⟨fun y => absurd y (by omega), fun _ => ?_⟩, G1, G2⟩
          rw [hc, e1, e2, e3]
          exact ⟨⟨by omega, by omega, by omega, by omega⟩, fun _ => ⟨by omega, A⟩, fun w => absurd (tst.mpr y) w⟩
    obtain ⟨g', A, G1, G2⟩ := loop 512 0 rfl g Fo.rfl' (fun p q _ _ => ⟨Or.inl, fun z => z.elim id fun z => absurd z.1 (Nat.not_lt_zero _)⟩)
    refine ⟨g', bk_X2_goOnBy_0 ⟨by omega, f, g, _, E, fun _ => A, fun y => absurd ?_ y⟩, G1, G2⟩
    unfold bI
    rw [if_neg z]
/-- the least relation about this one that holds of each and itself and goes on -/
def Clr (R : Nat → Nat → Prop) (p q : Nat) : Prop := ∀ S : Nat → Nat → Prop, (∀ x, x < 512 → S x x) → (∀ x y z, x < 512 → y < 512 → z < 512 → S x y → S y z → S x z) → (∀ x y, x < 512 → y < 512 → R x y → S x y) → S p q
theorem Clr.one {R : Nat → Nat → Prop} {p q : Nat} (hp : p < 512) (hq : q < 512) (h : R p q) : Clr R p q := fun _ _ _ h3 => h3 p q hp hq h
theorem Clr.self {R : Nat → Nat → Prop} {p : Nat} (hp : p < 512) : Clr R p p := fun _ h1 _ _ => h1 p hp
theorem Clr.tr {R : Nat → Nat → Prop} {p m q : Nat} (hp : p < 512) (hm : m < 512) (hq : q < 512) (h1 : Clr R p m) (h2 : Clr R m q) : Clr R p q := fun S s1 s2 s3 => s2 p m q hp hm hq (h1 S s1 s2 s3) (h2 S s1 s2 s3)
theorem Clr.idem {R : Nat → Nat → Prop} {p q : Nat} (hp : p < 512) (hq : q < 512) : Clr (Clr R) p q ↔ Clr R p q :=
  ⟨fun h => h (Clr R) (fun _ => Clr.self) (fun _ _ _ => Clr.tr) (fun _ _ _ _ z => z), fun h => Clr.one hp hq h⟩
theorem Clr.cg {R R' : Nat → Nat → Prop} (e : ∀ p q, p < 512 → q < 512 → (R p q ↔ R' p q)) {p q : Nat} : Clr R p q ↔ Clr R' p q :=
  ⟨fun h S s1 s2 s3 => h S s1 s2 fun x y hx hy z => s3 x y hx hy ((e x y hx hy).mp z), fun h S s1 s2 s3 => h S s1 s2 fun x y hx hy z => s3 x y hx hy ((e x y hx hy).mpr z)⟩
/-- on the way to it -/
def Wsh (R Q : Nat → Nat → Prop) (b : Nat) : Prop := (∀ p q, p < 512 → q < 512 → R p q → Q p q) ∧ (∀ p q, p < 512 → q < 512 → Q p q → Clr R p q) ∧ (∀ p c q, p < 512 → c < b → c < 512 → q < 512 → Q p c → Q c q → Q p q) ∧ ∀ c, c < 512 → (∀ p, p < 512 → R p c → p = c) → ∀ p, p < 512 → Q p c → p = c
theorem Wsh.beg {R Q : Nat → Nat → Prop} (h : ∀ p q, p < 512 → q < 512 → (Q p q ↔ R p q)) : Wsh R Q 0 := ⟨fun p q hp hq z => (h p q hp hq).mpr z, fun p q hp hq z => Clr.one hp hq ((h p q hp hq).mp z), fun _ c _ _ z => absurd z (Nat.not_lt_zero c), fun c hc z p hp y => z p hp ((h p c hp hc).mp y)⟩
theorem Wsh.step {R Q Q' : Nat → Nat → Prop} {b : Nat} (h : Wsh R Q b) (hb : b < 512) (e : ∀ p q, p < 512 → q < 512 → (Q' p q ↔ Q p q ∨ (Q p b ∧ Q b q))) : Wsh R Q' (b + 1) := by
  obtain ⟨h1, h2, h3, h4⟩ := h
  refine ⟨fun p q hp hq z => (e p q hp hq).mpr (Or.inl (h1 p q hp hq z)), fun p q hp hq z => ?_, fun p c q hp hcb hc hq z1 z2 => ?_, fun c hc z p hp y => ?_⟩
  · rcases (e p q hp hq).mp z with z | ⟨z1, z2⟩
    · exact h2 p q hp hq z
    · exact Clr.tr hp hb hq (h2 p b hp hb z1) (h2 b q hb hq z2)
  · rw [e p c hp hc] at z1
    rw [e c q hc hq] at z2
    rw [e p q hp hq]
    by_cases eb : c = b
    · subst eb
      have y1 : Q p c := z1.elim id fun z => z.1
      have y2 : Q c q := z2.elim id fun z => z.2
      exact Or.inr ⟨y1, y2⟩
    · have cb : c < b := by omega
      rcases z1 with z1 | ⟨z1, z3⟩
      · rcases z2 with z2 | ⟨z2, z4⟩
        · exact Or.inl (h3 p c q hp cb hc hq z1 z2)
        · exact Or.inr ⟨h3 p c b hp cb hc hb z1 z2, z4⟩
      · rcases z2 with z2 | ⟨z2, z4⟩
        · exact Or.inr ⟨z1, h3 b c q hb cb hc hq z3 z2⟩
        · exact Or.inr ⟨z1, z4⟩
  · rcases (e p c hp hc).mp y with y | ⟨y1, y2⟩
    · exact h4 c hc z p hp y
    · have := h4 c hc z b hb y2
      rw [this] at y1
      exact h4 c hc z p hp y1
theorem Wsh.skip {R Q : Nat → Nat → Prop} {b : Nat} (h : Wsh R Q b) (hb : b < 512) (e : ∀ p, p < 512 → R p b → p = b) : Wsh R Q (b + 1) := by
  obtain ⟨h1, h2, h3, h4⟩ := h
  refine ⟨h1, h2, fun p c q hp hcb hc hq z1 z2 => ?_, h4⟩
  by_cases eb : c = b
  · subst eb
    have := h4 c hb e p hp z1
    rw [this]
    exact z2
  · exact h3 p c q hp (by omega) hc hq z1 z2
theorem Wsh.fin {R Q : Nat → Nat → Prop} (h : Wsh R Q 512) {p q : Nat} (hp : p < 512) (hq : q < 512) : (Q p q ∨ p = q) ↔ Clr R p q := by
  obtain ⟨h1, h2, h3, h4⟩ := h
  constructor
  · rintro (z | z)
    · exact h2 p q hp hq z
    · rw [z]
      exact Clr.self hq
  · intro z
    refine z (fun x y => Q x y ∨ x = y) (fun x _ => Or.inr rfl) (fun x y z hx hy hz a b => ?_) (fun x y hx hy a => Or.inl (h1 x y hx hy a))
    rcases a with a | a
    · rcases b with b | b
      · exact Or.inl (h3 x y z hx hy hy hz a b)
      · rw [← b]
        exact Or.inl a
    · rw [a]
      exact b
theorem x_close {σ : St} {f : FI} {g : FL} {a c : Nat} (hs : Sh2 σ a) (hc : ln σ c = 4096) (hac : a + 22 ≠ c) : ∃ g' : FL, Ex mt 2 27 (il σ f g) [vR 2 (some a), vR 15 (some c)] (il σ f g', []) ∧ (∀ b, b ≠ c → b ≠ a + 22 → g' b = g b) ∧ ∀ p q, p < 512 → q < 512 → (bt (g' c) p q ↔ Clr (bt (g c)) p q) := by
  obtain ⟨g0, E0, F0, B0⟩ := x_sumUp (σ := σ) (f := f) (g := g) hs hc hac
  have g0c : g0 c = g c := F0 c (fun z => hac z.symm)
  have last : ∀ n p : Nat, p + n = 512 → ∀ (gj gi : FL), Fo c gj gi → (∀ p' q, p' < 512 → q < 512 → (bt (gi c) p' q ↔ bt (gj c) p' q ∨ (p' < p ∧ p' = q))) → ∃ g' : FL, A_X2_close_48 σ f gi c (p : Int) (il σ f g', []) ∧ Fo c gj g' ∧ ∀ p q, p < 512 → q < 512 → (bt (g' c) p q ↔ bt (gj c) p q ∨ p = q) := by
    intro n
    induction n with
    | zero =>
      intro p hp gj gi hF hI
      obtain rfl : p = 512 := hp
      exact ⟨gi, bk_X2_close_48 ⟨fun _ => rfl, fun y => absurd (by decide) y⟩, hF, fun p q hp hq => (hI p q hp hq).trans (or_congr Iff.rfl ⟨fun z => z.2, fun z => ⟨hp, z⟩⟩)⟩
    | succ n ih =>
      intro p hp gj gi hF hI
      obtain ⟨g1, E, F1, B1⟩ := x_mark (σ := σ) (f := f) (g := gi) (c := c) (p := p) (m := p) hc (by omega) (by omega)
      obtain ⟨g', A, G1, G2⟩ := ih (p + 1) (by omega) gj g1 (hF.tr F1) (fun p' q hp' hq => by
        rw [B1 p' q hq, hI p' q hp' hq]
        constructor
        · rintro ((z | z) | z)
          · exact Or.inl z
          · exact Or.inr ⟨by omega, z.2⟩
          · exact Or.inr ⟨by omega, by omega⟩
        · rintro (z | z)
          · exact Or.inl (Or.inl z)
          · by_cases e : p' = p
            · exact Or.inr ⟨e, by omega⟩
            · exact Or.inl (Or.inr ⟨by omega, z.2⟩))
      exact ⟨g', bk_X2_close_48 ⟨fun y => absurd y (by omega), fun _ => ⟨f, g1, E, by omega, A⟩⟩, G1, G2⟩
  have loop : ∀ n b : Nat, b + n = 512 → ∀ gi : FL, Fo c g0 gi → Wsh (bt (g c)) (bt (gi c)) b → ∃ g' : FL, A_X2_close_7 σ f gi a c (b : Int) (il σ f g', []) ∧ Fo c g0 g' ∧ ∀ p q, p < 512 → q < 512 → (bt (g' c) p q ↔ Clr (bt (g c)) p q) := by
    intro n
    induction n with
    | zero =>
      intro b hb gi hF hI
      obtain rfl : b = 512 := hb
      obtain ⟨g', A, G1, G2⟩ := last 512 0 rfl gi gi Fo.rfl' (fun p q _ _ => ⟨Or.inl, fun z => z.elim id fun z => absurd z.1 (Nat.not_lt_zero _)⟩)
      exact ⟨g', bk_X2_close_7 hs ⟨fun _ => A, fun y => absurd (by decide) y⟩, hF.tr G1, fun p q hp hq => (G2 p q hp hq).trans (hI.fin hp hq)⟩
    | succ n ih =>
      intro b hb gi hF hI
      have e1 : ((b : Int) / 64).toNat = b / 64 := by omega
      have e2 : ((b : Int) % 64).toNat = b % 64 := by omega
      have e3 : (b : Int) + 1 = ((b + 1 : Nat) : Int) := by omega
      have tst : ((gi (a + 22) (b / 64)) >>> (b % 64) &&& 1#64 = 0#64) ↔ ¬ ∃ p, p < 512 ∧ p ≠ b ∧ bt (g c) p b := by
        rw [lB_sh1, ← Bool.not_eq_true, hF (a + 22) hac]
        refine not_congr ?_
        have := B0 b (by omega)
        unfold bt at this
        rw [show 8 * 0 + b / 64 = b / 64 by omega] at this
        exact this
      by_cases y : ∃ p, p < 512 ∧ p ≠ b ∧ bt (g c) p b
      · obtain ⟨g1, E, F1, B1⟩ := x_goOnBy (σ := σ) (f := f) (g := gi) (c := c) (b := b) hc (by omega)
        obtain ⟨g', A, G1, G2⟩ := ih (b + 1) (by omega) g1 (hF.tr F1) (hI.step (by omega) B1)
        refine ⟨g', bk_X2_close_7 hs ⟨fun y => absurd y (by omega), fun _ => ?_⟩, G1, G2⟩
        rw [e1, e2, e3]
        exact ⟨⟨by omega, by omega, by omega⟩, fun w => absurd y (tst.mp w), fun _ => ⟨f, g1, E, by omega, A⟩⟩
      · obtain ⟨g', A, G1, G2⟩ := ih (b + 1) (by omega) gi hF (hI.skip (by omega) (fun p hp z => by
          by_cases e : p = b
          · exact e
          · exact absurd ⟨p, hp, e, z⟩ y))
        refine ⟨g', bk_X2_close_7 hs ⟨fun y => absurd y (by omega), fun _ => ?_⟩, G1, G2⟩
        rw [e1, e2, e3]
        exact ⟨⟨by omega, by omega, by omega⟩, fun _ => ⟨by omega, A⟩, fun w => absurd (tst.mpr y) w⟩
  obtain ⟨g', A, G1, G2⟩ := loop 512 0 rfl g0 Fo.rfl' (Wsh.beg (fun p q _ _ => by rw [g0c]))
  exact ⟨g', bk_X2_close_0 hs ⟨f, g0, E0, A⟩, fun b h1 h2 => by rw [G1 b h1, F0 b h2], G2⟩
