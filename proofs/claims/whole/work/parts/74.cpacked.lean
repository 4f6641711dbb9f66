/-! packed: the call pair -/
/-- the rows of bits that the class makes for the packing -/
theorem x_pack0 {σ : St} {f : FI} {g : FL} {B a n : Nat} (hs : Sh7 σ a) (hS : Stat σ f) (hl : Lo σ B) (hT : TC f a n) (ha : B ≤ a) (hx : a + 6 ≤ nx σ) : ∃ (σ' : St) (f' : FI) (g' : FL) (u w : Nat) (D : BitVec 64), Ext σ σ' ∧ nx σ' = nx σ + 2 ∧ sl σ' = sl σ + 24 ∧ (∀ c, c < nx σ → f' c = f c ∧ g' c = g c) ∧ Sh7 σ' a ∧ ln σ' u = 12 ∧ ln σ' w = 12 ∧ (∀ i, i < n → ∀ p : Nat, p < 64 → ((g' u i).getLsbD p = true ↔ matP (f' (a + 1) i) (p : Int))) ∧ (∀ i, i < n → ∀ p : Nat, p < 64 → ((g' w i).getLsbD p = true ↔ matP (f' (a + 1) i) (p : Int) ∧ deF (f' (a + 2)) (f' (a + 3)) (p : Int) (i : Int) = f' (a + 5) p)) ∧ (∀ p : Nat, p < 64 → (D.getLsbD p = true ↔ f' (a + 5) p = -2)) ∧ ∀ r, A_X7_fewestRows_116 σ' f' g' a u w D (p2 (n : Int) - 1) (n : Int) 0 r → Ex mt 3 103 (il σ f g) [vR 7 (some a)] r := by
  have n12 := hT.1.2
  have e0 : Ext σ (mk (mk σ 15 12 12) 15 12 12) := (Ext.mk σ 15 12 12).trans (Ext.mk _ 15 12 12)
  have hs' : Sh7 (mk (mk σ 15 12 12) 15 12 12) a := hs.of (fun b h1 h2 => (e0.2 b (by omega)).1) (fun k => (e0.2 a (by omega)).2.2 k)
  have hfe : ∀ c, c < nx σ → up1 (up1 f (nx σ) (fun _ => 0)) (nx (mk σ 15 12 12)) (fun _ => 0) c = f c := fun c hc => by
    rw [up1_ne' (by rw [mk_nx]; omega), up1_ne' (by omega)]
  have hge : ∀ c, c < nx σ → up1 (up1 g (nx σ) (fun _ => 0)) (nx (mk σ 15 12 12)) (fun _ => 0) c = g c := fun c hc => by
    rw [up1_ne' (by rw [mk_nx]; omega), up1_ne' (by omega)]
  have lu : ln (mk (mk σ 15 12 12) 15 12 12) (nx σ) = 12 := by rw [mk_ln, if_neg (by rw [mk_nx]; omega), mk_ln, if_pos rfl]
  have lw : ln (mk (mk σ 15 12 12) 15 12 12) (nx (mk σ 15 12 12)) = 12 := by rw [mk_ln, if_pos rfl]
  have hne : nx (mk σ 15 12 12) ≠ nx σ := by rw [mk_nx]; omega
  have hS' := (hS.ext hl e0 (by omega) (fun c hc => hfe c (by omega))).1
  have hT' : TC (up1 (up1 f (nx σ) (fun _ => 0)) (nx (mk σ 15 12 12)) (fun _ => 0)) a n := hT.of (by rw [hfe _ (by omega)]) (hfe _ (by omega)) (hfe _ (by omega)) (hfe _ (by omega)) (hfe _ (by omega)) (hfe _ (by omega))
  have hw : nx σ ≤ nx (mk σ 15 12 12) := by rw [mk_nx]; omega
  generalize hf1 : up1 (up1 f (nx σ) (fun _ => 0)) (nx (mk σ 15 12 12)) (fun _ => 0) = f1 at hfe hS' hT'
  generalize hg1 : up1 (up1 g (nx σ) (fun _ => 0)) (nx (mk σ 15 12 12)) (fun _ => 0) = g1 at hge
  generalize hσ1 : mk (mk σ 15 12 12) 15 12 12 = σ1 at e0 hs' lu lw hS'
  have nx1 : nx σ1 = nx σ + 2 := by rw [← hσ1]; rfl
  have sl1 : sl σ1 = sl σ + 24 := by rw [← hσ1]; rfl
  -- droppable packets
  have d15 : ∀ k i : Nat, i + k = 64 → ∀ X : BitVec 64, (∀ p : Nat, p < 64 → (X.getLsbD p = true ↔ p < i ∧ f1 (a + 5) p = -2)) → ∃ D : BitVec 64, (∀ p : Nat, p < 64 → (D.getLsbD p = true ↔ f1 (a + 5) p = -2)) ∧ ∀ r, A_X7_fewestRows_54 σ1 f1 g1 a (nx σ) (nx (mk σ 15 12 12)) D 0 r → A_X7_fewestRows_15 σ1 f1 g1 a (nx σ) (nx (mk σ 15 12 12)) X (i : Int) r := by
    intro k
    induction k with
    | zero =>
      intro i hi X hX
      obtain rfl : i = 64 := by omega
      exact ⟨X, fun p hp => by rw [hX p hp]; exact ⟨fun z => z.2, fun z => ⟨hp, z⟩⟩, fun r A => bk_X7_fewestRows_15 hs' ⟨fun _ => A, fun z => absurd (by decide) z⟩⟩
    | succ k ih =>
      intro i hi X hX
      by_cases z : f1 (a + 5) i = -2
      · obtain ⟨D, hD, K⟩ := ih (i + 1) (by omega) (X ||| (1#64 <<< i)) (fun p hp => by
          rw [orb (by omega), Bool.or_eq_true, decide_eq_true_iff, hX p hp]
          constructor
          · rintro (h | rfl)
            · exact ⟨by omega, h.2⟩
            · exact ⟨by omega, z⟩
          · intro h
            by_cases y : i = p
            · exact Or.inr y
            · exact Or.inl ⟨by omega, h.2⟩)
        exact ⟨D, hD, fun r A => bk_X7_fewestRows_15 hs' ⟨fun y => absurd y (by omega), fun _ => ⟨by omega, fun y => absurd (show f1 (a + 5) i = -2 from z) y, fun _ => ⟨by omega, by omega, K r A⟩⟩⟩⟩
      · obtain ⟨D, hD, K⟩ := ih (i + 1) (by omega) (X ||| 0#64) (fun p hp => by
          rw [BitVec.or_zero, hX p hp]
          constructor
          · exact fun h => ⟨by omega, h.2⟩
          · intro h
            refine ⟨?_, h.2⟩
            by_cases y : p = i
            · subst y; exact absurd h.2 z
            · omega)
        exact ⟨D, hD, fun r A => bk_X7_fewestRows_15 hs' ⟨fun y => absurd y (by omega), fun _ => ⟨by omega, fun _ => ⟨by omega, K r A⟩, fun y => absurd (show f1 (a + 5) i = -2 from y) z⟩⟩⟩
  obtain ⟨D, hD, K15⟩ := d15 64 0 rfl (0#64) (fun p hp => by
    rw [BitVec.getLsbD_zero]
    exact ⟨fun z => absurd z (by decide), fun z => absurd z.1 (Nat.not_lt_zero p)⟩)
  -- what each row matches, and deals with alike
  have r54 : ∀ k i : Nat, i + k = n → ∀ gi : FL, (∀ c, c ≠ nx σ → c ≠ nx (mk σ 15 12 12) → gi c = g1 c) → (∀ j, j < i → ∀ p : Nat, p < 64 → ((gi (nx σ) j).getLsbD p = true ↔ matP (f1 (a + 1) j) (p : Int))) → (∀ j, j < i → ∀ p : Nat, p < 64 → ((gi (nx (mk σ 15 12 12)) j).getLsbD p = true ↔ matP (f1 (a + 1) j) (p : Int) ∧ deF (f1 (a + 2)) (f1 (a + 3)) (p : Int) (j : Int) = f1 (a + 5) p)) → ∃ g' : FL, (∀ c, c ≠ nx σ → c ≠ nx (mk σ 15 12 12) → g' c = g1 c) ∧ (∀ j, j < n → ∀ p : Nat, p < 64 → ((g' (nx σ) j).getLsbD p = true ↔ matP (f1 (a + 1) j) (p : Int))) ∧ (∀ j, j < n → ∀ p : Nat, p < 64 → ((g' (nx (mk σ 15 12 12)) j).getLsbD p = true ↔ matP (f1 (a + 1) j) (p : Int) ∧ deF (f1 (a + 2)) (f1 (a + 3)) (p : Int) (j : Int) = f1 (a + 5) p)) ∧ ∀ r, A_X7_fewestRows_116 σ1 f1 g' a (nx σ) (nx (mk σ 15 12 12)) D (p2 (n : Int) - 1) (n : Int) 0 r → A_X7_fewestRows_54 σ1 f1 gi a (nx σ) (nx (mk σ 15 12 12)) D (i : Int) r := by
    intro k
    induction k with
    | zero =>
      intro i hi gi h1 h2 h3
      obtain rfl : i = n := by omega
      refine ⟨gi, h1, h2, h3, fun r A => bk_X7_fewestRows_54 hs' ⟨fun _ => ?_, fun z => absurd (by rw [hT'.1.1]; omega) z⟩⟩
      rw [hT'.1.1]
      have pw := pow31 (n := i) (by omega)
      have pp : 0 < 2 ^ i := Nat.two_pow_pos i
      have e := p2_Nat i
      generalize 2 ^ i = N at pw pp e
      exact ⟨⟨by omega, by omega⟩, A⟩
    | succ k ih =>
      intro i hi gi h1 h2 h3
      have tr := hT'.2.1 i (by omega)
      obtain ⟨X, hX, E1⟩ := x_packetsOf (σ := σ1) (f := f1) (g := gi) (m := f1 (a + 1) i) hS' tr.1
      obtain ⟨Y, hY, E2⟩ := x_alikeBy (σ := σ1) (f := f1) (g := up2 gi (nx σ) i X) (a := a) (n := n) (i := i) (X := X) hs' hS' hT' (by omega)
      obtain ⟨g', r1, r2, r3, K⟩ := ih (i + 1) (by omega) (up2 (up2 gi (nx σ) i X) (nx (mk σ 15 12 12)) i Y) (fun c hc1 hc2 => by rw [up2_ne hc2, up2_ne hc1]; exact h1 c hc1 hc2) (fun j hj p hp => by
        rw [u2_a (fun z => hne z.symm)]
        by_cases z : j = i
        · subst z
          rw [u2_s]
          exact hX p hp
        · rw [u2_i z]
          exact h2 j (by omega) p hp) (fun j hj p hp => by
        by_cases z : j = i
        · subst z
          rw [u2_s, hY p hp, hX p hp]
        · rw [u2_i z, u2_a hne]
          exact h3 j (by omega) p hp)
      exact ⟨g', r1, r2, r3, fun r A => bk_X7_fewestRows_54 hs' ⟨fun z => absurd z (by rw [hT'.1.1]; omega), fun _ => ⟨by omega, f1, gi, X, E1, by rw [lu]; omega, f1, _, Y, E2, ⟨by rw [lw]; omega, by omega⟩, K r A⟩⟩⟩
  obtain ⟨g', r1, r2, r3, K54⟩ := r54 n 0 (by omega) g1 (fun _ _ _ => rfl) (fun j hj => absurd hj (Nat.not_lt_zero j)) (fun j hj => absurd hj (Nat.not_lt_zero j))
  refine ⟨σ1, f1, g', nx σ, nx (mk σ 15 12 12), D, e0, nx1, sl1, fun c hc => ⟨hfe c hc, ?_⟩, hs', lu, lw, r2, r3, hD, fun r A => bk_X7_fewestRows_0 hs ?_⟩
  · rw [r1 c (by omega) (by omega)]
    exact hge c hc
  · rw [hσ1, hf1, hg1]
    exact K15 r (K54 r A)
theorem c_packed {σ : St} {f : FI} {g : FL} {B : Nat} (hs : Sh11 σ B) (hm : Sh12 σ (B + 165)) {nn : Nat → Nat} (hS : Stat σ f) (hl : Lo σ B) (h : ITb f B nn) (hx : B + 220 ≤ nx σ) {x y : Int} (rx : -2147483648 ≤ x ∧ x ≤ 2147483647) (ry : -2147483648 ≤ y ∧ y ≤ 2147483647) : ∃ (σ1 : St) (v : Int) (f1 f2 : FI) (g1 : FL), Ex mt 4 165 (il σ f g) [vR 11 (some B), vI x, vI y] (il σ1 f1 g1, [vI v]) ∧ Ex mt 4 264 (il σ1 f1 g1) [vR 12 (some (B + 165)), vI x, vI y] (il σ1 f2 g1, [vI v]) ∧ Ext σ σ1 ∧ nx σ1 ≤ nx σ + 2 ∧ sl σ1 ≤ sl σ + 24 ∧ (∀ c, c < nx σ → g1 c = g c) ∧ Fr (fun a _ => nx σ ≤ a ∨ a = B + 165 + 29 ∨ a = B + 165 + 30) f f2 := by
  by_cases hc : (0 ≤ x ∧ x ≤ 1) ∧ (0 ≤ y ∧ y ≤ 7)
  · obtain ⟨i, rfl⟩ := Int.eq_ofNat_of_zero_le hc.1.1
    obtain ⟨j, rfl⟩ := Int.eq_ofNat_of_zero_le hc.2.1
    have ht : 8 * i + j < 16 := by omega
    obtain ⟨tc, tm⟩ := h (8 * i + j) ht
    have n12 := tc.1.2
    have h7 : Sh7 σ (tB B (8 * i + j)) := by
      rw [← tA_tB]
      exact hs.o9.s ⟨by omega, by omega⟩
    have tb : B ≤ tB B (8 * i + j) ∧ tB B (8 * i + j) + 6 ≤ B + 141 := by unfold tB; omega
    obtain ⟨σ1, f1, g1, u, w, D, e0, nx1, sl1, hfg, h7', lu, lw, q1, q2, hD, K⟩ := x_pack0 (g := g) h7 hS hl tc tb.1 (by omega)
    have hm1 := (e0.ks hx hs.o10).sh12 hm
    have hf1 : ∀ c, c < nx σ → f1 c = f c := fun c hc => (hfg c hc).1
    generalize htB : tB B (8 * i + j) = a at tb h7 h7' q1 q2 hD K tc tm
    generalize hnn : nn (8 * i + j) = n at tc tm n12 q1 q2 K
    have tc1 : TC f1 a n := tc.of (by rw [hf1 _ (by omega)]) (hf1 _ (by omega)) (hf1 _ (by omega)) (hf1 _ (by omega)) (hf1 _ (by omega)) (hf1 _ (by omega))
    have hRw : Rws (f1 (a + 2)) (f1 (a + 3)) n := fun k hk => (tc1.2.1 k hk).2
    have tm1 : ∀ k, k < n → f1 (B + 165 + 18) (12 * (8 * i + j) + k) = f1 (a + 1) k ∧ f1 (B + 165 + 19) (12 * (8 * i + j) + k) = f1 (a + 2) k ∧ f1 (B + 165 + 20) (12 * (8 * i + j) + k) = f1 (a + 3) k := fun k hk => by
      rw [hf1 _ (by omega), hf1 _ (by omega), hf1 _ (by omega), hf1 _ (by omega), hf1 _ (by omega), hf1 _ (by omega)]
      exact tm.2 k hk
    have e21 : f1 (B + 165 + 21) (8 * i + j) = (n : Int) := by rw [hf1 _ (by omega)]; exact tm.1
    obtain ⟨f2, F2, t2, K2⟩ := m_pack (σ := σ1) (f := f1) (g := g1) (M := B + 165) (t := 8 * i + j) (n := n) (b := j) (R := f1 (a + 1)) (st := f1 (a + 2)) (to := f1 (a + 3)) hm1 ht (by omega) n12 hRw (fun k hk => (tc1.2.1 k hk).1) tm1 e21 64 0 rfl f1 Fr.rfl' (fun p hp => absurd hp (Nat.not_lt_zero p))
    have pw : 2 ^ n ≤ 4096 := Nat.pow_le_pow_right (by decide) n12
    have pp : 0 < 2 ^ n := Nat.two_pow_pos n
    have ep := p2_Nat n
    generalize hN : 2 ^ n = N at pw pp ep
    have loop : ∀ k S : Nat, S + k = N → ∀ best cnt : Int, ∃ v : Int, A_X7_fewestRows_116 σ1 f1 g1 a u w D best cnt (S : Int) (il σ1 f1 g1, [vI v]) ∧ A_X12_packed_147 σ1 f2 g1 (B + 165) (j : Int) ((8 * i + j : Nat) : Int) (n : Int) best cnt (S : Int) (il σ1 f2 g1, [vI v]) := by
      intro k
      induction k with
      | zero =>
        intro S hS best cnt
        refine ⟨best, bk_X7_fewestRows_116 h7' ?_, bk_X12_packed_147 hm1 ?_⟩
        · rw [tc1.1.1, ep]
          exact ⟨by omega, fun _ => rfl, fun z => absurd (by omega) z⟩
        · rw [ep]
          exact ⟨by omega, fun _ => rfl, fun z => absurd (by omega) z⟩
      | succ k ih =>
        intro S hS best cnt
        have Eb := x_bits (σ := σ1) (f := f2) (g := g1) (x := (S : Int)) (by omega)
        by_cases z : cnt ≤ pcI (S : Int)
        · obtain ⟨v, A1, A2⟩ := ih (S + 1) (by omega) best cnt
          refine ⟨v, bk_X7_fewestRows_116 h7' ?_, bk_X12_packed_147 hm1 ?_⟩
          · rw [tc1.1.1, ep]
            exact ⟨by omega, fun y => absurd y (by omega), fun _ => ⟨by omega, fun _ => ⟨by omega, A1⟩, fun y => absurd z y⟩⟩
          · rw [ep]
            exact ⟨by omega, fun y => absurd y (by omega), fun _ => ⟨f2, g1, _, Eb, fun _ => ⟨by omega, A2⟩, fun y => absurd z y⟩⟩
        · obtain ⟨v1, a1, a2, E1⟩ := x_dealAlike (σ := σ1) (f := f1) (g := g1) (a := a) (n := n) (S := S) (u := u) (w := w) (D := D) h7' tc1 (by omega) lu lw q1 q2 hD
          obtain ⟨v2, b1, b2, E2⟩ := x_dealsM (σ := σ1) (f := f2) (g := g1) (M := B + 165) (t := 8 * i + j) (n := n) (b := j) (S := S) (R := f1 (a + 1)) (st := f1 (a + 2)) (to := f1 (a + 3)) hm1 ht (by omega) n12 (by omega) hRw (fun k hk => by
            rw [F2 _ _ (by omega), F2 _ _ (by omega)]
            exact (tm1 k hk).2) (fun p hp => (t2 p hp).1) (fun p hp => (t2 p hp).2)
          have ev : v1 = 1 ↔ v2 = 1 := by
            rw [a2, b2]
            unfold Pk
            constructor
            · intro hh p hp
              refine (deq hRw (by omega) (by omega) (frS_rg _ _ _ _) (by have := frF_rg (f1 (a + 1)) (p : Int) n; omega)).mpr ?_
              rw [hh p hp, (tc1.2.2 p hp).2]
            · intro hh p hp
              rw [(tc1.2.2 p hp).2]
              exact (deq hRw (by omega) (by omega) (frS_rg _ _ _ _) (by have := frF_rg (f1 (a + 1)) (p : Int) n; omega)).mp (hh p hp)
          have ev2 : v1 = v2 := by omega
          subst ev2
          by_cases y : v1 = 0
          · obtain ⟨v, A1, A2⟩ := ih (S + 1) (by omega) best cnt
            refine ⟨v, bk_X7_fewestRows_116 h7' ?_, bk_X12_packed_147 hm1 ?_⟩
            · rw [tc1.1.1, ep]
              exact ⟨by omega, fun y => absurd y (by omega), fun _ => ⟨by omega, fun y => absurd y z, fun _ => ⟨f1, g1, v1, E1, fun _ => ⟨by omega, A1⟩, fun q => absurd y q⟩⟩⟩
            · rw [ep]
              exact ⟨by omega, fun y => absurd y (by omega), fun _ => ⟨f2, g1, _, Eb, fun y => absurd y z, fun _ => ⟨f2, g1, v1, E2, fun _ => ⟨by omega, A2⟩, fun q => absurd y q⟩⟩⟩
          · obtain ⟨v, A1, A2⟩ := ih (S + 1) (by omega) (S : Int) (pcI (S : Int))
            refine ⟨v, bk_X7_fewestRows_116 h7' ?_, bk_X12_packed_147 hm1 ?_⟩
            · rw [tc1.1.1, ep]
              exact ⟨by omega, fun y => absurd y (by omega), fun _ => ⟨by omega, fun y => absurd y z, fun _ => ⟨f1, g1, v1, E1, fun q => absurd q y, fun _ => ⟨by omega, A1⟩⟩⟩⟩
            · rw [ep]
              exact ⟨by omega, fun y => absurd y (by omega), fun _ => ⟨f2, g1, _, Eb, fun y => absurd y z, fun _ => ⟨f2, g1, v1, E2, fun q => absurd q y, fun _ => ⟨by omega, A2⟩⟩⟩⟩
    obtain ⟨v, A1, A2⟩ := loop N 0 (by omega) (p2 (n : Int) - 1) (n : Int)
    have T1 := x_tableAt1 (σ := σ) (f := f) (g := g) hs.o9 (show i ≤ 1 by omega) (show j ≤ 7 by omega)
    rw [htB] at T1
    refine ⟨σ1, v, f1, f2, g1, bk_X11_packed_0 hs (Or.inr ⟨f, g, a, T1, σ1, f1, g1, v, K _ A1, rfl⟩), bk_X12_packed_0 hm1 ⟨⟨rx, ry⟩, fun _ => ⟨⟨by omega, by omega, by omega⟩, ?_⟩, fun z => absurd hc z⟩, e0, by omega, by omega, fun c hc => (hfg c hc).2, fun c k hk => by rw [F2 c k (by omega), hf1 c (by omega)]⟩
    rw [show 8 * (i : Int) + (j : Int) = ((8 * i + j : Nat) : Int) by omega, show f1 (B + 165 + 21) (((8 * i + j : Nat) : Int)).toNat = (n : Int) from e21]
    refine K2 _ (bk_X12_packed_28 hm1 ⟨fun _ => ⟨⟨by omega, ?_⟩, A2⟩, fun z => absurd (by decide) z⟩)
    rw [ep]
    omega
  · exact ⟨σ, -1, f, f, g, bk_X11_packed_0 hs (Or.inl ⟨f, g, x_tableAt0 hs.o9 hc, rfl⟩), bk_X12_packed_0 hm ⟨⟨rx, ry⟩, fun z => absurd z hc, fun _ => rfl⟩, Ext.rfl', by omega, by omega, fun _ _ => rfl, Fr.rfl'⟩
