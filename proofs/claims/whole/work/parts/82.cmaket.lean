/-! make: the call pair -/
/-- only the 64 outcomes count -/
theorem Rgt_cong {O O' : Nat → Int} {b m s t : Int} (e : ∀ p : Nat, p < 64 → O p = O' p) (h : Rgt O b m s t) : Rgt O' b m s t := by
  have eS : ∀ fl, StP O m fl ↔ StP O' m fl := fun fl => ⟨fun h p hp mp => by rw [← e p hp]; exact h p hp mp, fun h p hp mp => by rw [e p hp]; exact h p hp mp⟩
  have eO : ∀ fl, OnP O m fl ↔ OnP O' m fl := fun fl => ⟨fun h p q hp hq mp mq => by rw [← e p hp, ← e q hq]; exact h p q hp hq mp mq, fun h p q hp hq mp mq => by rw [e p hp, e q hq]; exact h p q hp hq mp mq⟩
  have eC : ∀ F fl c, ChP O m F fl c → ChP O' m F fl c := fun F fl c h => by
    rcases h with ⟨a1, a2⟩ | ⟨a1, a2, a3⟩
    · exact Or.inl ⟨(eS fl).mp a1, a2⟩
    · exact Or.inr ⟨fun z => a1 ((eS fl).mpr z), (eO fl).mp a2, a3⟩
  rcases h with ⟨a1, a2, a3⟩ | ⟨F, c0, c1, c2, a1, a2, a3, a4, a5, a6, a7, a8⟩
  · exact Or.inl ⟨fun p hp mp => by rw [← e p hp]; exact a1 p hp mp, a2, a3⟩
  · refine Or.inr ⟨F, c0, c1, c2, ?_, fun p hp mp => by rw [← e p hp]; exact a2 p hp mp, (eO 3).mp a3, eC _ _ _ a4, eC _ _ _ a5, eC _ _ _ a6, a7, a8⟩
    obtain ⟨p, p1, p2, p3, p4, p5⟩ := a1
    exact ⟨p, p1, p2, by rw [← e p p1]; exact p3, by rw [← e p p1]; exact p4, fun q hq mq => by rw [← e q (by omega)]; exact p5 q hq mq⟩
theorem run_cong {O O' : Nat → Int} {b : Int} (h : ∀ m s t, Rgt O b m s t ↔ Rgt O' b m s t) : ∀ e, run O b e = run O' b e
  | 0 => rfl
  | e + 1 => by
    have ih := run_cong h e
    have hs : Sl O b (run O b e).1 e ↔ Sl O' b (run O' b e).1 e := by
      unfold Sl
      rw [ih]
      exact ⟨fun ⟨a1, a2, s, t, a3⟩ => ⟨a1, a2, s, t, (h _ _ _).mp a3⟩, fun ⟨a1, a2, s, t, a3⟩ => ⟨a1, a2, s, t, (h _ _ _).mpr a3⟩⟩
    by_cases z : Sl O b (run O b e).1 e
    · have z2 := hs.mp z
      have z3 := z
      obtain ⟨_, _, s, t, hr⟩ := z3
      have h1 := rST hr
      have h2 := rST ((h _ _ _).mp hr)
      rw [run_yes z, run_yes z2, ih, h1.1, h1.2, h2.1, h2.2]
    · rw [run_no z, run_no (fun y => z (hs.mpr y)), ih]
theorem c_make {σ : St} {f : FI} {g : FL} {B w : Nat} {q md : Nat → Nat} (hs : Sh11 σ B) (hm : Sh12 σ (B + 165)) {nn : Nat → Nat} (hI : IW σ f g B w q md) (hlt : ∀ j, j < w → q j < nx σ ∧ md j < nx σ) (hS : Stat σ f) (hl : Lo σ B) (h : ITb f B nn) (hx : B + 220 ≤ nx σ) {x y z : Int} (rx : -2147483648 ≤ x ∧ x ≤ 2147483647) (ry : -2147483648 ≤ y ∧ y ≤ 2147483647) (rz : -2147483648 ≤ z ∧ z ≤ 2147483647) : ∃ (nn' : Nat → Nat) (σ1 : St) (v : Int) (f1 f2 : FI) (g1 : FL), Ex mt 6 181 (il σ f g) [vR 11 (some B), vI x, vI y, vI z] (il σ1 f1 g1, [vI v]) ∧ Ex mt 3 302 (il σ1 f1 g1) [vR 12 (some (B + 165)), vI x, vI y, vI z] (il σ1 f2 g1, [vI v]) ∧ ITb f2 B nn' ∧ Ext σ σ1 ∧ nx σ1 ≤ nx σ + 7 ∧ sl σ1 ≤ sl σ + 234 ∧ (∀ c, c < nx σ → g1 c = g c) ∧ Fr (fun a _ => nx σ ≤ a ∨ (B + 45 ≤ a ∧ a < B + 141) ∨ (B + 165 + 18 ≤ a ∧ a ≤ B + 165 + 21) ∨ (B + 165 + 49 ≤ a ∧ a ≤ B + 165 + 52)) f f2 := by
  have w12 := hI.1.1
  have e4 : f (B + 165) 4 = (w : Int) := hI.1.2.2
  by_cases hc : (0 ≤ x ∧ x < w)
  · obtain ⟨i, rfl⟩ := Int.eq_ofNat_of_zero_le hc.1
    have hi : i < w := by omega
    by_cases hc2 : (0 ≤ y ∧ y ≤ 1) ∧ (0 ≤ z ∧ z ≤ 7)
    · obtain ⟨v', rfl⟩ := Int.eq_ofNat_of_zero_le hc2.1.1
      obtain ⟨b, rfl⟩ := Int.eq_ofNat_of_zero_le hc2.2.1
      have ht : 8 * v' + b < 16 := by omega
      have h7 : Sh7 σ (tB B (8 * v' + b)) := by
        rw [← tA_tB]
        exact hs.o9.s ⟨by omega, by omega⟩
      have tb : B + 45 ≤ tB B (8 * v' + b) ∧ tB B (8 * v' + b) + 6 ≤ B + 141 := by unfold tB; omega
      have hwj := hI.2 i hi
      have T1 := x_tableAt1 (σ := σ) (f := f) (g := g) hs.o9 (show v' ≤ 1 by omega) (show b ≤ 7 by omega)
      obtain ⟨σ1, f1, g1, v, e0, n0, s0, E1, kg, kf, hv⟩ := x_remake (σ := σ) (f := f) (g := g) (B := B) (a := tB B (8 * v' + b)) (q := q i) (md := md i) (b := b) h7 hwj.2.1 hS hl (by omega) (by omega) (by omega) (hlt i hi).1 (hlt i hi).2
      have C1 : Ex mt 6 181 (il σ f g) [vR 11 (some B), vI (i : Int), vI (v' : Int), vI (b : Int)] (il σ1 f1 g1, [vI v]) := bk_X11_make_0 hs (Or.inr ⟨f, g, q i, x_wishAt1 hs hI hi, Or.inr ⟨f, g, _, T1, σ1, f1, g1, v, E1, rfl⟩⟩)
      have hm1 := (e0.ks hx hs.o10).sh12 hm
      have gM : g1 (B + 165 + 10) = g (B + 165 + 10) := kg _ (by omega)
      have eM : ∀ p : Int, rwM g1 (B + 165) (i : Int) p = rwM g (B + 165) (i : Int) p := fun p => by
        unfold rwM
        rw [gM]
      have er : ∀ p : Nat, p < 64 → ∀ j, j < 8 → rwC g (md i) (64 * (b : Int) + (p : Int)) j = rwM g1 (B + 165) (i : Int) (64 * (b : Int) + (p : Int)) j := fun p hp j hj => by
        rw [eM]
        exact hI.row hi (by omega) j hj
      obtain ⟨f2, F2, h2⟩ := m_make21 (σ := σ1) (f := f1) (g := g1) (M := B + 165) (w := i) (x := (v' : Int)) (b := b) hm1 (by omega) (by omega) 64 0 rfl f1 Fr.rfl' (fun p hp => absurd hp (Nat.not_lt_zero p))
      have f1M : ∀ c, B + 141 ≤ c → c < nx σ → f1 c = f c := fun c h1 h3 => kf c h3 (by omega)
      have e41 : f1 (B + 165) 4 = (w : Int) := by rw [f1M _ (by omega) (by omega)]; exact e4
      have M0 : ∀ r, A_X12_make_21 σ1 f1 g1 (B + 165) (i : Int) (v' : Int) (b : Int) 0 r → Ex mt 3 302 (il σ1 f1 g1) [vR 12 (some (B + 165)), vI (i : Int), vI (v' : Int), vI (b : Int)] r := fun r A => bk_X12_make_0 hm1 (by
        rw [e41]
        exact ⟨⟨by omega, by omega⟩, fun k => absurd ⟨by omega, by omega⟩ k, fun _ => ⟨⟨by omega, by omega⟩, fun _ => A, fun k => absurd hc2 k⟩⟩)
      -- tables that stay
      have stay : ∀ f3 : FI, (∀ c, c < nx σ → f1 c = f c) → Fr (fun a _ => B + 165 + 49 ≤ a ∧ a ≤ B + 165 + 52) f1 f3 → ITb f3 B nn := fun f3 h3 F3 => h.fr (fun a h4 h5 => by
        funext k
        rw [F3 a k (by omega), h3 a (by omega)]) (fun a h4 h5 => by
        funext k
        rw [F3 a k (by omega), h3 a (by omega)])
      have frs : ∀ f3 : FI, Fr (fun a _ => (B + 165 + 18 ≤ a ∧ a ≤ B + 165 + 21) ∨ (B + 165 + 49 ≤ a ∧ a ≤ B + 165 + 52)) f1 f3 → Fr (fun a _ => nx σ ≤ a ∨ (B + 45 ≤ a ∧ a < B + 141) ∨ (B + 165 + 18 ≤ a ∧ a ≤ B + 165 + 21) ∨ (B + 165 + 49 ≤ a ∧ a ≤ B + 165 + 52)) f f3 := fun f3 F3 a k hk => by rw [F3 a k (by omega), kf a (by omega) (by omega)]
      rcases h2 with ⟨⟨p, p1, p2⟩, A2⟩ | ⟨hk2, K2⟩
      · -- several
        have hv3 : v = -3 ∧ ∀ c, c < nx σ → f1 c = f c := by
          rcases hv with ⟨a1, _, a3⟩ | ⟨O, hO, _⟩
          · exact ⟨a1, a3⟩
          · have := (hO p p1).1
            rw [many_cong (er p p1)] at this
            exact absurd this p2
        obtain ⟨rfl, hsame⟩ := hv3
        exact ⟨nn, σ1, -3, f1, f2, g1, C1, M0 _ A2, stay f2 hsame (fun a k hk => F2 a k (by omega)), e0, n0, s0, kg, frs f2 (fun a k hk => F2 a k (by omega))⟩
      · rcases hv with ⟨_, ⟨p, p1, p2⟩, _⟩ | ⟨O, hO, hv⟩
        · have := (hk2 p p1).1
          rw [← many_cong (er p p1)] at this
          exact absurd this p2
        · have eO : ∀ p : Nat, p < 64 → f2 (B + 165 + 49) p = O p := fun p hp => ((hk2 p hp).2).one ((hO p hp).2.cong (er p hp))
          have hOut : Outs (f2 (B + 165 + 49)) := fun p hp => (hk2 p hp).2.rg
          have eRg : ∀ (m s t : Int), Rgt (f2 (B + 165 + 49)) (b : Int) m s t ↔ Rgt O (b : Int) m s t := fun m s t => ⟨fun k => Rgt_cong eO k, fun k => Rgt_cong (fun p hp => (eO p hp).symm) k⟩
          have erun : ∀ e, run (f2 (B + 165 + 49)) (b : Int) e = run O (b : Int) e := fun e => run_cong eRg e
          obtain ⟨f3, F3, R3, K3⟩ := m_make92 (σ := σ1) (f := f2) (g := g1) (M := B + 165) (x := (v' : Int)) (b := (b : Int)) hm1 (by omega) hOut 499 0 rfl f2 Fr.rfl' (fun k hk => absurd hk (Nat.not_lt_zero k))
          rw [erun 500] at R3 K3
          have K92 : ∀ r, A_X12_make_84 σ1 f3 g1 (B + 165) (v' : Int) (b : Int) ((run O (b : Int) 500).2.1 : Int) (run O (b : Int) 500).1 (-1) r → Ex mt 3 302 (il σ1 f1 g1) [vR 12 (some (B + 165)), vI (i : Int), vI (v' : Int), vI (b : Int)] r := fun r A => M0 r (K2 r (bk_X12_make_84 hm1 ⟨fun k => absurd k (by decide), fun _ => K3 r A⟩))
          have F13 : Fr (fun a _ => B + 165 + 49 ≤ a ∧ a ≤ B + 165 + 52) f1 f3 := fun a k hk => by rw [F3 a k (by omega), F2 a k (by omega)]
          rcases hv with ⟨rfl, v2, v3⟩ | ⟨rfl, v2, v3, v4⟩
          · exact ⟨nn, σ1, -2, f1, f3, g1, C1, K92 _ (bk_X12_make_84 hm1 ⟨fun _ => ⟨fun k => absurd k (by omega), fun _ => rfl⟩, fun k => absurd (by decide) k⟩), stay f3 v3 F13, e0, n0, s0, kg, frs f3 (fun a k hk => F13 a k (by omega))⟩
          · obtain ⟨f4, A4, r4, r5, F4⟩ := m_make243 (σ := σ1) (f := f3) (g := g1) (M := B + 165) (t := 8 * v' + b) (n := (run O (b : Int) 500).2.1) hm1 ht v2 (run O (b : Int) 500).2.1 0 (by omega) f3 Fr.rfl' (fun j hj => absurd hj (Nat.not_lt_zero j))
            have hf4 : ∀ a k, (a < B + 165 + 18 ∨ B + 165 + 52 < a) → f4 a k = f1 a k := fun a k hk => by rw [F4 a k (by omega), F13 a k (by omega)]
            refine ⟨fun t => if t = 8 * v' + b then (run O (b : Int) 500).2.1 else nn t, σ1, _, f1, f4, g1, C1, K92 _ (bk_X12_make_84 hm1 ⟨fun _ => ⟨fun _ => ⟨⟨by omega, by omega⟩, ?_⟩, fun k => absurd (by omega) k⟩, fun k => absurd (by decide) k⟩), fun t htt => ?_, e0, n0, s0, kg, frs f4 (fun a k hk => by rw [F4 a k (by omega), F13 a k (by omega)])⟩
            · rw [show 8 * (v' : Int) + (b : Int) = ((8 * v' + b : Nat) : Int) by omega]
              exact A4
            · have k4 : ∀ c, c < B + 165 → f4 c = f1 c := fun c hc => by
                funext k
                exact hf4 c k (by omega)
              by_cases zt : t = 8 * v' + b
              · subst zt
                dsimp only
                rw [if_pos rfl]
                refine ⟨v3.of (by rw [k4 _ (by omega)]) (k4 _ (by omega)) (k4 _ (by omega)) (k4 _ (by omega)) (k4 _ (by omega)) (k4 _ (by omega)), r5, fun k hk => ?_⟩
                obtain ⟨a1, a2, a3⟩ := r4 k hk
                obtain ⟨b1, b2, b3⟩ := R3 k hk (by omega)
                obtain ⟨c1, c2, c3⟩ := v4 k hk
                rw [a1, a2, a3, b1, b2, b3, k4 _ (by omega), k4 _ (by omega), k4 _ (by omega)]
                exact ⟨c1.symm, c2.symm, c3.symm⟩
              · dsimp only
                rw [if_neg zt]
                obtain ⟨tc, tm⟩ := h t htt
                have n12 := tc.1.2
                have ta : tB B t + 6 ≤ B + 141 ∧ B + 45 ≤ tB B t ∧ (tB B t + 5 < tB B (8 * v' + b) ∨ tB B (8 * v' + b) + 5 < tB B t) := by unfold tB; omega
                have kk : ∀ c, tB B t ≤ c → c ≤ tB B t + 5 → f4 c = f c := fun c h3 h4 => by rw [k4 c (by omega)]; exact kf c (by omega) (by omega)
                refine ⟨tc.of (by rw [kk _ (by omega) (by omega)]) (kk _ (by omega) (by omega)) (kk _ (by omega) (by omega)) (kk _ (by omega) (by omega)) (kk _ (by omega) (by omega)) (kk _ (by omega) (by omega)), tm.of ?_ (fun k hk => ?_) (fun k hk => ?_)⟩
                · rw [F4 _ _ (by omega), F13 _ _ (by omega), f1M _ (by omega) (by omega)]
                · rw [F4 _ _ (by omega), F4 _ _ (by omega), F4 _ _ (by omega), F13 _ _ (by omega), F13 _ _ (by omega), F13 _ _ (by omega), f1M _ (by omega) (by omega), f1M _ (by omega) (by omega), f1M _ (by omega) (by omega)]
                  exact ⟨rfl, rfl, rfl⟩
                · rw [kk _ (by omega) (by omega), kk _ (by omega) (by omega), kk _ (by omega) (by omega)]
                  exact ⟨rfl, rfl, rfl⟩
    · exact ⟨nn, σ, -1, f, f, g, bk_X11_make_0 hs (Or.inr ⟨f, g, q i, x_wishAt1 hs hI hi, Or.inl ⟨f, g, x_tableAt0 hs.o9 hc2, rfl⟩⟩), bk_X12_make_0 hm (by
        rw [e4]
        exact ⟨⟨by omega, by omega⟩, fun k => absurd ⟨by omega, by omega⟩ k, fun _ => ⟨⟨ry, rz⟩, fun k => absurd k hc2, fun _ => rfl⟩⟩), h, Ext.rfl', by omega, by omega, fun _ _ => rfl, Fr.rfl'⟩
  · have M0 : Ex mt 3 302 (il σ f g) [vR 12 (some (B + 165)), vI x, vI y, vI z] (il σ f g, [vI (-1)]) := bk_X12_make_0 hm (by
      rw [e4]
      exact ⟨⟨by omega, rx⟩, fun _ => rfl, fun k => absurd (show 0 ≤ x ∧ x < w by omega) hc⟩)
    by_cases hc2 : (0 ≤ y ∧ y ≤ 1) ∧ (0 ≤ z ∧ z ≤ 7)
    · obtain ⟨v', rfl⟩ := Int.eq_ofNat_of_zero_le hc2.1.1
      obtain ⟨b, rfl⟩ := Int.eq_ofNat_of_zero_le hc2.2.1
      have T1 := x_tableAt1 (σ := σ) (f := f) (g := g) hs.o9 (show v' ≤ 1 by omega) (show b ≤ 7 by omega)
      exact ⟨nn, σ, -1, f, f, g, bk_X11_make_0 hs (Or.inl ⟨f, g, x_wishAt0 hs hI hc, Or.inr ⟨f, g, _, T1, rfl⟩⟩), M0, h, Ext.rfl', by omega, by omega, fun _ _ => rfl, Fr.rfl'⟩
    · exact ⟨nn, σ, -1, f, f, g, bk_X11_make_0 hs (Or.inl ⟨f, g, x_wishAt0 hs hI hc, Or.inl ⟨f, g, x_tableAt0 hs.o9 hc2, rfl⟩⟩), M0, h, Ext.rfl', by omega, by omega, fun _ _ => rfl, Fr.rfl'⟩
