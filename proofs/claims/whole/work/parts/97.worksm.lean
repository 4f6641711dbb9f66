/-! the model works a tree off -/
theorem m_works {σ : St} {f : FI} {g : FL} {M w N : Nat} {K L R : FN} (hm : Sh12 σ M) (hw12 : w < 12) (hN : N ≤ 200) (h5 : f (M + 5) w = (N : Int)) (hH : ∀ i, i < N → f (M + 2) (300 * w + i) = swp (K i) ∧ f (M + 3) (300 * w + i) = L i ∧ f (M + 4) (300 * w + i) = R i) (hw : Wf K L R N) (hp : Pf K L R N) (hN1 : (ev K L R N).1 = 1) : ∃ g' : FL, Ex mt 2 223 (il σ f g) [vR 12 (some M), vI (w : Int)] (il σ f g', []) ∧ (∀ b, b ≠ M + 9 → b ≠ M + 10 → b ≠ M + 11 → g' b = g b) ∧ (∀ k, (k < 4096 * w ∨ 4096 * w + 4096 ≤ k) → g' (M + 10) k = g (M + 10) k) ∧ Is (fun i => g' (M + 10) (4096 * w + i)) ((ev K L R N).2 0) := by
  have ew : ((w : Int)).toNat = w := rfl
  have last : ∀ (gj : FL), (∀ b, b ≠ M + 9 → b ≠ M + 11 → gj b = g b) → ∀ u i : Nat, i + u = 4096 → ∀ gi : FL, (∀ b, b ≠ M + 10 → gi b = gj b) → (∀ k, gi (M + 10) k = if 4096 * w ≤ k ∧ k < 4096 * w + i then gj (M + 9) (k - 4096 * w) else gj (M + 10) k) → ∃ g' : FL, A_X12_works_173 σ f gi M (w : Int) (i : Int) (il σ f g', []) ∧ (∀ b, b ≠ M + 10 → g' b = gj b) ∧ ∀ k, g' (M + 10) k = if 4096 * w ≤ k ∧ k < 4096 * w + 4096 then gj (M + 9) (k - 4096 * w) else gj (M + 10) k := by
    intro gj hG u
    induction u with
    | zero =>
      intro i hi gi hF hI
      obtain rfl : i = 4096 := hi
      exact ⟨gi, bk_X12_works_173 hm ⟨fun _ => rfl, fun y => absurd (by decide) y⟩, hF, hI⟩
    | succ u ih =>
      intro i hi gi hF hI
      obtain ⟨g', A, G1, G2⟩ := ih (i + 1) (by omega) (up2 gi (M + 10) (4096 * w + i) (gi (M + 9) i)) (fun b hb => by
        rw [← hF b hb]
        exact funext fun j => u2_a hb) (fun k => by
        rw [up2_if, hI, hF (M + 9) (by omega)]
        by_cases e : k = 4096 * w + i
        · rw [if_pos e, if_pos (by omega), show k - 4096 * w = i by omega]
        · rw [if_neg e]
          by_cases e2 : 4096 * w ≤ k ∧ k < 4096 * w + i
          · rw [if_pos e2, if_pos (by omega)]
          · rw [if_neg e2, if_neg (by omega)])
      refine ⟨g', bk_X12_works_173 hm ⟨fun y => absurd y (by omega), fun _ => ?_⟩, G1, G2⟩
      rw [show (4096 * (w : Int) + (i : Int)).toNat = 4096 * w + i by omega, show ((i : Int)).toNat = i from rfl, show (i : Int) + 1 = ((i + 1 : Nat) : Int) by omega]
      exact ⟨⟨by omega, by omega, by omega, by omega, by omega⟩, A⟩
  have loop : ∀ u i : Nat, i + u = N → ∀ gi : FL, (∀ b, b ≠ M + 9 → b ≠ M + 11 → gi b = g b) → (ev K L R i).1 ≤ 20 → (∀ j, j < (ev K L R i).1 → Is (mw gi M j) ((ev K L R i).2 j)) → ∃ g1 : FL, (∀ b, b ≠ M + 9 → b ≠ M + 11 → g1 b = g b) ∧ (∀ j, j < (ev K L R N).1 → Is (mw g1 M j) ((ev K L R N).2 j)) ∧ ∀ r, A_X12_works_4 σ f g1 M (w : Int) ((ev K L R N).1 : Int) (N : Int) r → A_X12_works_4 σ f gi M (w : Int) ((ev K L R i).1 : Int) (i : Int) r := by
    intro u
    induction u with
    | zero =>
      intro i hi gi hF _ hI
      obtain rfl : i = N := hi
      exact ⟨gi, hF, hI, fun r A => A⟩
    | succ u ih =>
      intro i hi gi hF h20 hI
      have hiN : i < N := by omega
      obtain ⟨kk, kl, kr⟩ := hH i hiN
      have ei : (300 * (w : Int) + (i : Int)).toNat = 300 * w + i := by omega
      have e1 : (i : Int) + 1 = ((i + 1 : Nat) : Int) := by omega
      obtain ⟨p1, p2, p3⟩ := hp i hiN
      have s67 := swp_67 (k := K i)
      have go : ∀ (g1 : FL) (d : Nat), (ev K L R (i + 1)).1 = d → d ≤ 20 → (∀ b, b ≠ M + 9 → b ≠ M + 11 → g1 b = g b) → (∀ j, j < d → Is (mw g1 M j) ((ev K L R (i + 1)).2 j)) → (∀ r, A_X12_works_4 σ f g1 M (w : Int) (d : Int) ((i + 1 : Nat) : Int) r → A_X12_works_4 σ f gi M (w : Int) ((ev K L R i).1 : Int) (i : Int) r) → ∃ g1 : FL, (∀ b, b ≠ M + 9 → b ≠ M + 11 → g1 b = g b) ∧ (∀ j, j < (ev K L R N).1 → Is (mw g1 M j) ((ev K L R N).2 j)) ∧ ∀ r, A_X12_works_4 σ f g1 M (w : Int) ((ev K L R N).1 : Int) (N : Int) r → A_X12_works_4 σ f gi M (w : Int) ((ev K L R i).1 : Int) (i : Int) r := fun g1 d hd hd20 hg hI1 hK => by
        obtain ⟨g2, G1, G2, G3⟩ := ih (i + 1) (by omega) g1 hg (by omega) (fun j hj => hI1 j (by omega))
        rw [hd] at G3
        exact ⟨g2, G1, G2, fun r A => hK r (G3 r A)⟩
      by_cases k5 : K i = 5
      · obtain ⟨s1, _, _⟩ := p2 k5
        obtain ⟨v, hv⟩ : ∃ v, (ev K L R i).1 = v + 1 := ⟨(ev K L R i).1 - 1, by omega⟩
        have sw : swp (K i) = 5 := by
          unfold swp
          rw [if_neg (by omega), if_neg (by omega)]
          exact k5
        have e5 := ev_5 (L := L) (R := R) k5
        obtain ⟨g1, E, F1, B1⟩ := m_closes (σ := σ) (f := f) (g := gi) (M := M) (n := v) hm (by omega)
        refine go g1 (v + 1) (by rw [e5]; exact hv) (by omega) (fun b h1 h2 => (F1.1 b h1 h2).trans (hF b h1 h2)) (fun j hj => ?_) (fun r A => bk_X12_works_4 hm ?_)
        · rw [e5]
          show Is _ (if j + 1 = (ev K L R i).1 then _ else _)
          by_cases e : j + 1 = (ev K L R i).1
          · rw [if_pos e]
            obtain rfl : j = v := by omega
            intro p q hp' hq'
            rw [B1 p q hp' hq']
            exact Clr.cg (hI j (by omega))
          · rw [if_neg e]
            exact (hI j (by omega)).cg (F1.oth (by omega))
        · rw [ew, h5, ei, kk, sw, hv, e1, show ((v + 1 : Nat) : Int) - 1 = (v : Int) by omega]
          exact ⟨by omega, fun y => absurd y (by omega), fun _ => ⟨⟨by omega, by omega, by omega⟩, fun y => absurd rfl y, fun _ => ⟨by omega, f, g1, E, by omega, A⟩⟩⟩
      · have n5 : ¬ swp (K i) = 5 := by
          unfold swp
          split
          · omega
          · split
            · omega
            · exact k5
        by_cases k7 : K i = 7
        · obtain ⟨v, hv⟩ : ∃ v, (ev K L R i).1 = v + 2 := ⟨(ev K L R i).1 - 2, by have := p3 (Or.inr k7); omega⟩
          have sw : swp (K i) = 6 := s67.1.mpr k7
          have e7 := ev_7 (L := L) (R := R) k7
          obtain ⟨g1, F1, B1, K1⟩ := m_unite (σ := σ) (f := f) (g := gi) (M := M) (n := v) (w := (w : Int)) (x3 := (i : Int)) hm (by omega) (by omega)
          refine go g1 (v + 1) (by rw [e7]; show (ev K L R i).1 - 1 = _; omega) (by omega) (fun b h1 h2 => (F1.1 b h1 h2).trans (hF b h1 h2)) (fun j hj => ?_) (fun r A => bk_X12_works_4 hm ?_)
          · rw [e7]
            show Is _ (if j + 2 = (ev K L R i).1 then _ else _)
            by_cases e : j + 2 = (ev K L R i).1
            · rw [if_pos e]
              obtain rfl : j = v := by omega
              intro p q hp' hq'
              rw [B1 p q hp' hq']
              exact or_congr (hI j (by omega) p q hp' hq') (hI (j + 1) (by omega) p q hp' hq')
            · rw [if_neg e]
              exact (hI j (by omega)).cg (F1.oth (by omega))
          · rw [ew, h5, ei, kk, sw, hv, show ((v + 2 : Nat) : Int) + -1 = ((v + 1 : Nat) : Int) by omega]
            rw [e1] at K1
            exact ⟨by omega, fun y => absurd y (by omega), fun _ => ⟨⟨by omega, by omega, by omega⟩, fun _ => ⟨by omega, fun y => absurd rfl y, fun _ => ⟨by omega, K1 r A⟩⟩, fun y => absurd y (by decide)⟩⟩
        · have n6 : ¬ swp (K i) = 6 := fun y => k7 (s67.1.mp y)
          by_cases k6 : K i = 6
          · obtain ⟨v, hv⟩ : ∃ v, (ev K L R i).1 = v + 2 := ⟨(ev K L R i).1 - 2, by have := p3 (Or.inl k6); omega⟩
            have sw : swp (K i) = 7 := s67.2.mpr k6
            have e6 := ev_6 (L := L) (R := R) k6
            obtain ⟨g1, E, F1, B1⟩ := m_follows (σ := σ) (f := f) (g := gi) (M := M) (n := v) hm (by omega)
            refine go g1 (v + 1) (by rw [e6]; show (ev K L R i).1 - 1 = _; omega) (by omega) (fun b h1 h2 => (F1.1 b h1 h2).trans (hF b h1 h2)) (fun j hj => ?_) (fun r A => bk_X12_works_4 hm ?_)
            · rw [e6]
              show Is _ (if j + 2 = (ev K L R i).1 then _ else _)
              by_cases e : j + 2 = (ev K L R i).1
              · rw [if_pos e]
                obtain rfl : j = v := by omega
                intro p q hp' hq'
                rw [B1 p q hp' hq']
                constructor
                · rintro ⟨m, m1, m2, m3⟩
                  exact ⟨m, m1, (hI j (by omega) p m hp' m1).mp m2, (hI (j + 1) (by omega) m q m1 hq').mp m3⟩
                · rintro ⟨m, m1, m2, m3⟩
                  exact ⟨m, m1, (hI j (by omega) p m hp' m1).mpr m2, (hI (j + 1) (by omega) m q m1 hq').mpr m3⟩
              · rw [if_neg e]
                exact (hI j (by omega)).cg (F1.oth (by omega))
            · rw [ew, h5, ei, kk, sw, hv, e1, show ((v + 2 : Nat) : Int) + -1 = ((v + 1 : Nat) : Int) by omega, show ((v + 1 : Nat) : Int) - 1 = (v : Int) by omega]
              exact ⟨by omega, fun y => absurd y (by omega), fun _ => ⟨⟨by omega, by omega, by omega⟩, fun _ => ⟨by omega, fun _ => ⟨by omega, fun y => absurd rfl y, fun _ => ⟨⟨by omega, by omega⟩, f, g1, E, by omega, A⟩⟩, fun y => absurd y (by decide)⟩, fun y => absurd y (by decide)⟩⟩
          · have n7 : ¬ swp (K i) = 7 := fun y => k6 (s67.2.mp y)
            have sw : swp (K i) = K i := by
              unfold swp
              rw [if_neg k6, if_neg k7]
            have wn := hw i hiN
            unfold Wf1 at wn
            have ka : 0 ≤ K i ∧ K i ≤ 4 := by omega
            have la : (0 ≤ L i ∧ L i < 4) ∧ (0 ≤ R i ∧ R i < 8) ∧ (L i = 3 ∨ R i < 4) := by omega
            have s20 := p1 ka.2
            have ea := ev_a (L := L) (R := R) ka.2
            obtain ⟨v, hv⟩ : ∃ v, (ev K L R i).1 = v := ⟨_, rfl⟩
            obtain ⟨g1, E, F1, B1⟩ := m_leaf (σ := σ) (f := f) (g := gi) (M := M) (n := v) (k := K i) (fl := L i) (v := R i) hm (by omega) ka la.1 la.2.1 la.2.2
            refine go g1 (v + 1) (by rw [ea]; show (ev K L R i).1 + 1 = _; omega) (by omega) (fun b h1 h2 => (F1.1 b h1 h2).trans (hF b h1 h2)) (fun j hj => ?_) (fun r A => bk_X12_works_4 hm ?_)
            · rw [ea]
              show Is _ (if j = (ev K L R i).1 then _ else _)
              by_cases e : j = (ev K L R i).1
              · rw [if_pos e, e, hv]
                exact B1
              · rw [if_neg e]
                exact (hI j (by omega)).cg (F1.oth (by omega))
            · rw [sw] at n5 n6 n7
              rw [ew, h5, ei, kk, kl, kr, sw, hv, e1, show (v : Int) + 1 = ((v + 1 : Nat) : Int) by omega]
              exact ⟨by omega, fun y => absurd y (by omega), fun _ => ⟨⟨by omega, by omega, by omega⟩, fun _ => ⟨by omega, fun _ => ⟨by omega, fun _ => ⟨by omega, f, g1, E, by omega, by omega, A⟩, fun y => absurd y n7⟩, fun y => absurd y n6⟩, fun y => absurd y n5⟩⟩
  obtain ⟨g1, G1, G2, G3⟩ := loop N 0 (by omega) g (fun _ _ _ => rfl) (Nat.zero_le _) (fun j hj => absurd hj (Nat.not_lt_zero j))
  obtain ⟨g2, A, H1, H2⟩ := last g1 G1 4096 0 rfl g1 (fun _ _ => rfl) (fun k => by rw [if_neg (by omega)])
  refine ⟨g2, bk_X12_works_0 hm (G3 _ (bk_X12_works_4 hm ⟨by omega, fun _ => A, fun y => absurd (by rw [ew, h5]; omega) y⟩)), fun b h1 h2 h3 => by rw [H1 b h2]; exact G1 b h1 h3, fun k hk => by rw [H2, if_neg (by omega)]; exact congrFun (G1 (M + 10) (by omega) (by omega)) k, ?_⟩
  refine (G2 0 (by omega)).cg (fun i hi => ?_)
  show g2 (M + 10) (4096 * w + i) = mw g1 M 0 i
  rw [H2, if_pos (by omega)]
  unfold mw
  rw [show 4096 * w + i - 4096 * w = 4096 * 0 + i by omega]
