/-! make: the covering and the new rows (class) -/
/-- rows of a table are those of the run -/
def RwC (f : FI) (d : Nat) (z : RS) : Prop := ∀ k, k < z.2.1 → f (d + 1) k = z.2.2.1 k ∧ f (d + 2) k = z.2.2.2.1 k ∧ f (d + 3) k = z.2.2.2.2 k
theorem x_coverAll {σ : St} {f : FI} {g : FL} {d w : Nat} {b : Int} (hs : Sh7 σ d) (hS : Stat σ f) (hl : Lo σ d) (hw : ln σ w = 64) (hwd : w < d ∨ d + 5 < w) (hO : Outs (f w)) (hT : TC f d 0) : ∃ (f' : FI) (v : Int), Ex mt 4 108 (il σ f g) [vR 7 (some d), vR 14 (some w), vI b] (il σ f' g, [vI v]) ∧ ((v = 1 ∧ (run (f w) b 500).2.1 ≤ 12 ∧ TC f' d (run (f w) b 500).2.1 ∧ RwC f' d (run (f w) b 500)) ∨ (v = 0 ∧ 13 ≤ (run (f w) b 500).2.1)) ∧ ∀ c, (c < d ∨ d + 5 < c) → f' c = f c := by
  -- behind a match
  have adv : ∀ e : Nat, e < 500 → ∀ (X : BitVec 64) (fi : FI) (r : St × List Vl), (e + 1 < 500 → A_X7_coverAll_16 σ fi g d w b X (((e + 1) / 125 : Nat) : Int) (((e + 1) % 125 : Nat) : Int) r) → (e + 1 = 500 → r = (il σ fi g, [vI 1])) → A_X7_coverAll_16 σ fi g d w b X ((e / 125 : Nat) : Int) (((e % 125 : Nat) : Int) + 1) r := fun e he X fi r h1 h2 => by
    by_cases z : e % 125 = 124
    · rw [z]
      refine bk_X7_coverAll_16 hs ⟨fun _ => ⟨by omega, ?_⟩, fun y => absurd (by decide) y⟩
      by_cases y : e + 1 = 500
      · obtain rfl := h2 y
        exact bk_X7_coverAll_7 hs ⟨fun _ => rfl, fun x => absurd (by omega) x⟩
      · have A := h1 (by omega)
        rw [show (e + 1) / 125 = e / 125 + 1 by omega, show (e + 1) % 125 = 0 by omega] at A
        exact bk_X7_coverAll_7 hs ⟨fun x => absurd x (by omega), fun _ => A⟩
    · have A := h1 (by omega)
      rw [show (e + 1) / 125 = e / 125 by omega, show (e + 1) % 125 = e % 125 + 1 by omega] at A
      exact A
  have loop : ∀ k e : Nat, e + k + 1 = 500 → ∀ fi : FI, (∀ c, (c < d ∨ d + 5 < c) → fi c = f c) → (run (f w) b e).2.1 ≤ 12 → TC fi d (run (f w) b e).2.1 → RwC fi d (run (f w) b e) → ∃ (f' : FI) (v : Int), A_X7_coverAll_16 σ fi g d w b (run (f w) b e).1 ((e / 125 : Nat) : Int) ((e % 125 : Nat) : Int) (il σ f' g, [vI v]) ∧ ((v = 1 ∧ (run (f w) b 500).2.1 ≤ 12 ∧ TC f' d (run (f w) b 500).2.1 ∧ RwC f' d (run (f w) b 500)) ∨ (v = 0 ∧ 13 ≤ (run (f w) b 500).2.1)) ∧ ∀ c, (c < d ∨ d + 5 < c) → f' c = f c := by
    intro k
    induction k with
    | zero => 
      intro e he fi hF h12 hT2 hR
      have nxt : ∀ fj : FI, (∀ c, (c < d ∨ d + 5 < c) → fj c = f c) → (run (f w) b (e + 1)).2.1 ≤ 12 → TC fj d (run (f w) b (e + 1)).2.1 → RwC fj d (run (f w) b (e + 1)) → ∃ (f' : FI) (v : Int), A_X7_coverAll_16 σ fj g d w b (run (f w) b (e + 1)).1 ((e / 125 : Nat) : Int) (((e % 125 : Nat) : Int) + 1) (il σ f' g, [vI v]) ∧ ((v = 1 ∧ (run (f w) b 500).2.1 ≤ 12 ∧ TC f' d (run (f w) b 500).2.1 ∧ RwC f' d (run (f w) b 500)) ∨ (v = 0 ∧ 13 ≤ (run (f w) b 500).2.1)) ∧ ∀ c, (c < d ∨ d + 5 < c) → f' c = f c := fun fj q1 q2 q3 q4 => by
        have e5 : e + 1 = 500 := by omega
        rw [e5] at q2 q3 q4 ⊢
        exact ⟨fj, 1, adv e (by omega) _ fj _ (fun z => absurd z (by omega)) (fun _ => rfl), Or.inl ⟨rfl, q2, q3, q4⟩, q1⟩
      have he5 : e < 500 := by omega
      have hm : (0 : Int) ≤ ((e % 125 : Nat) : Int) ∧ ((e % 125 : Nat) : Int) ≤ 124 := by omega
      have hSi : Stat σ fi := hS.of (hF _ (Or.inl hl.1)) (hF _ (Or.inl hl.2))
      have ew : fi w = f w := hF w hwd
      have E1 := x_howManyTold (σ := σ) (f := fi) (g := g) hm
      by_cases ht : tld ((e % 125 : Nat) : Int) = ((e / 125 : Nat) : Int)
      · obtain ⟨X, hX, E2⟩ := x_packetsOf (σ := σ) (f := fi) (g := g) hSi hm
        obtain rfl := cov_eq hX
        by_cases hc : (cov ((e % 125 : Nat) : Int) &&& (run (f w) b e).1) = 0#64
        · have hn : ¬ Sl (f w) b (run (f w) b e).1 e := fun z => z.2.1 hc
          have N := nxt fi hF
          rw [run_no hn] at N
          obtain ⟨f', v, A, r⟩ := N h12 hT2 hR
          exact ⟨f', v, bk_X7_coverAll_16 hs ⟨fun z => absurd z (by omega), fun _ => ⟨fi, g, _, E1, fun z => absurd ht z, fun _ => ⟨fi, g, _, E2, fun z => absurd hc z, fun _ => ⟨by omega, A⟩⟩⟩⟩, r⟩
        · obtain ⟨u, hu, E3⟩ := x_rightRow (σ := σ) (f := fi) (g := g) (w := w) (m := ((e % 125 : Nat) : Int)) (b := b) hSi hm hw (by rw [ew]; exact hO)
          rw [ew] at hu
          rcases hu with ⟨rfl, hno⟩ | ⟨s, tt, hrg, rfl⟩
          · have hn : ¬ Sl (f w) b (run (f w) b e).1 e := fun ⟨_, _, s, tt, z⟩ => hno s tt z
            have N := nxt fi hF
            rw [run_no hn] at N
            obtain ⟨f', v, A, r⟩ := N h12 hT2 hR
            exact ⟨f', v, bk_X7_coverAll_16 hs ⟨fun z => absurd z (by omega), fun _ => ⟨fi, g, _, E1, fun z => absurd ht z, fun _ => ⟨fi, g, _, E2, fun _ => ⟨fi, g, _, E3, fun _ => ⟨by omega, A⟩, fun z => absurd rfl z⟩, fun z => absurd z hc⟩⟩⟩, r⟩
          · have hy : Sl (f w) b (run (f w) b e).1 e := ⟨ht, hc, s, tt, hrg⟩
            have rr := hrg.rg
            obtain ⟨e1, e2⟩ := rST hrg
            have d1 : (16 * s + tt) / 16 = s := by omega
            have d2 : (16 * s + tt) % 16 = tt := by omega
            by_cases hfull : (run (f w) b e).2.1 = 12
            · have N13 : 13 ≤ (run (f w) b 500).2.1 := by
                have h1 := run_mono (O := f w) (b := b) (e + 1) (500 - (e + 1))
                rw [show e + 1 + (500 - (e + 1)) = 500 by omega, run_yes hy] at h1
                dsimp only at h1
                omega
              have E4 : Ex mt 2 96 (il σ fi g) [vR 7 (some d), vI ((e % 125 : Nat) : Int), vI ((16 * s + tt) / 16), vI ((16 * s + tt) % 16)] (il σ fi g, [vI (-1)]) := bk_X7_addRow_0 hs ⟨fun z => absurd z (by rw [hT2.1.1, hfull]; decide), fun _ => rfl⟩
              exact ⟨fi, 0, bk_X7_coverAll_16 hs ⟨fun z => absurd z (by omega), fun _ => ⟨fi, g, _, E1, fun z => absurd ht z, fun _ => ⟨fi, g, _, E2, fun _ => ⟨fi, g, _, E3, fun z => absurd z (by omega), fun _ => ⟨by omega, fi, g, _, E4, fun z => absurd rfl z, fun _ => rfl⟩⟩, fun z => absurd z hc⟩⟩⟩, Or.inr ⟨rfl, N13⟩, hF⟩
            · obtain ⟨f2, E4, T2, k1, k2, k3, k4⟩ := x_add (σ := σ) (f := fi) (g := g) (a := d) (n := (run (f w) b e).2.1) (m := ((e % 125 : Nat) : Int)) (s := s) (t := tt) hs hSi hl hT2 (by omega) hm rr.1 rr.2
              have N := nxt f2 (fun c hc2 => by rw [k4 c hc2]; exact hF c hc2)
              rw [run_yes hy] at N
              obtain ⟨f', v, A, r⟩ := N (by show (run (f w) b e).2.1 + 1 ≤ 12; omega) T2 (fun k hk => by
                show f2 (d + 1) k = (if k = (run (f w) b e).2.1 then ((e % 125 : Nat) : Int) else (run (f w) b e).2.2.1 k) ∧ f2 (d + 2) k = (if k = (run (f w) b e).2.1 then rS (f w) b ((e % 125 : Nat) : Int) else (run (f w) b e).2.2.2.1 k) ∧ f2 (d + 3) k = (if k = (run (f w) b e).2.1 then rT (f w) b ((e % 125 : Nat) : Int) else (run (f w) b e).2.2.2.2 k)
                have hk : k < (run (f w) b e).2.1 + 1 := hk
                rw [k1, k2, k3, e1, e2]
                by_cases z : k = (run (f w) b e).2.1
                · rw [if_pos z, if_pos z, if_pos z, if_pos z, if_pos z, if_pos z]
                  exact ⟨rfl, rfl, rfl⟩
                · rw [if_neg z, if_neg z, if_neg z, if_neg z, if_neg z, if_neg z]
                  exact hR k (by omega))
              refine ⟨f', v, bk_X7_coverAll_16 hs ⟨fun z => absurd z (by omega), fun _ => ⟨fi, g, _, E1, fun z => absurd ht z, fun _ => ⟨fi, g, _, E2, fun _ => ⟨fi, g, _, E3, fun z => absurd z (by omega), fun _ => ⟨by omega, f2, g, _, by rw [d1, d2]; exact E4, fun _ => ⟨by omega, ?_⟩, fun z => absurd z (by omega)⟩⟩, fun z => absurd z hc⟩⟩⟩, r⟩
              rw [xcov]
              exact A
      · have hn : ¬ Sl (f w) b (run (f w) b e).1 e := fun z => ht z.1
        have N := nxt fi hF
        rw [run_no hn] at N
        obtain ⟨f', v, A, r⟩ := N h12 hT2 hR
        exact ⟨f', v, bk_X7_coverAll_16 hs ⟨fun z => absurd z (by omega), fun _ => ⟨fi, g, _, E1, fun _ => ⟨fun z => absurd rfl z, fun _ => ⟨by omega, A⟩⟩, fun z => absurd z ht⟩⟩, r⟩
    | succ k ih =>
      intro e he fi hF h12 hT2 hR
      have nxt : ∀ fj : FI, (∀ c, (c < d ∨ d + 5 < c) → fj c = f c) → (run (f w) b (e + 1)).2.1 ≤ 12 → TC fj d (run (f w) b (e + 1)).2.1 → RwC fj d (run (f w) b (e + 1)) → ∃ (f' : FI) (v : Int), A_X7_coverAll_16 σ fj g d w b (run (f w) b (e + 1)).1 ((e / 125 : Nat) : Int) (((e % 125 : Nat) : Int) + 1) (il σ f' g, [vI v]) ∧ ((v = 1 ∧ (run (f w) b 500).2.1 ≤ 12 ∧ TC f' d (run (f w) b 500).2.1 ∧ RwC f' d (run (f w) b 500)) ∨ (v = 0 ∧ 13 ≤ (run (f w) b 500).2.1)) ∧ ∀ c, (c < d ∨ d + 5 < c) → f' c = f c := fun fj q1 q2 q3 q4 => by
        obtain ⟨f', v, A, r⟩ := ih (e + 1) (by omega) fj q1 q2 q3 q4
        exact ⟨f', v, adv e (by omega) _ fj _ (fun _ => A) (fun z => absurd z (by omega)), r⟩
      have he5 : e < 500 := by omega
      clear ih
      have hm : (0 : Int) ≤ ((e % 125 : Nat) : Int) ∧ ((e % 125 : Nat) : Int) ≤ 124 := by omega
      have hSi : Stat σ fi := hS.of (hF _ (Or.inl hl.1)) (hF _ (Or.inl hl.2))
      have ew : fi w = f w := hF w hwd
      have E1 := x_howManyTold (σ := σ) (f := fi) (g := g) hm
      by_cases ht : tld ((e % 125 : Nat) : Int) = ((e / 125 : Nat) : Int)
      · obtain ⟨X, hX, E2⟩ := x_packetsOf (σ := σ) (f := fi) (g := g) hSi hm
        obtain rfl := cov_eq hX
        by_cases hc : (cov ((e % 125 : Nat) : Int) &&& (run (f w) b e).1) = 0#64
        · have hn : ¬ Sl (f w) b (run (f w) b e).1 e := fun z => z.2.1 hc
          have N := nxt fi hF
          rw [run_no hn] at N
          obtain ⟨f', v, A, r⟩ := N h12 hT2 hR
          exact ⟨f', v, bk_X7_coverAll_16 hs ⟨fun z => absurd z (by omega), fun _ => ⟨fi, g, _, E1, fun z => absurd ht z, fun _ => ⟨fi, g, _, E2, fun z => absurd hc z, fun _ => ⟨by omega, A⟩⟩⟩⟩, r⟩
        · obtain ⟨u, hu, E3⟩ := x_rightRow (σ := σ) (f := fi) (g := g) (w := w) (m := ((e % 125 : Nat) : Int)) (b := b) hSi hm hw (by rw [ew]; exact hO)
          rw [ew] at hu
          rcases hu with ⟨rfl, hno⟩ | ⟨s, tt, hrg, rfl⟩
          · have hn : ¬ Sl (f w) b (run (f w) b e).1 e := fun ⟨_, _, s, tt, z⟩ => hno s tt z
            have N := nxt fi hF
            rw [run_no hn] at N
            obtain ⟨f', v, A, r⟩ := N h12 hT2 hR
            exact ⟨f', v, bk_X7_coverAll_16 hs ⟨fun z => absurd z (by omega), fun _ => ⟨fi, g, _, E1, fun z => absurd ht z, fun _ => ⟨fi, g, _, E2, fun _ => ⟨fi, g, _, E3, fun _ => ⟨by omega, A⟩, fun z => absurd rfl z⟩, fun z => absurd z hc⟩⟩⟩, r⟩
          · have hy : Sl (f w) b (run (f w) b e).1 e := ⟨ht, hc, s, tt, hrg⟩
            have rr := hrg.rg
            obtain ⟨e1, e2⟩ := rST hrg
            have d1 : (16 * s + tt) / 16 = s := by omega
            have d2 : (16 * s + tt) % 16 = tt := by omega
            by_cases hfull : (run (f w) b e).2.1 = 12
            · have N13 : 13 ≤ (run (f w) b 500).2.1 := by
                have h1 := run_mono (O := f w) (b := b) (e + 1) (500 - (e + 1))
                rw [show e + 1 + (500 - (e + 1)) = 500 by omega, run_yes hy] at h1
                dsimp only at h1
                omega
              have E4 : Ex mt 2 96 (il σ fi g) [vR 7 (some d), vI ((e % 125 : Nat) : Int), vI ((16 * s + tt) / 16), vI ((16 * s + tt) % 16)] (il σ fi g, [vI (-1)]) := bk_X7_addRow_0 hs ⟨fun z => absurd z (by rw [hT2.1.1, hfull]; decide), fun _ => rfl⟩
              exact ⟨fi, 0, bk_X7_coverAll_16 hs ⟨fun z => absurd z (by omega), fun _ => ⟨fi, g, _, E1, fun z => absurd ht z, fun _ => ⟨fi, g, _, E2, fun _ => ⟨fi, g, _, E3, fun z => absurd z (by omega), fun _ => ⟨by omega, fi, g, _, E4, fun z => absurd rfl z, fun _ => rfl⟩⟩, fun z => absurd z hc⟩⟩⟩, Or.inr ⟨rfl, N13⟩, hF⟩
            · obtain ⟨f2, E4, T2, k1, k2, k3, k4⟩ := x_add (σ := σ) (f := fi) (g := g) (a := d) (n := (run (f w) b e).2.1) (m := ((e % 125 : Nat) : Int)) (s := s) (t := tt) hs hSi hl hT2 (by omega) hm rr.1 rr.2
              have N := nxt f2 (fun c hc2 => by rw [k4 c hc2]; exact hF c hc2)
              rw [run_yes hy] at N
              obtain ⟨f', v, A, r⟩ := N (by show (run (f w) b e).2.1 + 1 ≤ 12; omega) T2 (fun k hk => by
                show f2 (d + 1) k = (if k = (run (f w) b e).2.1 then ((e % 125 : Nat) : Int) else (run (f w) b e).2.2.1 k) ∧ f2 (d + 2) k = (if k = (run (f w) b e).2.1 then rS (f w) b ((e % 125 : Nat) : Int) else (run (f w) b e).2.2.2.1 k) ∧ f2 (d + 3) k = (if k = (run (f w) b e).2.1 then rT (f w) b ((e % 125 : Nat) : Int) else (run (f w) b e).2.2.2.2 k)
                have hk : k < (run (f w) b e).2.1 + 1 := hk
                rw [k1, k2, k3, e1, e2]
                by_cases z : k = (run (f w) b e).2.1
                · rw [if_pos z, if_pos z, if_pos z, if_pos z, if_pos z, if_pos z]
                  exact ⟨rfl, rfl, rfl⟩
                · rw [if_neg z, if_neg z, if_neg z, if_neg z, if_neg z, if_neg z]
                  exact hR k (by omega))
              refine ⟨f', v, bk_X7_coverAll_16 hs ⟨fun z => absurd z (by omega), fun _ => ⟨fi, g, _, E1, fun z => absurd ht z, fun _ => ⟨fi, g, _, E2, fun _ => ⟨fi, g, _, E3, fun z => absurd z (by omega), fun _ => ⟨by omega, f2, g, _, by rw [d1, d2]; exact E4, fun _ => ⟨by omega, ?_⟩, fun z => absurd z (by omega)⟩⟩, fun z => absurd z hc⟩⟩⟩, r⟩
              rw [xcov]
              exact A
      · have hn : ¬ Sl (f w) b (run (f w) b e).1 e := fun z => ht z.1
        have N := nxt fi hF
        rw [run_no hn] at N
        obtain ⟨f', v, A, r⟩ := N h12 hT2 hR
        exact ⟨f', v, bk_X7_coverAll_16 hs ⟨fun z => absurd z (by omega), fun _ => ⟨fi, g, _, E1, fun _ => ⟨fun z => absurd rfl z, fun _ => ⟨by omega, A⟩⟩, fun z => absurd z ht⟩⟩, r⟩
  obtain ⟨f', v, A, r⟩ := loop 499 0 (by omega) f (fun _ _ => rfl) (show 0 ≤ 12 by omega) hT (fun k hk => absurd hk (Nat.not_lt_zero k))
  exact ⟨f', v, bk_X7_coverAll_0 hs (bk_X7_coverAll_7 hs ⟨fun x => absurd x (by decide), fun _ => A⟩), r⟩
