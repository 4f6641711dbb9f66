/-! make: the model, and the call pair -/
theorem up3_at {f : FI} {a b c i : Nat} {x y z : Int} (h1 : a ≠ b) (h2 : a ≠ c) (h3 : b ≠ c) : up2 (up2 (up2 f a i x) b i y) c i z a i = x ∧ up2 (up2 (up2 f a i x) b i y) c i z b i = y ∧ up2 (up2 (up2 f a i x) b i y) c i z c i = z :=
  ⟨(u2_a h2).trans ((u2_a h1).trans u2_s), (u2_a h3).trans u2_s, u2_s⟩
theorem up3_ne {f : FI} {a b c i j : Nat} {x y z : Int} (h1 : a ≠ b) (h2 : a ≠ c) (h3 : b ≠ c) (h : j ≠ i) : up2 (up2 (up2 f a i x) b i y) c i z a j = f a j ∧ up2 (up2 (up2 f a i x) b i y) c i z b j = f b j ∧ up2 (up2 (up2 f a i x) b i y) c i z c j = f c j :=
  ⟨(u2_a h2).trans ((u2_a h1).trans (u2_i h)), (u2_a h3).trans ((u2_i h).trans (u2_a h1.symm)), (u2_i h).trans ((u2_a h3.symm).trans (u2_a h2.symm))⟩
/-- rows that the model has gathered -/
def RwM (f : FI) (M : Nat) (z : RS) : Prop := ∀ k, k < z.2.1 → k < 12 → f (M + 50) k = z.2.2.1 k ∧ f (M + 51) k = z.2.2.2.1 k ∧ f (M + 52) k = z.2.2.2.2 k
theorem m_make243 {σ : St} {f : FI} {g : FL} {M t n : Nat} (hm : Sh12 σ M) (ht : t < 16) (hn : n ≤ 12) : ∀ k i : Nat, i + k = n → ∀ fi : FI, Fr (fun a j => (M + 18 ≤ a ∧ a ≤ M + 20) ∧ 12 * t ≤ j ∧ j < 12 * t + 12) f fi → (∀ j, j < i → fi (M + 18) (12 * t + j) = f (M + 50) j ∧ fi (M + 19) (12 * t + j) = f (M + 51) j ∧ fi (M + 20) (12 * t + j) = f (M + 52) j) → ∃ f' : FI, A_X12_make_243 σ fi g M (n : Int) (t : Int) (i : Int) (il σ f' g, [vI (n : Int)]) ∧ (∀ j, j < n → f' (M + 18) (12 * t + j) = f (M + 50) j ∧ f' (M + 19) (12 * t + j) = f (M + 51) j ∧ f' (M + 20) (12 * t + j) = f (M + 52) j) ∧ f' (M + 21) t = (n : Int) ∧ Fr (fun a j => ((M + 18 ≤ a ∧ a ≤ M + 20) ∧ 12 * t ≤ j ∧ j < 12 * t + 12) ∨ (a = M + 21 ∧ j = t)) f f' := by
  intro k
  induction k with
  | zero =>
    intro i hi fi hF hj
    obtain rfl : i = n := by omega
    refine ⟨up2 fi (M + 21) t (i : Int), bk_X12_make_243 hm ⟨fun _ => ⟨by omega, rfl⟩, fun z => absurd (by omega) z⟩, fun j hj2 => ?_, u2_s, fun a j hk => ?_⟩
    · rw [u2_a (by omega), u2_a (by omega), u2_a (by omega)]
      exact hj j hj2
    · unfold up2
      rw [if_neg (fun z => hk (Or.inr z)), hF a j (fun z => hk (Or.inl z))]
  | succ k ih =>
    intro i hi fi hF hj
    have e12 : (12 * (t : Int) + (i : Int)).toNat = 12 * t + i := by omega
    obtain ⟨f', A, r⟩ := ih (i + 1) (by omega) (up2 (up2 (up2 fi (M + 18) (12 * t + i) (fi (M + 50) i)) (M + 19) (12 * t + i) (fi (M + 51) i)) (M + 20) (12 * t + i) (fi (M + 52) i)) (((hF.up ⟨by omega, by omega, by omega⟩).up ⟨by omega, by omega, by omega⟩).up ⟨by omega, by omega, by omega⟩) (fun j hj2 => by
      by_cases z : j = i
      · subst z
        obtain ⟨a1, a2, a3⟩ := up3_at (f := fi) (a := M + 18) (b := M + 19) (c := M + 20) (i := 12 * t + j) (x := fi (M + 50) j) (y := fi (M + 51) j) (z := fi (M + 52) j) (by omega) (by omega) (by omega)
        rw [a1, a2, a3, hF _ _ (by omega), hF _ _ (by omega), hF _ _ (by omega)]
        exact ⟨rfl, rfl, rfl⟩
      · obtain ⟨a1, a2, a3⟩ := up3_ne (f := fi) (a := M + 18) (b := M + 19) (c := M + 20) (i := 12 * t + i) (j := 12 * t + j) (x := fi (M + 50) i) (y := fi (M + 51) i) (z := fi (M + 52) i) (by omega) (by omega) (by omega) (by omega)
        rw [a1, a2, a3]
        exact hj j (by omega))
    refine ⟨f', bk_X12_make_243 hm ⟨fun z => absurd z (by omega), fun _ => ⟨⟨by omega, by omega, by omega, by omega, by omega⟩, ?_⟩⟩, r⟩
    rw [e12]
    exact A
theorem m_make92 {σ : St} {f : FI} {g : FL} {M : Nat} {x b : Int} (hm : Sh12 σ M) (hb : 0 ≤ b ∧ b < 8) (hO : Outs (f (M + 49))) : ∀ k e : Nat, e + k + 1 = 500 → ∀ fi : FI, Fr (fun a _ => M + 50 ≤ a ∧ a ≤ M + 52) f fi → RwM fi M (run (f (M + 49)) b e) → ∃ f' : FI, Fr (fun a _ => M + 50 ≤ a ∧ a ≤ M + 52) f f' ∧ RwM f' M (run (f (M + 49)) b 500) ∧ ∀ r, A_X12_make_84 σ f' g M x b ((run (f (M + 49)) b 500).2.1 : Int) (run (f (M + 49)) b 500).1 (-1) r → A_X12_make_92 σ fi g M x b ((run (f (M + 49)) b e).2.1 : Int) (run (f (M + 49)) b e).1 (3 - ((e / 125 : Nat) : Int)) ((e % 125 : Nat) : Int) r := by
  have adv : ∀ e : Nat, e < 500 → ∀ (n : Int) (X : BitVec 64) (fi : FI) (r : St × List Vl), (e + 1 < 500 → A_X12_make_92 σ fi g M x b n X (3 - (((e + 1) / 125 : Nat) : Int)) (((e + 1) % 125 : Nat) : Int) r) → (e + 1 = 500 → A_X12_make_84 σ fi g M x b n X (-1) r) → A_X12_make_92 σ fi g M x b n X (3 - ((e / 125 : Nat) : Int)) (((e % 125 : Nat) : Int) + 1) r := fun e he n X fi r h1 h2 => by
    by_cases z : e % 125 = 124
    · rw [z]
      refine bk_X12_make_92 hm ⟨fun _ => ⟨by omega, ?_⟩, fun y => absurd (by decide) y⟩
      by_cases y : e + 1 = 500
      · have A := h2 y
        rw [show 3 - ((e / 125 : Nat) : Int) + (-1) = -1 by omega]
        exact A
      · have A := h1 (by omega)
        rw [show (e + 1) / 125 = e / 125 + 1 by omega, show (e + 1) % 125 = 0 by omega] at A
        refine bk_X12_make_84 hm ⟨fun w => absurd w (by omega), fun _ => ?_⟩
        rw [show 3 - ((e / 125 : Nat) : Int) + (-1) = 3 - ((e / 125 + 1 : Nat) : Int) by omega]
        exact A
    · have A := h1 (by omega)
      rw [show (e + 1) / 125 = e / 125 by omega, show (e + 1) % 125 = e % 125 + 1 by omega] at A
      exact A
  intro k
  induction k using Nat.strongRecOn with
  | ind k ih =>
    intro e he fi hF hR
    have he5 : e < 500 := by omega
    have hm0 : (0 : Int) ≤ ((e % 125 : Nat) : Int) ∧ ((e % 125 : Nat) : Int) ≤ 124 := by omega
    have len := run_len (O := f (M + 49)) (b := b) e
    -- at the next match
    have nxt : ∀ fj : FI, Fr (fun a _ => M + 50 ≤ a ∧ a ≤ M + 52) f fj → RwM fj M (run (f (M + 49)) b (e + 1)) → ∃ f' : FI, Fr (fun a _ => M + 50 ≤ a ∧ a ≤ M + 52) f f' ∧ RwM f' M (run (f (M + 49)) b 500) ∧ ∀ r, A_X12_make_84 σ f' g M x b ((run (f (M + 49)) b 500).2.1 : Int) (run (f (M + 49)) b 500).1 (-1) r → A_X12_make_92 σ fj g M x b ((run (f (M + 49)) b (e + 1)).2.1 : Int) (run (f (M + 49)) b (e + 1)).1 (3 - ((e / 125 : Nat) : Int)) (((e % 125 : Nat) : Int) + 1) r := fun fj q1 q2 => by
      by_cases e5 : e + 1 = 500
      · rw [e5] at q2 ⊢
        exact ⟨fj, q1, q2, fun r A => adv e he5 _ _ fj r (fun z => absurd z (by omega)) (fun _ => A)⟩
      · obtain ⟨f', r1, r2, K⟩ := ih (k - 1) (by omega) (e + 1) (by omega) fj q1 q2
        exact ⟨f', r1, r2, fun r A => adv e he5 _ _ fj r (fun _ => K r A) (fun z => absurd z e5)⟩
    by_cases hX : (run (f (M + 49)) b e).1 = 0#64
    · -- all packets have a row
      by_cases e3 : e / 125 = 3
      · have eo := run_out hX (500 - e)
        rw [show e + (500 - e) = 500 by omega] at eo
        rw [eo]
        refine ⟨fi, hF, hR, fun r A => bk_X12_make_92 hm ⟨fun z => absurd z (by omega), fun _ => ⟨fun _ => ⟨by omega, ?_⟩, fun z => absurd hX z⟩⟩⟩
        rw [e3]
        exact A
      · have eo := run_out hX (125 * (e / 125 + 1) - e)
        rw [show e + (125 * (e / 125 + 1) - e) = 125 * (e / 125 + 1) by omega] at eo
        obtain ⟨f', r1, r2, K⟩ := ih (499 - 125 * (e / 125 + 1)) (by omega) (125 * (e / 125 + 1)) (by omega) fi hF (by rw [eo]; exact hR)
        rw [eo] at K
        refine ⟨f', r1, r2, fun r A => bk_X12_make_92 hm ⟨fun z => absurd z (by omega), fun _ => ⟨fun _ => ⟨by omega, bk_X12_make_84 hm ⟨fun z => absurd z (by omega), fun _ => ?_⟩⟩, fun z => absurd hX z⟩⟩⟩
        have A2 := K r A
        rw [show 125 * (e / 125 + 1) / 125 = e / 125 + 1 by omega, show 125 * (e / 125 + 1) % 125 = 0 by omega] at A2
        rw [show 3 - ((e / 125 : Nat) : Int) + (-1) = 3 - ((e / 125 + 1 : Nat) : Int) by omega]
        exact A2
    · have E1 := x_anys (σ := σ) (f := fi) (g := g) hm0
      have e49 : fi (M + 49) = f (M + 49) := by
        funext j
        exact hF _ j (by omega)
      -- nothing becomes of this match
      have no : ¬ Sl (f (M + 49)) b (run (f (M + 49)) b e).1 e → ∃ f' : FI, Fr (fun a _ => M + 50 ≤ a ∧ a ≤ M + 52) f f' ∧ RwM f' M (run (f (M + 49)) b 500) ∧ ∀ r, A_X12_make_84 σ f' g M x b ((run (f (M + 49)) b 500).2.1 : Int) (run (f (M + 49)) b 500).1 (-1) r → ∀ c : BitVec 64, A_X12_make_148 σ fi g M x b ((run (f (M + 49)) b e).2.1 : Int) (run (f (M + 49)) b e).1 (3 - ((e / 125 : Nat) : Int)) ((e % 125 : Nat) : Int) c (-1) r := fun hn => by
        have N := nxt fi hF
        rw [run_no hn] at N
        obtain ⟨f', r1, r2, K⟩ := N hR
        exact ⟨f', r1, r2, fun r A c => bk_X12_make_148 hm ⟨fun _ => ⟨by omega, K r A⟩, fun z => absurd rfl z⟩⟩
      by_cases ht : tld ((e % 125 : Nat) : Int) = ((e / 125 : Nat) : Int)
      · obtain ⟨X, hX2, E2⟩ := x_coverOf (σ := σ) (f := fi) (g := g) hm0
        obtain rfl := cov_eq hX2
        by_cases hc : (cov ((e % 125 : Nat) : Int) &&& (run (f (M + 49)) b e).1) = 0#64
        · obtain ⟨f', r1, r2, K⟩ := no (fun z => z.2.1 hc)
          exact ⟨f', r1, r2, fun r A => bk_X12_make_92 hm ⟨fun z => absurd z (by omega), fun _ => ⟨fun z => absurd z hX, fun _ => ⟨fi, g, _, E1, fun z => absurd (by omega) z, fun _ => ⟨fi, g, _, E2, bk_X12_make_125 hm ⟨fun z => absurd hc z, fun _ => K r A _⟩⟩⟩⟩⟩⟩
        · obtain ⟨u, hu, E3⟩ := x_rightFor (σ := σ) (f := fi) (g := g) (M := M) (m := ((e % 125 : Nat) : Int)) (b := b) hm hm0 hb (by rw [e49]; exact hO)
          rw [e49] at hu
          rcases hu with ⟨rfl, hno⟩ | ⟨s, tt, hrg, rfl⟩
          · obtain ⟨f', r1, r2, K⟩ := no (fun ⟨_, _, s, tt, z⟩ => hno s tt z)
            exact ⟨f', r1, r2, fun r A => bk_X12_make_92 hm ⟨fun z => absurd z (by omega), fun _ => ⟨fun z => absurd z hX, fun _ => ⟨fi, g, _, E1, fun z => absurd (by omega) z, fun _ => ⟨fi, g, _, E2, bk_X12_make_125 hm ⟨fun _ => ⟨fi, g, _, E3, K r A _⟩, fun z => absurd z hc⟩⟩⟩⟩⟩⟩
          · have hy : Sl (f (M + 49)) b (run (f (M + 49)) b e).1 e := ⟨ht, hc, s, tt, hrg⟩
            have rr := hrg.rg
            obtain ⟨e1, e2⟩ := rST hrg
            have d1 : (10 * s + tt) / 10 = s := by omega
            have d2 : (10 * s + tt) % 10 = tt := by omega
            have go : ∀ r, A_X12_make_148 σ fi g M x b ((run (f (M + 49)) b e).2.1 : Int) (run (f (M + 49)) b e).1 (3 - ((e / 125 : Nat) : Int)) ((e % 125 : Nat) : Int) (cov ((e % 125 : Nat) : Int)) (10 * s + tt) r → A_X12_make_92 σ fi g M x b ((run (f (M + 49)) b e).2.1 : Int) (run (f (M + 49)) b e).1 (3 - ((e / 125 : Nat) : Int)) ((e % 125 : Nat) : Int) r := fun r A => bk_X12_make_92 hm ⟨fun z => absurd z (by omega), fun _ => ⟨fun z => absurd z hX, fun _ => ⟨fi, g, _, E1, fun z => absurd (by omega) z, fun _ => ⟨fi, g, _, E2, bk_X12_make_125 hm ⟨fun _ => ⟨fi, g, _, E3, A⟩, fun z => absurd z hc⟩⟩⟩⟩⟩
            by_cases hfull : 12 ≤ (run (f (M + 49)) b e).2.1
            · have N := nxt fi hF
              rw [run_yes hy] at N
              obtain ⟨f', r1, r2, K⟩ := N (fun k hk h12 => by
                show fi (M + 50) k = (if k = (run (f (M + 49)) b e).2.1 then _ else (run (f (M + 49)) b e).2.2.1 k) ∧ fi (M + 51) k = (if k = (run (f (M + 49)) b e).2.1 then _ else (run (f (M + 49)) b e).2.2.2.1 k) ∧ fi (M + 52) k = (if k = (run (f (M + 49)) b e).2.1 then _ else (run (f (M + 49)) b e).2.2.2.2 k)
                rw [if_neg (by omega), if_neg (by omega), if_neg (by omega)]
                exact hR k (by omega) h12)
              refine ⟨f', r1, r2, fun r A => go r (bk_X12_make_148 hm ⟨fun z => absurd z (by omega), fun _ => ⟨fun _ => ⟨by omega, by omega, ?_⟩, fun z => absurd (by omega) z⟩⟩)⟩
              have A2 := K r A
              dsimp only at A2
              rw [show (((run (f (M + 49)) b e).2.1 + 1 : Nat) : Int) = ((run (f (M + 49)) b e).2.1 : Int) + 1 by omega] at A2
              exact A2
            · have N := nxt (up2 (up2 (up2 fi (M + 50) (run (f (M + 49)) b e).2.1 ((e % 125 : Nat) : Int)) (M + 51) (run (f (M + 49)) b e).2.1 s) (M + 52) (run (f (M + 49)) b e).2.1 tt) (((hF.up (by omega)).up (by omega)).up (by omega))
              rw [run_yes hy] at N
              obtain ⟨f', r1, r2, K⟩ := N (fun k hk h12 => by
                show _ = (if k = (run (f (M + 49)) b e).2.1 then ((e % 125 : Nat) : Int) else (run (f (M + 49)) b e).2.2.1 k) ∧ _ = (if k = (run (f (M + 49)) b e).2.1 then rS (f (M + 49)) b ((e % 125 : Nat) : Int) else (run (f (M + 49)) b e).2.2.2.1 k) ∧ _ = (if k = (run (f (M + 49)) b e).2.1 then rT (f (M + 49)) b ((e % 125 : Nat) : Int) else (run (f (M + 49)) b e).2.2.2.2 k)
                have hk : k < (run (f (M + 49)) b e).2.1 + 1 := hk
                rw [e1, e2]
                by_cases z : k = (run (f (M + 49)) b e).2.1
                · subst z
                  rw [if_pos rfl, if_pos rfl, if_pos rfl]
                  exact up3_at (by omega) (by omega) (by omega)
                · rw [if_neg z, if_neg z, if_neg z]
                  obtain ⟨a1, a2, a3⟩ := up3_ne (f := fi) (a := M + 50) (b := M + 51) (c := M + 52) (i := (run (f (M + 49)) b e).2.1) (j := k) (x := ((e % 125 : Nat) : Int)) (y := s) (z := tt) (by omega) (by omega) (by omega) z
                  rw [a1, a2, a3]
                  exact hR k (by omega) h12)
              refine ⟨f', r1, r2, fun r A => go r (bk_X12_make_148 hm ⟨fun z => absurd z (by omega), fun _ => ⟨fun z => absurd z (by omega), fun _ => ⟨⟨by omega, by omega⟩, by omega, by omega, ?_⟩⟩⟩)⟩
              have A2 := K r A
              dsimp only at A2
              rw [show (((run (f (M + 49)) b e).2.1 + 1 : Nat) : Int) = ((run (f (M + 49)) b e).2.1 : Int) + 1 by omega] at A2
              rw [d1, d2]
              exact A2
      · obtain ⟨f', r1, r2, K⟩ := no (fun z => ht z.1)
        exact ⟨f', r1, r2, fun r A => bk_X12_make_92 hm ⟨fun z => absurd z (by omega), fun _ => ⟨fun z => absurd z hX, fun _ => ⟨fi, g, _, E1, fun _ => bk_X12_make_125 hm ⟨fun z => absurd (by rw [BitVec.zero_and]) z, fun _ => K r A _⟩, fun z => absurd (by omega) ht⟩⟩⟩⟩
theorem m_make21 {σ : St} {f : FI} {g : FL} {M w : Nat} {x : Int} {b : Nat} (hm : Sh12 σ M) (hw : w < 12) (hb : b < 8) : ∀ k i : Nat, i + k = 64 → ∀ fi : FI, Fr (fun a _ => a = M + 49) f fi → (∀ p : Nat, p < i → (many (rwM g M (w : Int) (64 * (b : Int) + (p : Int))) : Int) ≤ 1 ∧ Kth (rwM g M (w : Int) (64 * (b : Int) + (p : Int))) 0 (fi (M + 49) p)) → ∃ f' : FI, Fr (fun a _ => a = M + 49) f f' ∧ (((∃ p : Nat, p < 64 ∧ ¬ (many (rwM g M (w : Int) (64 * (b : Int) + (p : Int))) : Int) ≤ 1) ∧ A_X12_make_21 σ fi g M (w : Int) x (b : Int) (i : Int) (il σ f' g, [vI (-3)])) ∨ ((∀ p : Nat, p < 64 → (many (rwM g M (w : Int) (64 * (b : Int) + (p : Int))) : Int) ≤ 1 ∧ Kth (rwM g M (w : Int) (64 * (b : Int) + (p : Int))) 0 (f' (M + 49) p)) ∧ ∀ r, A_X12_make_84 σ f' g M x (b : Int) 0 (18446744073709551615#64) 3 r → A_X12_make_21 σ fi g M (w : Int) x (b : Int) (i : Int) r)) := by
  intro k
  induction k with
  | zero =>
    intro i hi fi hF hj
    obtain rfl : i = 64 := by omega
    exact ⟨fi, hF, Or.inr ⟨hj, fun r A => bk_X12_make_21 hm ⟨fun _ => A, fun z => absurd (by decide) z⟩⟩⟩
  | succ k ih =>
    intro i hi fi hF hj
    by_cases z : (many (rwM g M (w : Int) (64 * (b : Int) + (i : Int))) : Int) ≤ 1
    · obtain ⟨u, hu, E⟩ := x_kth (σ := σ) (f := fi) (g := g) (a := M) (w := (w : Int)) (p := 64 * (b : Int) + (i : Int)) (k := 0) hm (by omega) (by omega) (by omega)
      obtain ⟨f', F, h⟩ := ih (i + 1) (by omega) (up2 fi (M + 49) i u) (hF.up rfl) (fun p hp => by
        by_cases y : p = i
        · subst y
          rw [u2_s]
          exact ⟨z, hu⟩
        · rw [u2_i y]
          exact hj p (by omega))
      have go : ∀ r, A_X12_make_21 σ (up2 fi (M + 49) i u) g M (w : Int) x (b : Int) ((i : Int) + 1) r → A_X12_make_21 σ fi g M (w : Int) x (b : Int) (i : Int) r := fun r A => bk_X12_make_21 hm ⟨fun y => absurd y (by omega), fun _ => ⟨⟨by omega, by omega, by omega, by omega⟩, fun _ => ⟨⟨by omega, by omega⟩, fi, g, u, E, ⟨by omega, by omega⟩, A⟩, fun y => absurd z y⟩⟩
      refine ⟨f', F, ?_⟩
      rcases h with ⟨h1, h2⟩ | ⟨h1, h2⟩
      · exact Or.inl ⟨h1, go _ h2⟩
      · exact Or.inr ⟨h1, fun r A => go r (h2 r A)⟩
    · exact ⟨fi, hF, Or.inl ⟨⟨i, by omega, z⟩, bk_X12_make_21 hm ⟨fun y => absurd y (by omega), fun _ => ⟨⟨by omega, by omega, by omega, by omega⟩, fun y => absurd y z, fun _ => rfl⟩⟩⟩⟩
