/-! the teller, the reader, the network are made -/
theorem Kp.le {d d' : Nat} {σ σ' : St} {f f' : FI} {g g' : FL} (h : Kp d' σ σ' f f' g g') (hd : d ≤ d') : Kp d σ σ' f f' g g' := fun c hc => h c (by omega)
theorem x_init8 {σ : St} {f : FI} {g : FL} {d : Nat} (hd : nx σ = d + 1) : ∃ (σ' : St) (f' : FI) (g' : FL), Ex mt 1 113 (il σ f g) [vR 8 (some d)] (il σ' f' g', []) ∧ Kp d σ σ' f f' g g' ∧ nx σ' = d + 7 ∧ sl σ' = sl σ + 1004 ∧ Sh8 σ' d ∧ (f' d = f d ∧ g' d = g d) := by
  have P1A0 := Alf.nil (σ := σ) (f := f) (g := g) (a := d) (b := d + 1) hd
  obtain ⟨q1, hq1⟩ : ∃ x, x = nx σ := ⟨_, rfl⟩
  obtain ⟨m1, hm1⟩ : ∃ x, x = mk σ 14 200 200 := ⟨_, rfl⟩
  obtain ⟨f1, hf1⟩ : ∃ x : FI, x = up1 f q1 (fun _ => 0) := ⟨_, rfl⟩
  obtain ⟨g1, hg1⟩ : ∃ x : FL, x = up1 g q1 (fun _ => 0) := ⟨_, rfl⟩
  obtain ⟨w1, hw1⟩ : ∃ x, x = wR m1 d 0 (some q1) := ⟨_, rfl⟩
  obtain ⟨A1, _⟩ := P1A0.add (by omega) (by decide +kernel) hq1 hm1 hf1 hg1 hw1
  have A : Alf σ f g d (d + 1) [(0, 200)] w1 f1 g1 := A1
  have n1 : nx w1 = d + 2 := A.1.2.1
  obtain ⟨σt, f9, g9, E9, n9, s9, ⟨a0, a1, a2, a3, a4, a5⟩, keep, same⟩ := x_init9 (σ := mk w1 9 0 4) (f := up1 f1 (nx w1) (fun _ => 0)) (g := up1 g1 (nx w1) (fun _ => 0)) (a := d + 2) (N := 200) (by omega) (by rw [mk_nx]; omega)
  rw [mk_nx, n1] at n9 a0 a1 a2 a3 a4 a5 keep same
  rw [mk_sl] at s9
  have KA : Kp (d + 2) w1 σt f1 f9 g1 g9 := fun c hc => by
    obtain ⟨b1, b2, b3⟩ := keep c (by omega)
    obtain ⟨b4, b5⟩ := same c (by omega)
    exact ⟨⟨by rw [b1, mk_ln, if_neg (by omega)], by rw [b2, mk_tg, if_neg (by omega)], fun k => by rw [b3 k (by omega), mk_gR (by omega)]⟩, by rw [b4, up1_ne' (by omega)], by rw [b5, up1_ne' (by omega)]⟩
  obtain ⟨wb, hwb⟩ : ∃ x, x = wR σt d 2 (some (d + 2)) := ⟨_, rfl⟩
  have nb : nx wb = d + 6 := by rw [hwb, wR_nx]; omega
  have P2A0 := Alf.nil (σ := wb) (f := f9) (g := g9) (a := d) (b := d + 6) nb
  obtain ⟨q2, hq2⟩ : ∃ x, x = nx wb := ⟨_, rfl⟩
  obtain ⟨m2, hm2⟩ : ∃ x, x = mk wb 14 200 200 := ⟨_, rfl⟩
  obtain ⟨f2, hf2⟩ : ∃ x : FI, x = up1 f9 q2 (fun _ => 0) := ⟨_, rfl⟩
  obtain ⟨g2, hg2⟩ : ∃ x : FL, x = up1 g9 q2 (fun _ => 0) := ⟨_, rfl⟩
  obtain ⟨w2, hw2⟩ : ∃ x, x = wR m2 d 3 (some q2) := ⟨_, rfl⟩
  obtain ⟨A2, _⟩ := P2A0.add (by omega) (by decide +kernel) hq2 hm2 hf2 hg2 hw2
  have A2 : Alf wb f9 g9 d (d + 6) [(3, 200)] w2 f2 g2 := A2
  have KB : Kp d σt wb f9 f9 g9 g9 := by rw [hwb]; exact Kp.wR (Nat.le_refl _)
  have K := (A.kp (d := d) (Nat.le_refl _) (by omega)).trans ((KA.le (by omega)).trans (KB.trans (A2.kp (d := d) (Nat.le_refl _) (by omega))))
  have l : ∀ c, c < d + 6 → ln w2 c = ln σt c := fun c hc => by rw [(A2.1.2.2.2.1 c hc).1, hwb, wR_ln]
  have r : ∀ c k, c < d + 6 → c ≠ d → gR w2 c k = gR σt c k := fun c k hc h1 => by rw [(A2.1.2.2.2.1 c hc).2.2 h1 k, hwb, wR_gR, if_neg (fun z => h1 z.1)]
  refine ⟨w2, f2, g2, bk_X8_init_0 ?_, K, A2.1.2.1, ?_, ⟨?_, ?_, ?_, ⟨?_, ?_, ?_, ?_, ?_, ?_⟩, (A2.1.1 0 (by decide)).1, (A2.1.1 0 (by decide)).2⟩, ?_, ?_⟩
  · intro xq xm xf xg c1 c2 c3 c4 xw c5
    obtain rfl := c1.trans hq1.symm
    obtain rfl := c2.trans hm1.symm
    obtain rfl := c3.trans hf1.symm
    obtain rfl := c4.trans hg1.symm
    obtain rfl := c5.trans hw1.symm
    intro y1 y2 y3 y4 d1 d2 d3 d4
    rw [d1] at d3 d4
    rw [d1, d2, d3, d4, n1]
    rw [n1] at E9
    refine ⟨σt, f9, g9, E9, ?_⟩
    intro y5 d5
    obtain rfl := d5.trans hwb.symm
    intro xq xm xf xg c1 c2 c3 c4 xw c5
    obtain rfl := c1.trans hq2.symm
    obtain rfl := c2.trans hm2.symm
    obtain rfl := c3.trans hf2.symm
    obtain rfl := c4.trans hg2.symm
    obtain rfl := c5.trans hw2.symm
    rfl
  · have b1 : sl w1 = sl σ + 200 := A.1.2.2.1
    have b2 : sl w2 = sl wb + 200 := A2.1.2.2.1
    have b3 : sl wb = sl σt := by rw [hwb, wR_sl]
    omega
  · rw [A2.1.2.2.2.2 0 (by decide), hwb, wR_gR, if_neg (by omega), (KA d (by omega)).1.2.2 0]
    exact (A.1.1 0 (by decide)).1
  · rw [l _ (by omega), (KA _ (by omega)).1.1]
    exact (A.1.1 0 (by decide)).2
  · rw [A2.1.2.2.2.2 2 (by decide), hwb, wR_gR, if_pos ⟨rfl, rfl⟩]
  · rw [r _ _ (by omega) (by omega)]
    exact a0
  · rw [l _ (by omega)]
    exact a1
  · rw [r _ _ (by omega) (by omega)]
    exact a2
  · rw [l _ (by omega)]
    exact a3
  · rw [r _ _ (by omega) (by omega)]
    exact a4
  · rw [l _ (by omega)]
    exact a5
  · rw [(A2.2.1 d (by omega)).1, (KA d (by omega)).2.1, (A.2.1 d (by omega)).1]
  · rw [(A2.2.1 d (by omega)).2, (KA d (by omega)).2.2, (A.2.1 d (by omega)).2]
theorem x_init4 {σ : St} {f : FI} {g : FL} {b : Nat} (hd : nx σ = b + 6) : ∃ (σ' : St) (f' : FI) (g' : FL), Ex mt 1 49 (il σ f g) [vR 4 (some (b + 5))] (il σ' f' g', []) ∧ Kp (b + 5) σ σ' f f' g g' ∧ nx σ' = b + 13 ∧ sl σ' = sl σ + 668 ∧ Sh4w σ' b := by
  obtain ⟨σt, f9, g9, E9, n9, s9, ⟨a0, a1, a2, a3, a4, a5⟩, keep, same⟩ := x_init9 (σ := mk σ 9 0 4) (f := up1 f (nx σ) (fun _ => 0)) (g := up1 g (nx σ) (fun _ => 0)) (a := b + 6) (N := 200) (by omega) (by rw [mk_nx]; omega)
  rw [mk_nx, hd] at n9 a0 a1 a2 a3 a4 a5 keep same
  rw [mk_sl] at s9
  have KA : Kp (b + 6) σ σt f f9 g g9 := fun c hc => by
    obtain ⟨b1, b2, b3⟩ := keep c (by omega)
    obtain ⟨b4, b5⟩ := same c (by omega)
    exact ⟨⟨by rw [b1, mk_ln, if_neg (by omega)], by rw [b2, mk_tg, if_neg (by omega)], fun k => by rw [b3 k (by omega), mk_gR (by omega)]⟩, by rw [b4, up1_ne' (by omega)], by rw [b5, up1_ne' (by omega)]⟩
  obtain ⟨wb, hwb⟩ : ∃ x, x = wR σt (b + 5) 0 (some (b + 6)) := ⟨_, rfl⟩
  have nb : nx wb = b + 10 := by rw [hwb, wR_nx]; omega
  have P1A0 := Alf.nil (σ := wb) (f := f9) (g := g9) (a := (b + 5)) (b := b + 10) nb
  obtain ⟨q1, hq1⟩ : ∃ x, x = nx wb := ⟨_, rfl⟩
  obtain ⟨m1, hm1⟩ : ∃ x, x = mk wb 14 32 32 := ⟨_, rfl⟩
  obtain ⟨f1, hf1⟩ : ∃ x : FI, x = up1 f9 q1 (fun _ => 0) := ⟨_, rfl⟩
  obtain ⟨g1, hg1⟩ : ∃ x : FL, x = up1 g9 q1 (fun _ => 0) := ⟨_, rfl⟩
  obtain ⟨w1, hw1⟩ : ∃ x, x = wR m1 (b + 5) 1 (some q1) := ⟨_, rfl⟩
  obtain ⟨A1, _⟩ := P1A0.add (by omega) (by decide +kernel) hq1 hm1 hf1 hg1 hw1
  obtain ⟨q2, hq2⟩ : ∃ x, x = nx w1 := ⟨_, rfl⟩
  obtain ⟨m2, hm2⟩ : ∃ x, x = mk w1 14 32 32 := ⟨_, rfl⟩
  obtain ⟨f2, hf2⟩ : ∃ x : FI, x = up1 f1 q2 (fun _ => 0) := ⟨_, rfl⟩
  obtain ⟨g2, hg2⟩ : ∃ x : FL, x = up1 g1 q2 (fun _ => 0) := ⟨_, rfl⟩
  obtain ⟨w2, hw2⟩ : ∃ x, x = wR m2 (b + 5) 2 (some q2) := ⟨_, rfl⟩
  obtain ⟨A2, _⟩ := A1.add (by omega) (by decide +kernel) hq2 hm2 hf2 hg2 hw2
  obtain ⟨q3, hq3⟩ : ∃ x, x = nx w2 := ⟨_, rfl⟩
  obtain ⟨m3, hm3⟩ : ∃ x, x = mk w2 14 0 0 := ⟨_, rfl⟩
  obtain ⟨f3, hf3⟩ : ∃ x : FI, x = up1 f2 q3 (fun _ => 0) := ⟨_, rfl⟩
  obtain ⟨g3, hg3⟩ : ∃ x : FL, x = up1 g2 q3 (fun _ => 0) := ⟨_, rfl⟩
  obtain ⟨w3, hw3⟩ : ∃ x, x = wR m3 (b + 5) 3 (some q3) := ⟨_, rfl⟩
  obtain ⟨A3, _⟩ := A2.add (by omega) (by decide +kernel) hq3 hm3 hf3 hg3 hw3
  have A2 : Alf wb f9 g9 ((b + 5)) (b + 10) [(1, 32), (2, 32), (3, 0)] w3 f3 g3 := A3
  have KB : Kp (b + 5) σt wb f9 f9 g9 g9 := by rw [hwb]; exact Kp.wR (Nat.le_refl _)
  have K := (KA.le (by omega)).trans (KB.trans (A2.kp (d := b + 5) (Nat.le_refl _) (by omega)))
  have l : ∀ c, c < b + 10 → ln w3 c = ln σt c := fun c hc => by rw [(A2.1.2.2.2.1 c hc).1, hwb, wR_ln]
  have r : ∀ c k, c < b + 10 → c ≠ b + 5 → gR w3 c k = gR σt c k := fun c k hc h1 => by rw [(A2.1.2.2.2.1 c hc).2.2 h1 k, hwb, wR_gR, if_neg (fun z => h1 z.1)]
  refine ⟨w3, f3, g3, bk_X4_init_0 ?_, K, A2.1.2.1, ?_, ⟨?_, ⟨?_, ?_, ?_, ?_, ?_, ?_⟩, (A2.1.1 0 (by decide)).1, (A2.1.1 0 (by decide)).2, (A2.1.1 1 (by decide)).1, (A2.1.1 1 (by decide)).2⟩⟩
  · intro y1 y2 y3 y4 d1 d2 d3 d4
    rw [d1] at d3 d4
    rw [d1, d2, d3, d4, hd]
    rw [hd] at E9
    refine ⟨σt, f9, g9, E9, ?_⟩
    intro y5 d5
    obtain rfl := d5.trans hwb.symm
    intro xq xm xf xg c1 c2 c3 c4 xw c5
    obtain rfl := c1.trans hq1.symm
    obtain rfl := c2.trans hm1.symm
    obtain rfl := c3.trans hf1.symm
    obtain rfl := c4.trans hg1.symm
    obtain rfl := c5.trans hw1.symm
    intro xq xm xf xg c1 c2 c3 c4 xw c5
    obtain rfl := c1.trans hq2.symm
    obtain rfl := c2.trans hm2.symm
    obtain rfl := c3.trans hf2.symm
    obtain rfl := c4.trans hg2.symm
    obtain rfl := c5.trans hw2.symm
    intro xq xm xf xg c1 c2 c3 c4 xw c5
    obtain rfl := c1.trans hq3.symm
    obtain rfl := c2.trans hm3.symm
    obtain rfl := c3.trans hf3.symm
    obtain rfl := c4.trans hg3.symm
    obtain rfl := c5.trans hw3.symm
    rfl
  · have b2 : sl w3 = sl wb + 64 := A2.1.2.2.1
    have b3 : sl wb = sl σt := by rw [hwb, wR_sl]
    omega
  · rw [A2.1.2.2.2.2 0 (by decide), hwb, wR_gR, if_pos ⟨rfl, rfl⟩]
  · rw [r _ _ (by omega) (by omega)]
    exact a0
  · rw [l _ (by omega)]
    exact a1
  · rw [r _ _ (by omega) (by omega)]
    exact a2
  · rw [l _ (by omega)]
    exact a3
  · rw [r _ _ (by omega) (by omega)]
    exact a4
  · rw [l _ (by omega)]
    exact a5
theorem Sh7.kp {σ σ' : St} {x : Nat} (h : Sh7 σ x) (e : ∀ c, x ≤ c → c < x + 6 → ln σ' c = ln σ c ∧ ∀ k, gR σ' c k = gR σ c k) : Sh7 σ' x := ⟨((e _ (by omega) (by omega)).2 0).trans h.1, (e _ (by omega) (by omega)).1.trans h.2.1, ((e _ (by omega) (by omega)).2 1).trans h.2.2.1, (e _ (by omega) (by omega)).1.trans h.2.2.2.1, ((e _ (by omega) (by omega)).2 2).trans h.2.2.2.2.1, (e _ (by omega) (by omega)).1.trans h.2.2.2.2.2.1, ((e _ (by omega) (by omega)).2 4).trans h.2.2.2.2.2.2.1, (e _ (by omega) (by omega)).1.trans h.2.2.2.2.2.2.2.1, ((e _ (by omega) (by omega)).2 5).trans h.2.2.2.2.2.2.2.2.1, (e _ (by omega) (by omega)).1.trans h.2.2.2.2.2.2.2.2.2⟩
/-- i tables are made -/
def Lp (σ : St) (f : FI) (g : FL) (d i : Nat) (σi : St) (fi : FI) (gi : FL) : Prop := Kp d σ σi f fi g gi ∧ nx σi = d + 2 + 6 * i ∧ sl σi = sl σ + 16 + 170 * i ∧ gR σi d 0 = some (d + 1) ∧ ln σi (d + 1) = 16 ∧ (∀ j, j < i → gR σi (d + 1) j = some (d + 2 + 6 * j) ∧ Sh7 σi (d + 2 + 6 * j) ∧ TC fi (d + 2 + 6 * j) 0) ∧ fi d = f d ∧ gi d = g d
theorem x_init3 {σ : St} {f : FI} {g : FL} {d : Nat} (hd : nx σ = d + 1) : ∃ (σ' : St) (f' : FI) (g' : FL), Ex mt 2 31 (il σ f g) [vR 3 (some d)] (il σ' f' g', []) ∧ Kp d σ σ' f f' g g' ∧ nx σ' = d + 101 ∧ sl σ' = sl σ + 3768 ∧ Sh3 σ' d ∧ (∀ j, j < 16 → TC f' (d + 2 + 6 * j) 0) ∧ (∀ k, f' d k = if k = 2 then 255 else f d k) ∧ g' d = g d ∧ Zr (d + 98) (d + 101) f' g' := by
  have P1A0 := Alf.nil (σ := σ) (f := f) (g := g) (a := d) (b := d + 1) hd
  obtain ⟨q1, hq1⟩ : ∃ x, x = nx σ := ⟨_, rfl⟩
  obtain ⟨m1, hm1⟩ : ∃ x, x = mk σ 17 16 16 := ⟨_, rfl⟩
  obtain ⟨f1, hf1⟩ : ∃ x : FI, x = up1 f q1 (fun _ => 0) := ⟨_, rfl⟩
  obtain ⟨g1, hg1⟩ : ∃ x : FL, x = up1 g q1 (fun _ => 0) := ⟨_, rfl⟩
  obtain ⟨w1, hw1⟩ : ∃ x, x = wR m1 d 0 (some q1) := ⟨_, rfl⟩
  obtain ⟨A1, _⟩ := P1A0.add (by omega) (by decide +kernel) hq1 hm1 hf1 hg1 hw1
  have A : Alf σ f g d (d + 1) [(0, 16)] w1 f1 g1 := A1
  have loop : ∀ u i : Nat, i + u = 16 → ∀ (σi : St) (fi : FI) (gi : FL), Lp σ f g d i σi fi gi → ∃ (σ' : St) (f' : FI) (g' : FL), A_X3_init_15 σi fi gi d (i : Int) (il σ' f' g', []) ∧ Kp d σ σ' f f' g g' ∧ nx σ' = d + 101 ∧ sl σ' = sl σ + 3768 ∧ Sh3 σ' d ∧ (∀ j, j < 16 → TC f' (d + 2 + 6 * j) 0) ∧ (∀ k, f' d k = if k = 2 then 255 else f d k) ∧ g' d = g d ∧ Zr (d + 98) (d + 101) f' g' := by
    intro u
    induction u with
    | zero =>
      intro i hi σi fi gi hL
      obtain rfl : i = 16 := hi
      obtain ⟨K, hn, hsl, h0, h1, hT, hf, hg⟩ := hL
      obtain ⟨fb, hfb⟩ : ∃ x : FI, x = up2 fi d 2 255 := ⟨_, rfl⟩
      have P1A0 := Alf.nil (σ := σi) (f := fb) (g := gi) (a := d) (b := d + 98) hn
      obtain ⟨q2, hq2⟩ : ∃ x, x = nx σi := ⟨_, rfl⟩
      obtain ⟨m2, hm2⟩ : ∃ x, x = mk σi 14 512 512 := ⟨_, rfl⟩
      obtain ⟨f2, hf2⟩ : ∃ x : FI, x = up1 fb q2 (fun _ => 0) := ⟨_, rfl⟩
      obtain ⟨g2, hg2⟩ : ∃ x : FL, x = up1 gi q2 (fun _ => 0) := ⟨_, rfl⟩
      obtain ⟨w2, hw2⟩ : ∃ x, x = wR m2 d 3 (some q2) := ⟨_, rfl⟩
      obtain ⟨A2, _⟩ := P1A0.add (by omega) (by decide +kernel) hq2 hm2 hf2 hg2 hw2
      obtain ⟨q3, hq3⟩ : ∃ x, x = nx w2 := ⟨_, rfl⟩
      obtain ⟨m3, hm3⟩ : ∃ x, x = mk w2 15 8 8 := ⟨_, rfl⟩
      obtain ⟨f3, hf3⟩ : ∃ x : FI, x = up1 f2 q3 (fun _ => 0) := ⟨_, rfl⟩
      obtain ⟨g3, hg3⟩ : ∃ x : FL, x = up1 g2 q3 (fun _ => 0) := ⟨_, rfl⟩
      obtain ⟨w3, hw3⟩ : ∃ x, x = wR m3 d 5 (some q3) := ⟨_, rfl⟩
      obtain ⟨A3, _⟩ := A2.add (by omega) (by decide +kernel) hq3 hm3 hf3 hg3 hw3
      obtain ⟨q4, hq4⟩ : ∃ x, x = nx w3 := ⟨_, rfl⟩
      obtain ⟨m4, hm4⟩ : ∃ x, x = mk w3 14 512 512 := ⟨_, rfl⟩
      obtain ⟨f4, hf4⟩ : ∃ x : FI, x = up1 f3 q4 (fun _ => 0) := ⟨_, rfl⟩
      obtain ⟨g4, hg4⟩ : ∃ x : FL, x = up1 g3 q4 (fun _ => 0) := ⟨_, rfl⟩
      obtain ⟨w4, hw4⟩ : ∃ x, x = wR m4 d 6 (some q4) := ⟨_, rfl⟩
      obtain ⟨A4, _⟩ := A3.add (by omega) (by decide +kernel) hq4 hm4 hf4 hg4 hw4
      have A2 : Alf σi fb gi d (d + 98) [(3, 512), (5, 8), (6, 512)] w4 f4 g4 := A4
      have K2 : Kp d σi σi fi fb gi gi := fun c hc => ⟨⟨rfl, rfl, fun _ => rfl⟩, by rw [hfb, up2_ne (by omega)], rfl⟩
      have l : ∀ c, c < d + 98 → ln w4 c = ln σi c := fun c hc => (A2.1.2.2.2.1 c hc).1
      have r : ∀ c k, c < d + 98 → c ≠ d → gR w4 c k = gR σi c k := fun c k hc hc2 => (A2.1.2.2.2.1 c hc).2.2 hc2 k
      refine ⟨w4, f4, g4, bk_X3_init_15 ⟨fun _ => ?_, fun y => absurd (by omega) y⟩, K.trans (K2.trans (A2.kp (d := d) (Nat.le_refl _) (by omega))), A2.1.2.1, ?_, ⟨?_, ?_, (A2.1.1 0 (by decide)).1, (A2.1.1 0 (by decide)).2, (A2.1.1 1 (by decide)).1, (A2.1.1 1 (by decide)).2, (A2.1.1 2 (by decide)).1, (A2.1.1 2 (by decide)).2, fun j j0 j1 => ?_, fun j j0 j1 => ?_⟩, fun j hj => ?_, fun k => ?_, ?_, A2.2.2⟩
      · rw [← hfb]
        intro xq xm xf xg c1 c2 c3 c4 xw c5
        obtain rfl := c1.trans hq2.symm
        obtain rfl := c2.trans hm2.symm
        obtain rfl := c3.trans hf2.symm
        obtain rfl := c4.trans hg2.symm
        obtain rfl := c5.trans hw2.symm
        intro xq xm xf xg c1 c2 c3 c4 xw c5
        obtain rfl := c1.trans hq3.symm
        obtain rfl := c2.trans hm3.symm
        obtain rfl := c3.trans hf3.symm
        obtain rfl := c4.trans hg3.symm
        obtain rfl := c5.trans hw3.symm
        intro xq xm xf xg c1 c2 c3 c4 xw c5
        obtain rfl := c1.trans hq4.symm
        obtain rfl := c2.trans hm4.symm
        obtain rfl := c3.trans hf4.symm
        obtain rfl := c4.trans hg4.symm
        obtain rfl := c5.trans hw4.symm
        rfl
      · have b : sl w4 = sl σi + 1032 := A2.1.2.2.1
        omega
      · rw [A2.1.2.2.2.2 0 (by decide)]
        exact h0
      · rw [l _ (by omega)]
        exact h1
      · rw [r _ _ (by omega) (by omega)]
        exact (hT j.toNat (by omega)).1
      · have q := (hT j.toNat (by omega)).2.1
        unfold tA
        exact Sh7.kp q (fun c c1 c2 => ⟨l _ (by omega), fun k => r _ _ (by omega) (by omega)⟩)
      · have fo : ∀ c, c ≠ d → c < d + 98 → f4 c = fi c := fun c h1 h2 => by rw [(A2.2.1 c h2).1, hfb, up2_ne h1]
        exact ((hT j hj).2.2).of (by rw [fo _ (by omega) (by omega)]) (fo _ (by omega) (by omega)) (fo _ (by omega) (by omega)) (fo _ (by omega) (by omega)) (fo _ (by omega) (by omega)) (fo _ (by omega) (by omega))
      · rw [(A2.2.1 d (by omega)).1, hfb]
        by_cases z : k = 2
        · rw [if_pos z, z, u2_s]
        · rw [if_neg z, u2_i z, hf]
      · rw [(A2.2.1 d (by omega)).2]
        exact hg
    | succ u ih =>
      intro i hi σi fi gi hL
      obtain ⟨K, hn, hsl, h0, h1, hT, hf, hg⟩ := hL
      obtain ⟨σt, ft, gt, E7, keep, _, n7, s7, sh7, tc7, same⟩ := x_init7 (σ := mk σi 7 0 6) (f := up1 fi (nx σi) (fun _ => 0)) (g := up1 gi (nx σi) (fun _ => 0)) (d := nx σi) (by rw [mk_nx]) (by rw [up1_at'])
      rw [mk_sl] at s7
      have keep2 : ∀ c, c < nx σi → ln σt c = ln σi c ∧ tg σt c = tg σi c ∧ ∀ k, gR σt c k = gR σi c k := fun c hc => by
        obtain ⟨b1, b2, b3⟩ := keep c hc
        exact ⟨by rw [b1, mk_ln, if_neg (by omega)], by rw [b2, mk_tg, if_neg (by omega)], fun k => by rw [b3 k, mk_gR (by omega)]⟩
      have same2 : ∀ c, c < nx σi → ft c = fi c ∧ gt c = gi c := fun c hc => by
        obtain ⟨b1, b2⟩ := same c hc
        exact ⟨by rw [b1, up1_ne' (by omega)], by rw [b2, up1_ne' (by omega)]⟩
      have L2 : Lp σ f g d (i + 1) (wR σt (d + 1) i (some (nx σi))) ft gt := by
        refine ⟨K.trans (fun c hc => ?_), by rw [wR_nx]; omega, by rw [wR_sl]; omega, ?_, ?_, fun j hj => ?_, ?_, ?_⟩
        · obtain ⟨b1, b2, b3⟩ := keep2 c (by omega)
          exact ⟨⟨b1, b2, fun k => by rw [wR_gR, if_neg (by omega)]; exact b3 k⟩, same2 c (by omega)⟩
        · rw [wR_gR, if_neg (by omega), (keep2 d (by omega)).2.2 0]
          exact h0
        · rw [wR_ln, (keep2 _ (by omega)).1]
          exact h1
        · by_cases z : j = i
          · rw [z, wR_gR, if_pos ⟨rfl, rfl⟩, hn]
            rw [hn] at sh7 tc7
            exact ⟨rfl, Sh7.kp sh7 (fun c c1 c2 => ⟨rfl, fun k => by rw [wR_gR, if_neg (by omega)]⟩), tc7⟩
          · obtain ⟨t1, t2, t3⟩ := hT j (by omega)
            refine ⟨?_, Sh7.kp t2 (fun c c1 c2 => ⟨(keep2 c (by omega)).1, fun k => by rw [wR_gR, if_neg (by omega)]; exact (keep2 c (by omega)).2.2 k⟩), ?_⟩
            · rw [wR_gR, if_neg (fun y => z y.2), (keep2 _ (by omega)).2.2 j]
              exact t1
            · exact t3.of (by rw [(same2 _ (by omega)).1]) (same2 _ (by omega)).1 (same2 _ (by omega)).1 (same2 _ (by omega)).1 (same2 _ (by omega)).1 (same2 _ (by omega)).1
        · rw [(same2 d (by omega)).1]
          exact hf
        · rw [(same2 d (by omega)).2]
          exact hg
      obtain ⟨σ', f', g', A', R'⟩ := ih (i + 1) (by omega) _ _ _ L2
      refine ⟨σ', f', g', bk_X3_init_15 ⟨fun y => absurd y (by omega), fun _ => ⟨d + 1, h0, fun y1 y2 y3 y4 d1 d2 d3 d4 => ?_⟩⟩, R'⟩
      rw [d1] at d3 d4
      rw [d1, d2, d3, d4]
      refine ⟨σt, ft, gt, E7, ⟨by omega, by rw [(keep2 _ (by omega)).1, h1]; omega⟩, fun y5 d5 => ⟨by omega, ?_⟩⟩
      rw [d5, show ((i : Int)).toNat = i from rfl, show (i : Int) + 1 = ((i + 1 : Nat) : Int) by omega]
      exact A'
  have n1 : nx w1 = d + 1 + 1 := A.1.2.1
  have s1 : sl w1 = sl σ + 16 := A.1.2.2.1
  obtain ⟨σ', f', g', A', R'⟩ := loop 16 0 rfl w1 f1 g1 ⟨A.kp (Nat.le_refl _) (by omega), by omega, by omega, (A.1.1 0 (by decide)).1, (A.1.1 0 (by decide)).2, fun j hj => absurd hj (Nat.not_lt_zero j), A.2.1 d (by omega)⟩
  refine ⟨σ', f', g', bk_X3_init_0 ?_, R'⟩
  intro xq xm xf xg c1 c2 c3 c4 xw c5
  obtain rfl := c1.trans hq1.symm
  obtain rfl := c2.trans hm1.symm
  obtain rfl := c3.trans hf1.symm
  obtain rfl := c4.trans hg1.symm
  obtain rfl := c5.trans hw1.symm
  exact A'
