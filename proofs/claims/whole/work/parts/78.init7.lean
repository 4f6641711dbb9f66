/-! make: a new table, the covering, the call (class) -/
theorem Gx.letS {mt : Nat → Nat × (Nat → List LI)} {d : Nat} {M : Nat → List LI} {e : St} {f : FI} {g : FL} {cs : List LI} {ls : Ls} {st : List Vl} {r : St × List Vl} (k : ∀ σ', σ' = e → Gx mt d M (il σ' f g) cs ls st r) : Gx mt d M (il e f g) cs ls st r := k e rfl
theorem Gx.letM {mt : Nat → Nat × (Nat → List LI)} {d : Nat} {M : Nat → List LI} {σ e : St} {f : FI} {g : FL} {cs : List LI} {ls : Ls} {st : List Vl} {r : St × List Vl} {t : Nat} (k : ∀ (q : Nat) (σ' : St) (f' : FI) (g' : FL), q = nx σ → σ' = e → f' = up1 f q (fun _ => 0) → g' = up1 g q (fun _ => 0) → Gx mt d M (il σ' f' g') cs ls (vR t (some q) :: st) r) : Gx mt d M (il e (up1 f (nx σ) (fun _ => 0)) (up1 g (nx σ) (fun _ => 0))) cs ls (vR t (some (nx σ)) :: st) r := k _ _ _ _ rfl rfl rfl rfl
theorem bk_X7_init_0 {σ : St} {f : FI} {g : FL} {a : Nat} {r : St × List Vl}  (h : (∀ (q9 : Nat) (σ6 : St) (f7 : FI) (g8 : FL), q9 = nx σ → σ6 = (mk σ 14 12 12) → f7 = up1 f q9 (fun _ => 0) → g8 = up1 g q9 (fun _ => 0) → (∀ (σ12 : St), σ12 = (wR σ6 a 0 (some q9)) → (∀ (q21 : Nat) (σ18 : St) (f19 : FI) (g20 : FL), q21 = nx σ12 → σ18 = (mk σ12 14 12 12) → f19 = up1 f7 q21 (fun _ => 0) → g20 = up1 g8 q21 (fun _ => 0) → (∀ (σ24 : St), σ24 = (wR σ18 a 1 (some q21)) → (∀ (q33 : Nat) (σ30 : St) (f31 : FI) (g32 : FL), q33 = nx σ24 → σ30 = (mk σ24 14 12 12) → f31 = up1 f19 q33 (fun _ => 0) → g32 = up1 g20 q33 (fun _ => 0) → (∀ (σ36 : St), σ36 = (wR σ30 a 2 (some q33)) → (∀ (q45 : Nat) (σ42 : St) (f43 : FI) (g44 : FL), q45 = nx σ36 → σ42 = (mk σ36 14 64 64) → f43 = up1 f31 q45 (fun _ => 0) → g44 = up1 g32 q45 (fun _ => 0) → (∀ (σ48 : St), σ48 = (wR σ42 a 4 (some q45)) → (∀ (q57 : Nat) (σ54 : St) (f55 : FI) (g56 : FL), q57 = nx σ48 → σ54 = (mk σ48 14 64 64) → f55 = up1 f43 q57 (fun _ => 0) → g56 = up1 g44 q57 (fun _ => 0) → (∀ (σ60 : St), σ60 = (wR σ54 a 5 (some q57)) → (∃ q61, gR σ60 a 4 = some q61 ∧ (∃ (f63 : FI) (g64 : FL), Ex mt 0 315 (il σ60 f55 g56) [vR 14 (some q61), vI (-1)] ((il σ60 f63 g64), []) ∧ (∃ q66, gR σ60 a 5 = some q66 ∧ (∃ (f68 : FI) (g69 : FL), Ex mt 0 315 (il σ60 f63 g64) [vR 14 (some q66), vI (-2)] ((il σ60 f68 g69), []) ∧ (r = ((il σ60 f68 g69), []))))))))))))))))) : Ex mt 1 95 (il σ f g) [vR 7 (some a)] r := Ex.mk mt_95 (show Gx mt 1 cd_X7_init (il σ f g) b_X7_init_0 [some (vR 7 (some a))] [] r from (go_loadA rfl (go_oinit rfl (go_loadA rfl (go_pushI rfl (gi_newa ⟨by decide, by decide⟩ (Gx.letM (fun q9 σ6 f7 g8 e2 e3 e4 e5 => have h1 := h q9 σ6 f7 g8 e2 e3 e4 e5; (gi_putR (Gx.letS (fun σ12 e11 => have h10 := h1 σ12 e11; (go_loadA rfl (go_pushI rfl (gi_newa ⟨by decide, by decide⟩ (Gx.letM (fun q21 σ18 f19 g20 e14 e15 e16 e17 => have h13 := h10 q21 σ18 f19 g20 e14 e15 e16 e17; (gi_putR (Gx.letS (fun σ24 e23 => have h22 := h13 σ24 e23; (go_loadA rfl (go_pushI rfl (gi_newa ⟨by decide, by decide⟩ (Gx.letM (fun q33 σ30 f31 g32 e26 e27 e28 e29 => have h25 := h22 q33 σ30 f31 g32 e26 e27 e28 e29; (gi_putR (Gx.letS (fun σ36 e35 => have h34 := h25 σ36 e35; (go_loadA rfl (go_pushI rfl (gi_newa ⟨by decide, by decide⟩ (Gx.letM (fun q45 σ42 f43 g44 e38 e39 e40 e41 => have h37 := h34 q45 σ42 f43 g44 e38 e39 e40 e41; (gi_putR (Gx.letS (fun σ48 e47 => have h46 := h37 σ48 e47; (go_loadA rfl (go_pushI rfl (gi_newa ⟨by decide, by decide⟩ (Gx.letM (fun q57 σ54 f55 g56 e50 e51 e52 e53 => have h49 := h46 q57 σ54 f55 g56 e50 e51 e52 e53; (gi_putR (Gx.letS (fun σ60 e59 => have h58 := h49 σ60 e59; (go_loadA rfl (Exists.elim h58 fun q61 h62 => (gi_getR h62.1 (go_pushI rfl (Exists.elim h62.2 fun f63 w72 => Exists.elim w72 fun g64 h65 => (go_callS rfl rfl rfl h65.1 (go_loadA rfl (Exists.elim h65.2 fun q66 h67 => (gi_getR h67.1 (go_pushI rfl (Exists.elim h67.2 fun f68 w71 => Exists.elim w71 fun g69 h70 => (go_callS rfl rfl rfl h70.1 (h70.2 ▸ gq_retV))))))))))))))))))))))))))))))))))))))))))))))))))))))))
theorem wR_nx {σ : St} {a k : Nat} {v : Option Nat} : nx (wR σ a k v) = nx σ := rfl
theorem wR_sl {σ : St} {a k : Nat} {v : Option Nat} : sl (wR σ a k v) = sl σ := rfl
theorem wR_ln {σ : St} {a k : Nat} {v : Option Nat} : ln (wR σ a k v) = ln σ := rfl
theorem wR_tg {σ : St} {a k : Nat} {v : Option Nat} : tg (wR σ a k v) = tg σ := rfl
/-- arrays that a constructor has made, one behind the other from b on, held in fields of a -/
def Al (σ0 : St) (a b : Nat) (L : List (Nat × Nat)) (σ : St) : Prop := (∀ i (h : i < L.length), gR σ a (L[i]).1 = some (b + i) ∧ ln σ (b + i) = (L[i]).2) ∧ nx σ = b + L.length ∧ sl σ = sl σ0 + (L.map fun p => p.2).sum ∧ (∀ c, c < b → ln σ c = ln σ0 c ∧ tg σ c = tg σ0 c ∧ (c ≠ a → ∀ k, gR σ c k = gR σ0 c k)) ∧ ∀ k, (∀ p ∈ L, p.1 ≠ k) → gR σ a k = gR σ0 a k
theorem Al.nil {σ : St} {a b : Nat} (h : nx σ = b) : Al σ a b [] σ := ⟨fun i hi => absurd hi (Nat.not_lt_zero i), by simpa using h, by simp, fun c _ => ⟨rfl, rfl, fun _ _ => rfl⟩, fun _ _ => rfl⟩
theorem Al.add {σ0 σ σ1 σ2 : St} {a b q t n k : Nat} {L : List (Nat × Nat)} (h : Al σ0 a b L σ) (hab : a < b) (hk : ∀ p ∈ L, p.1 ≠ k) (hq : q = nx σ) (h1 : σ1 = mk σ t n n) (h2 : σ2 = wR σ1 a k (some q)) : Al σ0 a b (L ++ [(k, n)]) σ2 ∧ q = b + L.length := by
  obtain ⟨a1, a2, a3, a4, a5⟩ := h
  have eq : q = b + L.length := by rw [hq, a2]
  subst h1 h2
  refine ⟨⟨fun i hi => ?_, ?_, ?_, fun c hc => ?_, fun j hj => ?_⟩, eq⟩
  · rw [wR_gR, wR_ln, mk_ln]
    rw [List.length_append, List.length_singleton] at hi
    by_cases z : i = L.length
    · subst z
      rw [List.getElem_append_right (Nat.le_refl _)]
      simp
      exact ⟨eq, by omega⟩
    · have hi2 : i < L.length := by omega
      rw [List.getElem_append_left hi2]
      have := hk _ (List.getElem_mem hi2)
      rw [if_neg (fun y => this y.2), mk_gR (by omega), if_neg (by omega)]
      exact a1 i hi2
  · rw [wR_nx, mk_nx, a2, List.length_append, List.length_singleton]
    omega
  · rw [wR_sl, mk_sl, a3, List.map_append, List.sum_append]
    simp
    omega
  · obtain ⟨c1, c2, c3⟩ := a4 c hc
    rw [wR_ln, wR_tg, mk_ln, mk_tg, if_neg (by omega), if_neg (by omega)]
    refine ⟨c1, c2, fun hca j => ?_⟩
    rw [wR_gR, if_neg (fun y => hca y.1), mk_gR (by omega)]
    exact c3 hca j
  · rw [wR_gR, if_neg (fun y => ?_), mk_gR (by omega)]
    · exact a5 j fun p hp => hj p (List.mem_append_left _ hp)
    · exact hj (k, n) (List.mem_append_right _ (List.mem_singleton.mpr rfl)) y.2.symm
/-- a new table -/
theorem x_init7 {σ : St} {f : FI} {g : FL} {d : Nat} (hd : nx σ = d + 1) (h3 : f d 3 = 0) : ∃ (σ' : St) (f' : FI) (g' : FL), Ex mt 1 95 (il σ f g) [vR 7 (some d)] (il σ' f' g', []) ∧ (∀ a, a < d → ln σ' a = ln σ a ∧ tg σ' a = tg σ a ∧ ∀ k, gR σ' a k = gR σ a k) ∧ tg σ' d = tg σ d ∧ nx σ' = d + 6 ∧ sl σ' = sl σ + 164 ∧ Sh7 σ' d ∧ TC f' d 0 ∧ (∀ c, c < d → f' c = f c ∧ g' c = g c) := by
  have A0 := Al.nil (a := d) hd
  obtain ⟨q1, hq1⟩ : ∃ x, x = nx σ := ⟨_, rfl⟩
  obtain ⟨m1, hm1⟩ : ∃ x, x = mk σ 14 12 12 := ⟨_, rfl⟩
  obtain ⟨f1, hf1⟩ : ∃ x : FI, x = up1 f q1 (fun _ => 0) := ⟨_, rfl⟩
  obtain ⟨g1, hg1⟩ : ∃ x : FL, x = up1 g q1 (fun _ => 0) := ⟨_, rfl⟩
  obtain ⟨w1, hw1⟩ : ∃ x, x = wR m1 d 0 (some q1) := ⟨_, rfl⟩
  obtain ⟨A1, n1⟩ := A0.add (by omega) (by decide) hq1 hm1 hw1
  obtain ⟨q2, hq2⟩ : ∃ x, x = nx w1 := ⟨_, rfl⟩
  obtain ⟨m2, hm2⟩ : ∃ x, x = mk w1 14 12 12 := ⟨_, rfl⟩
  obtain ⟨f2, hf2⟩ : ∃ x : FI, x = up1 f1 q2 (fun _ => 0) := ⟨_, rfl⟩
  obtain ⟨g2, hg2⟩ : ∃ x : FL, x = up1 g1 q2 (fun _ => 0) := ⟨_, rfl⟩
  obtain ⟨w2, hw2⟩ : ∃ x, x = wR m2 d 1 (some q2) := ⟨_, rfl⟩
  obtain ⟨A2, n2⟩ := A1.add (by omega) (by decide) hq2 hm2 hw2
  obtain ⟨q3, hq3⟩ : ∃ x, x = nx w2 := ⟨_, rfl⟩
  obtain ⟨m3, hm3⟩ : ∃ x, x = mk w2 14 12 12 := ⟨_, rfl⟩
  obtain ⟨f3, hf3⟩ : ∃ x : FI, x = up1 f2 q3 (fun _ => 0) := ⟨_, rfl⟩
  obtain ⟨g3, hg3⟩ : ∃ x : FL, x = up1 g2 q3 (fun _ => 0) := ⟨_, rfl⟩
  obtain ⟨w3, hw3⟩ : ∃ x, x = wR m3 d 2 (some q3) := ⟨_, rfl⟩
  obtain ⟨A3, n3⟩ := A2.add (by omega) (by decide) hq3 hm3 hw3
  obtain ⟨q4, hq4⟩ : ∃ x, x = nx w3 := ⟨_, rfl⟩
  obtain ⟨m4, hm4⟩ : ∃ x, x = mk w3 14 64 64 := ⟨_, rfl⟩
  obtain ⟨f4, hf4⟩ : ∃ x : FI, x = up1 f3 q4 (fun _ => 0) := ⟨_, rfl⟩
  obtain ⟨g4, hg4⟩ : ∃ x : FL, x = up1 g3 q4 (fun _ => 0) := ⟨_, rfl⟩
  obtain ⟨w4, hw4⟩ : ∃ x, x = wR m4 d 4 (some q4) := ⟨_, rfl⟩
  obtain ⟨A4, n4⟩ := A3.add (by omega) (by decide) hq4 hm4 hw4
  obtain ⟨q5, hq5⟩ : ∃ x, x = nx w4 := ⟨_, rfl⟩
  obtain ⟨m5, hm5⟩ : ∃ x, x = mk w4 14 64 64 := ⟨_, rfl⟩
  obtain ⟨f5, hf5⟩ : ∃ x : FI, x = up1 f4 q5 (fun _ => 0) := ⟨_, rfl⟩
  obtain ⟨g5, hg5⟩ : ∃ x : FL, x = up1 g4 q5 (fun _ => 0) := ⟨_, rfl⟩
  obtain ⟨w5, hw5⟩ : ∃ x, x = wR m5 d 5 (some q5) := ⟨_, rfl⟩
  obtain ⟨A5, n5⟩ := A4.add (by omega) (by decide) hq5 hm5 hw5
  have hA := A5
  have r0 : gR w5 d 0 = some (d + 1 + 0) ∧ ln w5 (d + 1 + 0) = 12 := hA.1 0 (by decide)
  have r1 : gR w5 d 1 = some (d + 1 + 1) ∧ ln w5 (d + 1 + 1) = 12 := hA.1 1 (by decide)
  have r2 : gR w5 d 2 = some (d + 1 + 2) ∧ ln w5 (d + 1 + 2) = 12 := hA.1 2 (by decide)
  have r4 : gR w5 d 4 = some (d + 1 + 3) ∧ ln w5 (d + 1 + 3) = 64 := hA.1 3 (by decide)
  have r5 : gR w5 d 5 = some (d + 1 + 4) ∧ ln w5 (d + 1 + 4) = 64 := hA.1 4 (by decide)
  have F1 := x_fillI (σ := w5) (f := f5) (g := g5) (v := -1) r4.2 (by decide)
  obtain ⟨f6, hf6⟩ : ∃ x : FI, x = up1 f5 (d + 1 + 3) (fun k => if k < 64 then -1 else f5 (d + 1 + 3) k) := ⟨_, rfl⟩
  rw [← hf6] at F1
  have F2 := x_fillI (σ := w5) (f := f6) (g := g5) (v := -2) r5.2 (by decide)
  obtain ⟨f7, hf7⟩ : ∃ x : FI, x = up1 f6 (d + 1 + 4) (fun k => if k < 64 then -2 else f6 (d + 1 + 4) k) := ⟨_, rfl⟩
  rw [← hf7] at F2
  simp only [List.length_nil, List.length_cons, List.length_append] at n1 n2 n3 n4 n5
  have k5 : ∀ c, c ≤ d → f5 c = f c ∧ g5 c = g c := fun c hc => by
    rw [hf5, hf4, hf3, hf2, hf1, hg5, hg4, hg3, hg2, hg1]
    constructor
    · rw [up1_ne' (by omega), up1_ne' (by omega), up1_ne' (by omega), up1_ne' (by omega), up1_ne' (by omega)]
    · rw [up1_ne' (by omega), up1_ne' (by omega), up1_ne' (by omega), up1_ne' (by omega), up1_ne' (by omega)]
  have k7 : ∀ c, c ≤ d → f7 c = f c := fun c hc => by
    rw [hf7, hf6, up1_ne' (by omega), up1_ne' (by omega)]
    exact (k5 c hc).1
  refine ⟨w5, f7, g5, bk_X7_init_0 ?_, fun a ha => ?_, (hA.2.2.2.1 d (by omega)).2.1, hA.2.1, hA.2.2.1, ⟨r0.1, r0.2, r1.1, r1.2, r2.1, r2.2, r4.1, r4.2, r5.1, r5.2⟩, ⟨⟨by rw [k7 d (Nat.le_refl _)]; exact h3, by decide⟩, fun k hk => absurd hk (Nat.not_lt_zero k), fun p hp => ⟨?_, ?_⟩⟩, fun c hc => ⟨k7 c (by omega), (k5 c (by omega)).2⟩⟩
  · intro xq xm xf xg c1 c2 c3 c4 xw c5
    obtain rfl := c1.trans hq1.symm
    obtain rfl := c2.trans hm1.symm
    obtain rfl := c3.trans hf1.symm
    obtain rfl := c4.trans hg1.symm
    obtain rfl := c5.trans hw1.symm
    intro xq xm xf xg c1 c2 c3 c4 xw c5
    obtain rfl := c1.trans hq2.symm
    obtain rfl := c2.trans hm2.symm
    obtain rfl := c3.trans hf2.symm
    obtain rfl := c4.trans hg2.symm
    obtain rfl := c5.trans hw2.symm
    intro xq xm xf xg c1 c2 c3 c4 xw c5
    obtain rfl := c1.trans hq3.symm
    obtain rfl := c2.trans hm3.symm
    obtain rfl := c3.trans hf3.symm
    obtain rfl := c4.trans hg3.symm
    obtain rfl := c5.trans hw3.symm
    intro xq xm xf xg c1 c2 c3 c4 xw c5
    obtain rfl := c1.trans hq4.symm
    obtain rfl := c2.trans hm4.symm
    obtain rfl := c3.trans hf4.symm
    obtain rfl := c4.trans hg4.symm
    obtain rfl := c5.trans hw4.symm
    intro xq xm xf xg c1 c2 c3 c4 xw c5
    obtain rfl := c1.trans hq5.symm
    obtain rfl := c2.trans hm5.symm
    obtain rfl := c3.trans hf5.symm
    obtain rfl := c4.trans hg5.symm
    obtain rfl := c5.trans hw5.symm
    exact ⟨_, r4.1, _, _, F1, _, r5.1, _, _, F2, rfl⟩
  · obtain ⟨b1, b2, b3⟩ := hA.2.2.2.1 a (by omega)
    exact ⟨b1, b2, b3 (by omega)⟩
  · rw [hf7, up1_ne' (by omega), hf6, show d + 4 = d + 1 + 3 by omega, up1_at', if_pos hp]
    rfl
  · rw [hf7, show d + 5 = d + 1 + 4 by omega, up1_at', if_pos hp]
    rfl
