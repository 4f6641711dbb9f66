/-! a copy of the tree -/
theorem bk_X9_init_0 {σ : St} {f : FI} {g : FL} {a : Nat} {x1 : Int} {r : St × List Vl}  (h : ((0 ≤ (iMax x1 1) ∧ (iMax x1 1) ≤ 1000000)) ∧ (∀ (q9 : Nat) (σ6 : St) (f7 : FI) (g8 : FL), q9 = nx σ → σ6 = (mk σ 14 (((iMax x1 1)).toNat) (((iMax x1 1)).toNat)) → f7 = up1 f q9 (fun _ => 0) → g8 = up1 g q9 (fun _ => 0) → (∀ (σ12 : St), σ12 = (wR σ6 a 0 (some q9)) → ((0 ≤ (iMax x1 1) ∧ (iMax x1 1) ≤ 1000000)) ∧ (∀ (q21 : Nat) (σ18 : St) (f19 : FI) (g20 : FL), q21 = nx σ12 → σ18 = (mk σ12 14 (((iMax x1 1)).toNat) (((iMax x1 1)).toNat)) → f19 = up1 f7 q21 (fun _ => 0) → g20 = up1 g8 q21 (fun _ => 0) → (∀ (σ24 : St), σ24 = (wR σ18 a 1 (some q21)) → ((0 ≤ (iMax x1 1) ∧ (iMax x1 1) ≤ 1000000)) ∧ (∀ (q33 : Nat) (σ30 : St) (f31 : FI) (g32 : FL), q33 = nx σ24 → σ30 = (mk σ24 14 (((iMax x1 1)).toNat) (((iMax x1 1)).toNat)) → f31 = up1 f19 q33 (fun _ => 0) → g32 = up1 g20 q33 (fun _ => 0) → (∀ (σ36 : St), σ36 = (wR σ30 a 2 (some q33)) → (r = ((il σ36 f31 g32), []))))))))) : Ex mt 0 127 (il σ f g) [vR 9 (some a), vI x1] r := Ex.mk mt_127 (show Gx mt 0 cd_X9_init (il σ f g) b_X9_init_0 [some (vR 9 (some a)), some (vI x1), none] [] r from (go_loadA rfl (go_oinit rfl (go_loadI rfl (go_pushI rfl (go_max rfl (go_stoI rfl rfl (go_loadA rfl (go_loadI rfl (gi_newa h.1 (Gx.letM (fun q9 σ6 f7 g8 e2 e3 e4 e5 => have h1 := h.2 q9 σ6 f7 g8 e2 e3 e4 e5; (gi_putR (Gx.letS (fun σ12 e11 => have h10 := h1 σ12 e11; (go_loadA rfl (go_loadI rfl (gi_newa h10.1 (Gx.letM (fun q21 σ18 f19 g20 e14 e15 e16 e17 => have h13 := h10.2 q21 σ18 f19 g20 e14 e15 e16 e17; (gi_putR (Gx.letS (fun σ24 e23 => have h22 := h13 σ24 e23; (go_loadA rfl (go_loadI rfl (gi_newa h22.1 (Gx.letM (fun q33 σ30 f31 g32 e26 e27 e28 e29 => have h25 := h22.2 q33 σ30 f31 g32 e26 e27 e28 e29; (gi_putR (Gx.letS (fun σ36 e35 => have h34 := h25 σ36 e35; (h34 ▸ gq_retV))))))))))))))))))))))))))))))))
def A_X9_copied_14 (σ : St) (f : FI) (g : FL) (a : Nat) (x1 : Nat) (x2 : Int) (r : St × List Vl) : Prop := Gx mt 1 cd_X9_copied (il σ f g) (cd_X9_copied 14) [some (vR 9 (some a)), some (vR 9 (some x1)), some (vI x2)] [] r
theorem bk_X9_copied_0 {σ : St} {f : FI} {g : FL} {a : Nat} {r : St × List Vl} {c_a : Nat} (hs : Sh9 σ a c_a) (h : (∃ (σ4 : St) (f1 : FI) (g2 : FL), Ex mt 0 127 (il (mk σ 9 0 4) (up1 f (nx σ) (fun _ => 0)) (up1 g (nx σ) (fun _ => 0))) [vR 9 (some (nx σ)), vI ((up1 f (nx σ) (fun _ => 0)) a 3)] ((il σ4 f1 g2), []) ∧ (A_X9_copied_14 σ4 f1 g2 a (nx σ) 0 r))) : Ex mt 1 130 (il σ f g) [vR 9 (some a)] r := Ex.mk mt_130 (show Gx mt 1 cd_X9_copied (il σ f g) b_X9_copied_0 [some (vR 9 (some a)), none, none] [] r from (gi_new (go_dupA (go_loadA rfl (gi_getI (Exists.elim h fun σ4 w5 => Exists.elim w5 fun f1 w6 => Exists.elim w6 fun g2 h3 => (go_callV rfl rfl rfl h3.1 (go_stoA rfl rfl (go_pushI rfl (go_stoI rfl rfl (go_fall (h3.2))))))))))))
theorem bk_X9_copied_14 {σ : St} {f : FI} {g : FL} {a : Nat} {x1 : Nat} {x2 : Int} {r : St × List Vl} {c_a : Nat} (hs : Sh9 σ a c_a) {c1 : Nat} (hs1 : Sh9 σ x1 c1) (h : (((f a 3) ≤ x2 → (r = ((il σ f g), [vR 9 (some x1)]))) ∧ (¬ (f a 3) ≤ x2 → ((0 ≤ x2 ∧ x2 < (c_a : Int))) ∧ (∃ (f4 : FI) (g5 : FL) (v7 : Int), Ex mt 0 128 (il σ f g) [vR 9 (some x1), vI (f (a + 1) ((x2).toNat)), vI (f (a + 2) ((x2).toNat)), vI (f (a + 3) ((x2).toNat))] ((il σ f4 g5), [vI v7]) ∧ ((-2147483648 ≤ (x2 + 1) ∧ (x2 + 1) ≤ 2147483647)) ∧ (A_X9_copied_14 σ f4 g5 a x1 (x2 + 1) r))))) : A_X9_copied_14 σ f g a x1 x2 r := (show Gx mt 1 cd_X9_copied (il σ f g) b_X9_copied_14 [some (vR 9 (some a)), some (vR 9 (some x1)), some (vI x2)] [] r from (go_loadI rfl (go_loadA rfl (gi_getI (gq_icmp_ge (fun e3 => have h1 := h.1 e3; (go_loadA rfl (h1 ▸ gq_retA))) (fun e3 => have h2 := h.2 e3; (go_loadA rfl (go_loadA rfl (gi_getR (Sh9.r0 hs) (go_loadI rfl (gi_iald (inl_ (Sh9.l0 hs) h2.1) (go_loadA rfl (gi_getR (Sh9.r1 hs) (go_loadI rfl (gi_iald (inl_ (Sh9.l1 hs) h2.1) (go_loadA rfl (gi_getR (Sh9.r2 hs) (go_loadI rfl (gi_iald (inl_ (Sh9.l2 hs) h2.1) (Exists.elim h2.2 fun f4 w8 => Exists.elim w8 fun g5 w9 => Exists.elim w9 fun v7 h6 => (go_callV rfl rfl rfl h6.1 (go_popI (go_iinc rfl h6.2.1 rfl (go_goto (h6.2.2)))))))))))))))))))))))))
theorem x_init9 {σ : St} {f : FI} {g : FL} {a N : Nat} (hN : 1 ≤ N ∧ N ≤ 200) (ha : a < nx σ) : ∃ (σ' : St) (f' : FI) (g' : FL), Ex mt 0 127 (il σ f g) [vR 9 (some a), vI (N : Int)] (il σ' f' g', []) ∧ nx σ' = nx σ + 3 ∧ sl σ' = sl σ + 3 * N ∧ (gR σ' a 0 = some (nx σ) ∧ ln σ' (nx σ) = N ∧ gR σ' a 1 = some (nx σ + 1) ∧ ln σ' (nx σ + 1) = N ∧ gR σ' a 2 = some (nx σ + 2) ∧ ln σ' (nx σ + 2) = N) ∧ (∀ c, c < nx σ → ln σ' c = ln σ c ∧ tg σ' c = tg σ c ∧ ∀ k, c ≠ a → gR σ' c k = gR σ c k) ∧ ∀ c, c < nx σ → f' c = f c ∧ g' c = g c := by
  have im : (iMax (N : Int) 1).toNat = N ∧ 0 ≤ iMax (N : Int) 1 ∧ iMax (N : Int) 1 ≤ 1000000 := by
    unfold iMax
    split <;> omega
  refine ⟨wR (mk (wR (mk (wR (mk σ 14 N N) a 0 (some (nx σ))) 14 N N) a 1 (some (nx σ + 1))) 14 N N) a 2 (some (nx σ + 2)), up1 (up1 (up1 f (nx σ) (fun _ => 0)) (nx σ + 1) (fun _ => 0)) (nx σ + 2) (fun _ => 0), up1 (up1 (up1 g (nx σ) (fun _ => 0)) (nx σ + 1) (fun _ => 0)) (nx σ + 2) (fun _ => 0), bk_X9_init_0 ?_, rfl, ?_, ⟨?_, ?_, ?_, ?_, ?_, ?_⟩, fun c hc => ⟨?_, ?_, fun k hk => ?_⟩, fun c hc => ⟨?_, ?_⟩⟩
  · rw [im.1]
    refine ⟨im.2, fun q9 σ6 f7 g8 h1 h2 h3 h4 σ12 h5 => ⟨im.2, fun q21 σ18 f19 g20 k1 k2 k3 k4 σ24 k5 => ⟨im.2, fun q33 σ30 f31 g32 l1 l2 l3 l4 σ36 l5 => ?_⟩⟩⟩
    subst h1 h2 h3 h4 h5 k1 k2 k3 k4 k5 l1 l2 l3 l4 l5
    rfl
  · rw [wR_sl, mk_sl, wR_sl, mk_sl, wR_sl, mk_sl]
    omega
  · rw [wR_gR, if_neg (by omega), mk_gR (by rw [wR_nx, mk_nx, wR_nx, mk_nx]; omega), wR_gR, if_neg (by omega), mk_gR (by rw [wR_nx, mk_nx]; omega), wR_gR, if_pos ⟨rfl, rfl⟩]
  · rw [wR_ln, mk_ln, wR_nx, mk_nx, wR_nx, mk_nx, if_neg (by omega), wR_ln, mk_ln, wR_nx, mk_nx, if_neg (by omega), wR_ln, mk_ln, if_pos rfl]
  · rw [wR_gR, if_neg (by omega), mk_gR (by rw [wR_nx, mk_nx, wR_nx, mk_nx]; omega), wR_gR, if_pos ⟨rfl, rfl⟩]
  · rw [wR_ln, mk_ln, wR_nx, mk_nx, wR_nx, mk_nx, if_neg (by omega), wR_ln, mk_ln, wR_nx, mk_nx, if_pos rfl]
  · rw [wR_gR, if_pos ⟨rfl, rfl⟩]
  · rw [wR_ln, mk_ln, wR_nx, mk_nx, wR_nx, mk_nx, if_pos (by omega)]
  · rw [wR_ln, mk_ln, wR_nx, mk_nx, wR_nx, mk_nx, if_neg (by omega), wR_ln, mk_ln, wR_nx, mk_nx, if_neg (by omega), wR_ln, mk_ln, if_neg (by omega)]
  · rw [wR_tg, mk_tg, wR_nx, mk_nx, wR_nx, mk_nx, if_neg (by omega), wR_tg, mk_tg, wR_nx, mk_nx, if_neg (by omega), wR_tg, mk_tg, if_neg (by omega)]
  · rw [wR_gR, if_neg (fun z => hk z.1), mk_gR (by rw [wR_nx, mk_nx, wR_nx, mk_nx]; omega), wR_gR, if_neg (fun z => hk z.1), mk_gR (by rw [wR_nx, mk_nx]; omega), wR_gR, if_neg (fun z => hk z.1), mk_gR (by omega)]
  · rw [up1_ne' (by omega), up1_ne' (by omega), up1_ne' (by omega)]
  · rw [up1_ne' (by omega), up1_ne' (by omega), up1_ne' (by omega)]
theorem l_addN {σ : St} {f : FI} {g : FL} {b N C : Nat} {k l r : Int} (hs : Sh9 σ b C) (hC : C ≤ 200) (hN : N < C) (h3 : f b 3 = (N : Int)) : Ex mt 0 128 (il σ f g) [vR 9 (some b), vI k, vI l, vI r] (il σ (adC f b N k l r) g, [vI (N : Int)]) := by
  refine bk_X9_add_0 hs ?_
  rw [h3, show ((N : Int)).toNat = N from rfl, show (N : Int) + 1 = ((N + 1 : Nat) : Int) by omega, show ((N + 1 : Nat) : Int) - 1 = (N : Int) by omega]
  exact ⟨by omega, fun _ => ⟨⟨by omega, by omega, by omega⟩, rfl⟩, fun y => absurd (by omega) y⟩
theorem x_copied {σ : St} {f : FI} {g : FL} {b N : Nat} {K L R : FN} (hs : Sh9 σ b 200) (hb : b + 3 < nx σ) (hN : 1 ≤ N ∧ N ≤ 200) (h3 : f b 3 = (N : Int)) (hH : Hld f b N K L R) : ∃ (σ' : St) (f' : FI) (g' : FL), Ex mt 1 130 (il σ f g) [vR 9 (some b)] (il σ' f' g', [vR 9 (some (nx σ))]) ∧ Ext σ σ' ∧ nx σ' = nx σ + 4 ∧ sl σ' = sl σ + 4 + 3 * N ∧ Sh9 σ' (nx σ) N ∧ f' (nx σ) 3 = (N : Int) ∧ Hld f' (nx σ) N K L R ∧ ∀ c, c < nx σ → f' c = f c ∧ g' c = g c := by
  obtain ⟨σ1, f1, g1, E1, n1, s1, ⟨a0, a1, a2, a3, a4, a5⟩, keep, same⟩ := x_init9 (σ := mk σ 9 0 4) (f := up1 f (nx σ) (fun _ => 0)) (g := up1 g (nx σ) (fun _ => 0)) (a := nx σ) hN (by rw [mk_nx]; omega)
  rw [mk_nx] at n1 a0 a1 a2 a3 a4 a5 keep same
  rw [mk_sl] at s1
  have ext : Ext σ σ1 := ⟨by omega, fun c hc => by
    obtain ⟨k1, k2, k3⟩ := keep c (by omega)
    exact ⟨by rw [k1, mk_ln, if_neg (by omega)], by rw [k2, mk_tg, if_neg (by omega)], fun k => by rw [k3 k (by omega), mk_gR (by omega)]⟩⟩
  have sh : Sh9 σ1 (nx σ) N := ⟨a0, a1, a2, a3, a4, a5⟩
  have shb : Sh9 σ1 b 200 := ⟨((ext.2 b (by omega)).2.2 0).trans hs.1, (ext.2 _ (by omega)).1.trans hs.2.1, ((ext.2 b (by omega)).2.2 1).trans hs.2.2.1, (ext.2 _ (by omega)).1.trans hs.2.2.2.1, ((ext.2 b (by omega)).2.2 2).trans hs.2.2.2.2.1, (ext.2 _ (by omega)).1.trans hs.2.2.2.2.2⟩
  have f1o : ∀ c, c < nx σ → f1 c = f c ∧ g1 c = g c := fun c hc => by
    rw [(same c (by omega)).1, (same c (by omega)).2, up1_ne' (by omega), up1_ne' (by omega)]
    exact ⟨rfl, rfl⟩
  have f13 : f1 (nx σ) 3 = 0 := by rw [(same (nx σ) (by omega)).1, up1_at']
  have loop : ∀ u i : Nat, i + u = N → ∀ fi : FI, (∀ c, c < nx σ → fi c = f c) → fi (nx σ) 3 = (i : Int) → Hld fi (nx σ) i K L R → ∃ f' : FI, A_X9_copied_14 σ1 fi g1 b (nx σ) (i : Int) (il σ1 f' g1, [vR 9 (some (nx σ))]) ∧ (∀ c, c < nx σ → f' c = f c) ∧ f' (nx σ) 3 = (N : Int) ∧ Hld f' (nx σ) N K L R := by
    intro u
    induction u with
    | zero =>
      intro i hi fi hF h3i hHi
      obtain rfl : i = N := hi
      refine ⟨fi, bk_X9_copied_14 shb sh ⟨fun _ => rfl, fun y => absurd ?_ y⟩, hF, h3i, hHi⟩
      rw [hF b (by omega), h3]
      omega
    | succ u ih =>
      intro i hi fi hF h3i hHi
      obtain ⟨c1, c2, c3⟩ := hH i (by omega)
      have E := l_addN (g := g1) (k := K i) (l := L i) (r := R i) sh hN.2 (by omega) h3i
      obtain ⟨f', A, G1, G2, G3⟩ := ih (i + 1) (by omega) (adC fi (nx σ) i (K i) (L i) (R i)) (fun c hc => by
        rw [← hF c hc]
        exact funext fun j => adC_oth (by omega)) u2_s (fun j hj => by
        have := adC_h (k := K i) (l := L i) (r := R i) hHi j hj
        by_cases e : j = i
        · rw [e, upF_at, upF_at, upF_at] at this
          rw [e]
          exact this
        · rw [upF_ne e, upF_ne e, upF_ne e] at this
          exact this)
      refine ⟨f', bk_X9_copied_14 shb sh ⟨fun y => absurd y (by rw [hF b (by omega), h3]; omega), fun _ => ?_⟩, G1, G2, G3⟩
      rw [hF (b + 1) (by omega), hF (b + 2) (by omega), hF (b + 3) (by omega), show ((i : Int)).toNat = i from rfl, c1, c2, c3, show (i : Int) + 1 = ((i + 1 : Nat) : Int) by omega]
      exact ⟨by omega, _, g1, _, E, by omega, A⟩
  obtain ⟨f', A, G1, G2, G3⟩ := loop N 0 (by omega) f1 (fun c hc => (f1o c hc).1) f13 (fun i hi => absurd hi (Nat.not_lt_zero i))
  refine ⟨σ1, f', g1, bk_X9_copied_0 hs ⟨σ1, f1, g1, ?_, A⟩, ext, by omega, by omega, sh, G2, G3, fun c hc => ⟨G1 c hc, (f1o c hc).2⟩⟩
  rw [up1_ne' (by omega), h3]
  exact E1
