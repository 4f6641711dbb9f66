/-! a new wish -/
theorem bk_X10_init_0 {σ : St} {f : FI} {g : FL} {a : Nat} {x1 : Int} {x2 : Nat} {x3 : Nat} {r : St × List Vl} {c2 : Nat} (hs2 : Sh9 σ x2 c2) (h : (∀ (σ3 : St), σ3 = (wR σ a 1 (some x2)) → (∀ (σ6 : St), σ6 = (wR σ3 a 2 (some x3)) → (∀ (q15 : Nat) (σ12 : St) (f13 : FI) (g14 : FL), q15 = nx σ6 → σ12 = (mk σ6 14 8 8) → f13 = up1 (up2 f a 0 x1) q15 (fun _ => 0) → g14 = up1 g q15 (fun _ => 0) → (∀ (σ18 : St), σ18 = (wR σ12 a 3 (some q15)) → (r = ((il σ18 f13 g14), []))))))) : Ex mt 0 131 (il σ f g) [vR 10 (some a), vI x1, vR 9 (some x2), vR 15 (some x3)] r := Ex.mk mt_131 (show Gx mt 0 cd_X10_init (il σ f g) b_X10_init_0 [some (vR 10 (some a)), some (vI x1), some (vR 9 (some x2)), some (vR 15 (some x3))] [] r from (go_loadA rfl (go_oinit rfl (go_loadA rfl (go_loadI rfl (gi_putI (go_loadA rfl (go_loadA rfl (gi_putR (Gx.letS (fun σ3 e2 => have h1 := h σ3 e2; (go_loadA rfl (go_loadA rfl (gi_putR (Gx.letS (fun σ6 e5 => have h4 := h1 σ6 e5; (go_loadA rfl (go_pushI rfl (gi_newa ⟨by decide, by decide⟩ (Gx.letM (fun q15 σ12 f13 g14 e8 e9 e10 e11 => have h7 := h4 q15 σ12 f13 g14 e8 e9 e10 e11; (gi_putR (Gx.letS (fun σ18 e17 => have h16 := h7 σ18 e17; (h16 ▸ gq_retV)))))))))))))))))))))))))
theorem bk_X11_wish_0 {σ : St} {f : FI} {g : FL} {a : Nat} {x1 : Int} {r : St × List Vl} (hs : Sh11 σ a) (h : ((12 ≤ (f a 3) → (r = ((il σ f g), [vI (-1)]))) ∧ (¬ 12 ≤ (f a 3) → ((((0 ≤ x1 ∧ x1 ≤ 3)) → (∃ (σ10 : St) (f7 : FI) (g8 : FL) (v11 : Int), Ex mt 5 50 (il σ f g) [vR 4 (some (a + 5)), vR 14 (some (a + 1)), vI (f a 1)] ((il σ10 f7 g8), [vI v11]) ∧ ((v11 = 0 → (Sh11 σ10 a) ∧ (∃ (σ18 : St) (f15 : FI) (g16 : FL) (q19 : Nat), Ex mt 1 130 (il σ10 (up2 f7 a 1 0) g8) [vR 9 (some (a + 6))] ((il σ18 f15 g16), [vR 9 (some q19)]) ∧ (Sh11 σ18 a ∧ Sh11 (mk σ18 10 0 5) a) ∧ (∃ (σ23 : St) (f20 : FI) (g21 : FL) (q24 : Nat), Ex mt 6 18 (il (mk σ18 10 0 5) (up1 f15 (nx σ18) (fun _ => 0)) (up1 g16 (nx σ18) (fun _ => 0))) [vR 2 (some (a + 13)), vR 9 (some q19)] ((il σ23 f20 g21), [vR 15 (some q24)]) ∧ (∃ (σ28 : St) (f25 : FI) (g26 : FL), Ex mt 0 131 (il σ23 f20 g21) [vR 10 (some (nx σ18)), vI x1, vR 9 (some q19), vR 15 (some q24)] ((il σ28 f25 g26), []) ∧ ((0 ≤ (f15 a 3) ∧ (f15 a 3) < (ln σ28 (a + 2) : Int)) ∧ (-2147483648 ≤ ((f25 a 3) + 1) ∧ ((f25 a 3) + 1) ≤ 2147483647) ∧ (-2147483648 ≤ (((f25 a 3) + 1) - 1) ∧ (((f25 a 3) + 1) - 1) ≤ 2147483647)) ∧ (r = ((il (wR σ28 (a + 2) (((f15 a 3)).toNat) (some (nx σ18))) (up2 f25 a 3 ((f25 a 3) + 1)) g26), [vI (((f25 a 3) + 1) - 1)])))))) ∧ (¬ v11 = 0 → ((-2147483648 ≤ ((-2) - v11) ∧ ((-2) - v11) ≤ 2147483647)) ∧ (r = ((il σ10 (up2 f7 a 1 0) g8), [vI ((-2) - v11)])))))) ∧ (¬ ((0 ≤ x1 ∧ x1 ≤ 3)) → (r = ((il σ f g), [vI (-1)]))))))) : Ex mt 7 144 (il σ f g) [vR 11 (some a), vI x1] r := Ex.mk mt_144 (show Gx mt 7 cd_X11_wish (il σ f g) b_X11_wish_0 [some (vR 11 (some a)), some (vI x1), none, none] [] r from (go_loadA rfl (gi_getI (go_pushI rfl (gq_icmp_ge (fun e3 => have h1 := h.1 e3; (go_pushI rfl (h1 ▸ gq_retI))) (fun e3 => have h2 := h.2 e3; (go_loadI rfl (go_pushI rfl (go_callS rfl rfl rfl (pu_upTo) (go_ifb_ne (fun e6 => have h4 := h2.1 e6; (go_loadA rfl (gi_getR (Sh11.r6 hs) (go_loadA rfl (gi_getR (Sh11.r0 hs) (go_loadA rfl (gi_getI (Exists.elim h4 fun σ10 w37 => Exists.elim w37 fun f7 w38 => Exists.elim w38 fun g8 w39 => Exists.elim w39 fun v11 h9 => (go_callV rfl rfl rfl h9.1 (go_stoI rfl rfl (go_loadA rfl (go_pushI rfl (gi_putI (go_loadI rfl (gq_if_eq (fun e14 => have h12 := h9.2.1 e14; (go_loadA rfl (gi_getR (Sh11.r6 h12.1) (gi_getR (Sh4w.r0 (Sh11.o6 h12.1)) (Exists.elim h12.2 fun σ18 w34 => Exists.elim w34 fun f15 w35 => Exists.elim w35 fun g16 w36 => Exists.elim w36 fun q19 h17 => (go_callV rfl rfl rfl h17.1 (go_stoA rfl rfl (go_loadA rfl (gi_getR (Sh11.r2 h17.2.1.1) (go_loadA rfl (gi_getI (gi_new (go_dupA (go_loadI rfl (go_loadA rfl (go_loadA rfl (gi_getR (Sh11.r7 h17.2.1.2) (go_loadA rfl (Exists.elim h17.2.2 fun σ23 w31 => Exists.elim w31 fun f20 w32 => Exists.elim w32 fun g21 w33 => Exists.elim w33 fun q24 h22 => (go_callV rfl rfl rfl h22.1 (Exists.elim h22.2 fun σ28 w29 => Exists.elim w29 fun f25 w30 => Exists.elim w30 fun g26 h27 => (go_callV rfl rfl rfl h27.1 (gi_aast h27.2.1.1 (go_loadA rfl (go_dupA (gi_getI (go_pushI rfl (go_iadd h27.2.1.2.1 (gi_putI (go_loadA rfl (gi_getIe u2_s (go_pushI rfl (go_isub h27.2.1.2.2 (h27.2.2 ▸ gq_retI)))))))))))))))))))))))))))))))))) (fun e14 => have h13 := h9.2.2 e14; (go_pushI rfl (go_loadI rfl (go_isub h13.1 (h13.2 ▸ gq_retI)))))))))))))))))))) (fun e6 => have h5 := h2.2 e6; (go_fall (go_pushI rfl (h5 ▸ gq_retI))))))))))))))
theorem x_init10 {σ : St} {f : FI} {g : FL} {a t md N : Nat} {x : Int} (ht : Sh9 σ t N) (ha : a < nx σ) : ∃ (σ' : St) (f' : FI) (g' : FL), Ex mt 0 131 (il σ f g) [vR 10 (some a), vI x, vR 9 (some t), vR 15 (some md)] (il σ' f' g', []) ∧ nx σ' = nx σ + 1 ∧ sl σ' = sl σ + 8 ∧ (gR σ' a 1 = some t ∧ gR σ' a 2 = some md ∧ gR σ' a 3 = some (nx σ) ∧ ln σ' (nx σ) = 8) ∧ (∀ c, c < nx σ → ln σ' c = ln σ c ∧ tg σ' c = tg σ c ∧ ∀ k, c ≠ a → gR σ' c k = gR σ c k) ∧ f' a 0 = x ∧ (∀ j, f' (nx σ) j = 0) ∧ (∀ c j, c < nx σ → ¬ (c = a ∧ j = 0) → f' c j = f c j) ∧ ∀ c, c < nx σ → g' c = g c := by
  refine ⟨wR (mk (wR (wR σ a 1 (some t)) a 2 (some md)) 14 8 8) a 3 (some (nx σ)), up1 (up2 f a 0 x) (nx σ) (fun _ => 0), up1 g (nx σ) (fun _ => 0), bk_X10_init_0 ht ?_, rfl, rfl, ⟨?_, ?_, ?_, ?_⟩, fun c hc => ⟨?_, ?_, fun k hk => ?_⟩, ?_, fun j => by rw [up1_at'], fun c j hc hcj => ?_, fun c hc => by rw [up1_ne' (by omega)]⟩
  · intro σ3 h3 σ6 h6 q15 σ12 f13 g14 h1 h2 h4 h5 σ18 h18
    subst h3 h6 h1 h2 h4 h5 h18
    rfl
  · rw [wR_gR, if_neg (by omega), mk_gR (by rw [wR_nx, wR_nx]; omega), wR_gR, if_neg (by omega), wR_gR, if_pos ⟨rfl, rfl⟩]
  · rw [wR_gR, if_neg (by omega), mk_gR (by rw [wR_nx, wR_nx]; omega), wR_gR, if_pos ⟨rfl, rfl⟩]
  · rw [wR_gR, if_pos ⟨rfl, rfl⟩]
  · rw [wR_ln, mk_ln, wR_nx, wR_nx, if_pos rfl]
  · rw [wR_ln, mk_ln, wR_nx, wR_nx, if_neg (by omega), wR_ln, wR_ln]
  · rw [wR_tg, mk_tg, wR_nx, wR_nx, if_neg (by omega), wR_tg, wR_tg]
  · rw [wR_gR, if_neg (fun z => hk z.1), mk_gR (by rw [wR_nx, wR_nx]; omega), wR_gR, if_neg (fun z => hk z.1), wR_gR, if_neg (fun z => hk z.1)]
  · rw [up1_ne' (by omega), u2_s]
  · rw [up1_ne' (by omega)]
    unfold up2
    rw [if_neg hcj]
theorem MkI.ext {σ σ' : St} {A : Nat} {wt : Nat → Nat} (h : MkI σ A wt) (e : Ext σ σ') (hA : A + 1 < nx σ) : MkI σ' A wt := fun j hj => by
  obtain ⟨h1, h2, h3, h4⟩ := h j hj
  exact ⟨((e.2 _ hA).2.2 j).trans h1, Nat.lt_of_lt_of_le h2 e.1, by rw [(e.2 _ h2).1]; exact h3, h4⟩
/-- what may change while a wish is made: the reader's text, the wishes, what waits in the maker -/
def ExW (B : Nat) (σ σ' : St) : Prop := nx σ ≤ nx σ' ∧ ∀ a, a < nx σ → ln σ' a = ln σ a ∧ tg σ' a = tg σ a ∧ ∀ k, ¬ (a = B + 5 ∧ k = 3) → a ≠ B + 2 → a ≠ B + 14 → gR σ' a k = gR σ a k
theorem ExW.trans {B : Nat} {σ σ1 σ2 : St} (h : ExW B σ σ1) (h2 : ExW B σ1 σ2) : ExW B σ σ2 := ⟨Nat.le_trans h.1 h2.1, fun a ha => by
  obtain ⟨a1, a2, a3⟩ := h.2 a ha
  obtain ⟨b1, b2, b3⟩ := h2.2 a (Nat.lt_of_lt_of_le ha h.1)
  exact ⟨b1.trans a1, b2.trans a2, fun k k1 k2 k3 => (b3 k k1 k2 k3).trans (a3 k k1 k2 k3)⟩⟩
theorem ExW.rfl' {B : Nat} {σ : St} : ExW B σ σ := ⟨Nat.le_refl _, fun _ _ => ⟨rfl, rfl, fun _ _ _ _ => rfl⟩⟩
theorem Ext.w {B : Nat} {σ σ' : St} (h : Ext σ σ') : ExW B σ σ' := ⟨h.1, fun a ha => ⟨(h.2 a ha).1, (h.2 a ha).2.1, fun k _ _ _ => (h.2 a ha).2.2 k⟩⟩
theorem ExM.w {B : Nat} {σ σ' : St} (h : ExM (B + 13 + 1) σ σ') : ExW B σ σ' := ⟨h.1, fun a ha => ⟨(h.2 a ha).1, (h.2 a ha).2.1, fun k _ _ k3 => (h.2 a ha).2.2 k (by omega)⟩⟩
theorem ExW.ks {σ σ' : St} {B : Nat} (h : ExW B σ σ') (hB : B + 220 ≤ nx σ) (hs : Sh5 σ (B + 43)) : KS B σ σ' := by
  refine ⟨fun a ha => (h.2 a (by omega)).1, fun a k ha _ h2 h3 h4 => (h.2 a (by omega)).2.2 k h3 h2 h4, ?_⟩
  rw [(h.2 (B + 144) (by omega)).2.2 9 (by omega) (by omega) (by omega), (h.2 (B + 144) (by omega)).2.2 10 (by omega) (by omega) (by omega)]
  exact hs.sw
theorem ExW.sh11 {σ σ' : St} {B : Nat} (h : ExW B σ σ') (hB : B + 220 ≤ nx σ) (hs : Sh11 σ B) : Sh11 σ' B := (h.ks hB hs.o10).sh11 hs
theorem ExW.stat {σ σ' : St} {f f' : FI} {B : Nat} (h : Stat σ f) (hl : Lo σ B) (e : ExW B σ σ') (hB : B < nx σ) (h0 : 0 < B) (ef : ∀ a, a < B → ∀ k, f' a k = f a k) : Stat σ' f' ∧ Lo σ' B := by
  have e0 : ∀ k, gR σ' 0 k = gR σ 0 k := fun k => (e.2 0 (by omega)).2.2 k (by omega) (by omega) (by omega)
  have s1 : stS σ' = stS σ := by unfold stS; rw [e0]
  have s2 : stG σ' = stG σ := by unfold stG; rw [e0]
  have s3 : ∀ a, stA σ' a = stA σ a := fun a => by unfold stA; rw [e0]
  refine ⟨?_, by unfold Lo at hl ⊢; rw [s1, s2]; exact hl⟩
  unfold Stat at h ⊢
  rw [s1, s2, s3, s3, (e.2 (stS σ) (Nat.lt_trans hl.1 hB)).1, (e.2 (stG σ) (Nat.lt_trans hl.2 hB)).1, ef _ hl.1, ef _ hl.1, ef _ hl.1, ef _ hl.1, ef _ hl.2, ef _ hl.2, ef _ hl.2, ef _ hl.2]
  exact h
