/-! the maker works a tree off -/
theorem bk_X2_pushEmpty_0 {σ : St} {f : FI} {g : FL} {a : Nat} {r : St × List Vl} (hs : Sh2 σ a) (h : (((f a 2) < 20 → ((0 ≤ (f a 2) ∧ (f a 2) < 20)) ∧ (∃ q4, gR σ (a + 1) (((f a 2)).toNat) = some q4 ∧ ((ln σ q4 : Int) < 2147483648) ∧ ((4096 ≤ (ln σ q4 : Int) → ((0 ≤ (f a 2) ∧ (f a 2) < 20)) ∧ (∃ q9, gR σ (a + 1) (((f a 2)).toNat) = some q9 ∧ (∃ (f11 : FI) (g12 : FL), Ex mt 0 314 (il σ f g) [vR 15 (some q9), vL (0#64)] ((il σ f11 g12), []) ∧ ((-2147483648 ≤ ((f11 a 2) + 1) ∧ ((f11 a 2) + 1) ≤ 2147483647)) ∧ (r = ((il σ (up2 f11 a 2 ((f11 a 2) + 1)) g12), [vI 1]))))) ∧ (¬ 4096 ≤ (ln σ q4 : Int) → ((0 ≤ (f a 2) ∧ (f a 2) < (ln (mk σ 15 4096 4096) (a + 1) : Int))) ∧ ((-2147483648 ≤ (((up1 f (nx σ) (fun _ => 0)) a 2) + 1) ∧ (((up1 f (nx σ) (fun _ => 0)) a 2) + 1) ≤ 2147483647)) ∧ (r = ((il (wR (mk σ 15 4096 4096) (a + 1) (((f a 2)).toNat) (some (nx σ))) (up2 (up1 f (nx σ) (fun _ => 0)) a 2 (((up1 f (nx σ) (fun _ => 0)) a 2) + 1)) (up1 g (nx σ) (fun _ => 0))), [vI 1])))))) ∧ (¬ (f a 2) < 20 → (r = ((il σ f g), [vI 0]))))) : Ex mt 1 20 (il σ f g) [vR 2 (some a)] r := Ex.mk mt_20 (show Gx mt 1 cd_X2_pushEmpty (il σ f g) b_X2_pushEmpty_0 [some (vR 2 (some a))] [] r from (go_loadA rfl (gi_getI (go_pushI rfl (gq_icmp_lt (fun e3 => have h1 := h.1 e3; (go_loadA rfl (gi_getR (Sh2.r0 hs) (go_loadA rfl (gi_getI (Exists.elim h1.2 fun q4 h5 => (gi_aald (inl_ (Sh2.l0 hs) h1.1) h5.1 (gi_alen h5.2.1 rfl (go_pushI rfl (gq_icmp_ge (fun e8 => have h6 := h5.2.2.1 e8; (go_loadA rfl (gi_getR (Sh2.r0 hs) (go_loadA rfl (gi_getI (Exists.elim h6.2 fun q9 h10 => (gi_aald (inl_ (Sh2.l0 hs) h6.1) h10.1 (go_pushL rfl (Exists.elim h10.2 fun f11 w14 => Exists.elim w14 fun g12 h13 => (go_callS rfl rfl rfl h13.1 (go_fall (go_loadA rfl (go_dupA (gi_getI (go_pushI rfl (go_iadd h13.2.1 (gi_putI (go_pushI rfl (h13.2.2 ▸ (gq_retZ ⟨by decide, by decide⟩)))))))))))))))))))) (fun e8 => have h7 := h5.2.2.2 e8; (go_loadA rfl (gi_getR (Sh2.r0 hs) (go_loadA rfl (gi_getI (go_pushI rfl (gi_newa ⟨by decide, by decide⟩ (gi_aast h7.1 (go_goto (go_loadA rfl (go_dupA (gi_getI (go_pushI rfl (go_iadd h7.2.1 (gi_putI (go_pushI rfl (h7.2.2 ▸ (gq_retZ ⟨by decide, by decide⟩)))))))))))))))))))))))))))) (fun e3 => have h2 := h.2 e3; (go_pushI rfl (h2 ▸ (gq_retZ ⟨by decide, by decide⟩)))))))))
theorem bk_X2_takeNode_0 {σ : St} {f : FI} {g : FL} {a : Nat} {x1 : Nat} {x2 : Int} {r : St × List Vl} (hs : Sh2 σ a) {c1 : Nat} (hs1 : Sh9 σ x1 c1) (h : ((0 ≤ x2 ∧ x2 < (c1 : Int))) ∧ ((¬ (f (x1 + 1) ((x2).toNat)) = 5 → (((f (x1 + 1) ((x2).toNat)) = 6 → (∃ (f7 : FI) (g8 : FL), Ex mt 4 21 (il σ f g) [vR 2 (some a), vI (f (x1 + 1) ((x2).toNat))] ((il σ f7 g8), []) ∧ (r = ((il σ f7 g8), [])))) ∧ (¬ (f (x1 + 1) ((x2).toNat)) = 6 → ((¬ (f (x1 + 1) ((x2).toNat)) = 7 → (∃ (σ17 : St) (f14 : FI) (g15 : FL) (v18 : Int), Ex mt 1 20 (il σ f g) [vR 2 (some a)] ((il σ17 f14 g15), [vI v18]) ∧ ((v18 = 0 → (r = ((il σ17 f14 g15), []))) ∧ (¬ v18 = 0 → (Sh2 σ17 a ∧ (-2147483648 ≤ ((f14 a 2) - 1) ∧ ((f14 a 2) - 1) ≤ 2147483647) ∧ (0 ≤ ((f14 a 2) - 1) ∧ ((f14 a 2) - 1) < 20)) ∧ (∃ q22, gR σ17 (a + 1) ((((f14 a 2) - 1)).toNat) = some q22 ∧ (Sh9 σ17 x1 c1 ∧ (0 ≤ x2 ∧ x2 < (c1 : Int))) ∧ (∃ (f24 : FI) (g25 : FL), Ex mt 1 22 (il σ17 f14 g15) [vR 15 (some q22), vI (f (x1 + 1) ((x2).toNat)), vI (f14 (x1 + 2) ((x2).toNat)), vI (f14 (x1 + 3) ((x2).toNat))] ((il σ17 f24 g25), []) ∧ (r = ((il σ17 f24 g25), [])))))))) ∧ ((f (x1 + 1) ((x2).toNat)) = 7 → (∃ (f31 : FI) (g32 : FL), Ex mt 4 21 (il σ f g) [vR 2 (some a), vI (f (x1 + 1) ((x2).toNat))] ((il σ f31 g32), []) ∧ (r = ((il σ f31 g32), [])))))))) ∧ ((f (x1 + 1) ((x2).toNat)) = 5 → (((f a 2) ≤ 0 → (r = ((il σ f g), []))) ∧ (¬ (f a 2) ≤ 0 → ((0 ≤ x2 ∧ x2 < (c1 : Int)) ∧ (0 ≤ (f (x1 + 2) ((x2).toNat)) ∧ (f (x1 + 2) ((x2).toNat)) < (c1 : Int))) ∧ (((f (x1 + 1) (((f (x1 + 2) ((x2).toNat))).toNat)) = 5 → (r = ((il σ f g), []))) ∧ (¬ (f (x1 + 1) (((f (x1 + 2) ((x2).toNat))).toNat)) = 5 → ((-2147483648 ≤ ((f a 2) - 1) ∧ ((f a 2) - 1) ≤ 2147483647) ∧ (0 ≤ ((f a 2) - 1) ∧ ((f a 2) - 1) < 20)) ∧ (∃ q41, gR σ (a + 1) ((((f a 2) - 1)).toNat) = some q41 ∧ (∃ (f43 : FI) (g44 : FL), Ex mt 2 27 (il σ f g) [vR 2 (some a), vR 15 (some q41)] ((il σ f43 g44), []) ∧ (r = ((il σ f43 g44), []))))))))))) : Ex mt 5 19 (il σ f g) [vR 2 (some a), vR 9 (some x1), vI x2] r := Ex.mk mt_19 (show Gx mt 5 cd_X2_takeNode (il σ f g) b_X2_takeNode_0 [some (vR 2 (some a)), some (vR 9 (some x1)), some (vI x2), none] [] r from (go_loadA rfl (gi_getR (Sh9.r0 hs1) (go_loadI rfl (gi_iald (inl_ (Sh9.l0 hs1) h.1) (go_stoI rfl rfl (go_loadI rfl (go_pushI rfl (gq_icmp_ne (fun e3 => have h1 := h.2.1 e3; (go_loadI rfl (go_pushI rfl (gq_icmp_eq (fun e6 => have h4 := h1.1 e6; (go_loadA rfl (go_loadI rfl (Exists.elim h4 fun f7 w10 => Exists.elim w10 fun g8 h9 => (go_callV rfl rfl rfl h9.1 (go_goto (h9.2 ▸ gq_retV))))))) (fun e6 => have h5 := h1.2 e6; (go_loadI rfl (go_pushI rfl (gq_icmp_ne (fun e13 => have h11 := h5.1 e13; (go_loadA rfl (Exists.elim h11 fun σ17 w28 => Exists.elim w28 fun f14 w29 => Exists.elim w29 fun g15 w30 => Exists.elim w30 fun v18 h16 => (go_callV rfl rfl rfl h16.1 (gq_if_eq (fun e21 => have h19 := h16.2.1 e21; (h19 ▸ gq_retV)) (fun e21 => have h20 := h16.2.2 e21; (go_loadA rfl (gi_getR (Sh2.r0 h20.1.1) (go_loadA rfl (gi_getI (go_pushI rfl (go_isub h20.1.2.1 (Exists.elim h20.2 fun q22 h23 => (gi_aald (inl_ (Sh2.l0 h20.1.1) h20.1.2.2) h23.1 (go_loadI rfl (go_loadA rfl (gi_getR (Sh9.r1 h23.2.1.1) (go_loadI rfl (gi_iald (inl_ (Sh9.l1 h23.2.1.1) h23.2.1.2) (go_loadA rfl (gi_getR (Sh9.r2 h23.2.1.1) (go_loadI rfl (gi_iald (inl_ (Sh9.l2 h23.2.1.1) h23.2.1.2) (Exists.elim h23.2.2 fun f24 w27 => Exists.elim w27 fun g25 h26 => (go_callS rfl rfl rfl h26.1 (go_fall (h26.2 ▸ gq_retV))))))))))))))))))))))))))) (fun e13 => have h12 := h5.2 e13; (go_fall (go_loadA rfl (go_loadI rfl (Exists.elim h12 fun f31 w34 => Exists.elim w34 fun g32 h33 => (go_callV rfl rfl rfl h33.1 (go_goto (h33.2 ▸ gq_retV)))))))))))))))) (fun e3 => have h2 := h.2.2 e3; (go_loadA rfl (gi_getI (gq_if_le (fun e37 => have h35 := h2.1 e37; (h35 ▸ gq_retV)) (fun e37 => have h36 := h2.2 e37; (go_loadA rfl (gi_getR (Sh9.r0 hs1) (go_loadA rfl (gi_getR (Sh9.r1 hs1) (go_loadI rfl (gi_iald (inl_ (Sh9.l1 hs1) h36.1.1) (gi_iald (inl_ (Sh9.l0 hs1) h36.1.2) (go_pushI rfl (gq_icmp_eq (fun e40 => have h38 := h36.2.1 e40; (h38 ▸ gq_retV)) (fun e40 => have h39 := h36.2.2 e40; (go_loadA rfl (go_loadA rfl (gi_getR (Sh2.r0 hs) (go_loadA rfl (gi_getI (go_pushI rfl (go_isub h39.1.1 (Exists.elim h39.2 fun q41 h42 => (gi_aald (inl_ (Sh2.l0 hs) h39.1.2) h42.1 (Exists.elim h42.2 fun f43 w46 => Exists.elim w46 fun g44 h45 => (go_callV rfl rfl rfl h45.1 (go_goto (h45.2 ▸ gq_retV)))))))))))))))))))))))))))))))))))))
def A_X2_relationOf_7 (σ : St) (f : FI) (g : FL) (a : Nat) (x1 : Nat) (x2 : Int) (r : St × List Vl) : Prop := Gx mt 6 cd_X2_relationOf (il σ f g) (cd_X2_relationOf 7) [some (vR 2 (some a)), some (vR 9 (some x1)), some (vI x2)] [] r
theorem bk_X2_relationOf_0 {σ : St} {f : FI} {g : FL} {a : Nat} {x1 : Nat} {r : St × List Vl} (hs : Sh2 σ a) {c1 : Nat} (hs1 : Sh9 σ x1 c1) (h : (A_X2_relationOf_7 σ (up2 f a 2 0) g a x1 0 r)) : Ex mt 6 18 (il σ f g) [vR 2 (some a), vR 9 (some x1)] r := Ex.mk mt_18 (show Gx mt 6 cd_X2_relationOf (il σ f g) b_X2_relationOf_0 [some (vR 2 (some a)), some (vR 9 (some x1)), none] [] r from (go_loadA rfl (go_pushI rfl (gi_putI (go_pushI rfl (go_stoI rfl rfl (go_fall (h))))))))
theorem bk_X2_relationOf_7 {σ : St} {f : FI} {g : FL} {a : Nat} {x1 : Nat} {x2 : Int} {r : St × List Vl} (hs : Sh2 σ a) {c1 : Nat} (hs1 : Sh9 σ x1 c1) (h : (((f x1 3) ≤ x2 → ((¬ (f a 2) = 0 → (∃ q7, gR σ (a + 1) 0 = some q7 ∧ (((0 : Int) ≤ 0 ∧ 0 < (ln (mk σ 15 0 0) (a + 1) : Int))) ∧ (r = ((il (wR (mk σ 15 0 0) (a + 1) 0 (some (nx σ))) (up1 f (nx σ) (fun _ => 0)) (up1 g (nx σ) (fun _ => 0))), [vR 15 (some q7)])))) ∧ ((f a 2) = 0 → (∃ (σ12 : St) (f9 : FI) (g10 : FL) (v13 : Int), Ex mt 1 20 (il σ f g) [vR 2 (some a)] ((il σ12 f9 g10), [vI v13]) ∧ (Sh2 σ12 a) ∧ (∃ q14, gR σ12 (a + 1) 0 = some q14 ∧ (((0 : Int) ≤ 0 ∧ 0 < (ln (mk σ12 15 0 0) (a + 1) : Int))) ∧ (r = ((il (wR (mk σ12 15 0 0) (a + 1) 0 (some (nx σ12))) (up1 f9 (nx σ12) (fun _ => 0)) (up1 g10 (nx σ12) (fun _ => 0))), [vR 15 (some q14)]))))))) ∧ (¬ (f x1 3) ≤ x2 → (∃ (σ22 : St) (f19 : FI) (g20 : FL), Ex mt 5 19 (il σ f g) [vR 2 (some a), vR 9 (some x1), vI x2] ((il σ22 f19 g20), []) ∧ ((-2147483648 ≤ (x2 + 1) ∧ (x2 + 1) ≤ 2147483647)) ∧ (A_X2_relationOf_7 σ22 f19 g20 a x1 (x2 + 1) r))))) : A_X2_relationOf_7 σ f g a x1 x2 r := (show Gx mt 6 cd_X2_relationOf (il σ f g) b_X2_relationOf_7 [some (vR 2 (some a)), some (vR 9 (some x1)), some (vI x2)] [] r from (go_loadI rfl (go_loadA rfl (gi_getI (gq_icmp_ge (fun e3 => have h1 := h.1 e3; (go_loadA rfl (gi_getI (gq_if_ne (fun e6 => have h4 := h1.1 e6; (go_loadA rfl (gi_getR (Sh2.r0 hs) (go_pushI rfl (Exists.elim h4 fun q7 h8 => (gi_aald (inl_ (Sh2.l0 hs) (by decide)) h8.1 (go_stoA rfl rfl (go_loadA rfl (gi_getR (Sh2.r0 hs) (go_pushI rfl (go_pushI rfl (gi_newa ⟨by decide, by decide⟩ (gi_aast h8.2.1 (go_loadA rfl (h8.2.2 ▸ gq_retA))))))))))))))) (fun e6 => have h5 := h1.2 e6; (go_loadA rfl (Exists.elim h5 fun σ12 w16 => Exists.elim w16 fun f9 w17 => Exists.elim w17 fun g10 w18 => Exists.elim w18 fun v13 h11 => (go_callV rfl rfl rfl h11.1 (go_popI (go_fall (go_loadA rfl (gi_getR (Sh2.r0 h11.2.1) (go_pushI rfl (Exists.elim h11.2.2 fun q14 h15 => (gi_aald (inl_ (Sh2.l0 h11.2.1) (by decide)) h15.1 (go_stoA rfl rfl (go_loadA rfl (gi_getR (Sh2.r0 h11.2.1) (go_pushI rfl (go_pushI rfl (gi_newa ⟨by decide, by decide⟩ (gi_aast h15.2.1 (go_loadA rfl (h15.2.2 ▸ gq_retA)))))))))))))))))))))))) (fun e3 => have h2 := h.2 e3; (go_loadA rfl (go_loadA rfl (go_loadI rfl (Exists.elim h2 fun σ22 w23 => Exists.elim w23 fun f19 w24 => Exists.elim w24 fun g20 h21 => (go_callV rfl rfl rfl h21.1 (go_iinc rfl h21.2.1 rfl (go_goto (h21.2.2))))))))))))))
/-- all is as it was, but the references of one cell, and what is new -/
def ExM (c : Nat) (σ σ' : St) : Prop := nx σ ≤ nx σ' ∧ ∀ a, a < nx σ → ln σ' a = ln σ a ∧ tg σ' a = tg σ a ∧ ∀ k, a ≠ c → gR σ' a k = gR σ a k
theorem ExM.rfl' {c : Nat} {σ : St} : ExM c σ σ := ⟨Nat.le_refl _, fun _ _ => ⟨rfl, rfl, fun _ _ => rfl⟩⟩
theorem ExM.trans {c : Nat} {σ σ1 σ2 : St} (h : ExM c σ σ1) (h2 : ExM c σ1 σ2) : ExM c σ σ2 := ⟨Nat.le_trans h.1 h2.1, fun a ha => by
  obtain ⟨a1, a2, a3⟩ := h.2 a ha
  obtain ⟨b1, b2, b3⟩ := h2.2 a (Nat.lt_of_lt_of_le ha h.1)
  exact ⟨b1.trans a1, b2.trans a2, fun k hc => (b3 k hc).trans (a3 k hc)⟩⟩
theorem ExM.new {c : Nat} (σ : St) (t n s k : Nat) (v : Option Nat) : ExM c σ (wR (mk σ t n s) c k v) := ⟨by rw [wR_nx, mk_nx]; omega, fun a ha => ⟨by rw [wR_ln, mk_ln, if_neg (by omega)], by rw [wR_tg, mk_tg, if_neg (by omega)], fun j hc => by rw [wR_gR, if_neg (fun z => hc z.1), mk_gR (by omega)]⟩⟩
theorem ExM.sh2 {σ σ' : St} {A : Nat} (h : ExM (A + 1) σ σ') (hA : A + 22 < nx σ) (hs : Sh2 σ A) : Sh2 σ' A := ⟨((h.2 A (by omega)).2.2 0 (by omega)).trans hs.1, (h.2 _ (by omega)).1.trans hs.2.1, ((h.2 A (by omega)).2.2 1 (by omega)).trans hs.2.2.1, (h.2 _ hA).1.trans hs.2.2.2⟩
theorem ExM.sh9 {σ σ' : St} {c t N : Nat} (h : ExM c σ σ') (hc : t ≠ c) (ht : t + 3 < nx σ) (hs : Sh9 σ t N) : Sh9 σ' t N := ⟨((h.2 t (by omega)).2.2 0 hc).trans hs.1, (h.2 _ (by omega)).1.trans hs.2.1, ((h.2 t (by omega)).2.2 1 hc).trans hs.2.2.1, (h.2 _ (by omega)).1.trans hs.2.2.2.1, ((h.2 t (by omega)).2.2 2 hc).trans hs.2.2.2.2.1, (h.2 _ (by omega)).1.trans hs.2.2.2.2.2⟩
theorem ExM.stat {σ σ' : St} {f f' : FI} {B c : Nat} (h : Stat σ f) (hl : Lo σ B) (e : ExM c σ σ') (hc : c ≠ 0) (hB : B < nx σ) (ef : ∀ a, a < B → ∀ k, f' a k = f a k) : Stat σ' f' ∧ Lo σ' B := by
  have e0 : ∀ k, gR σ' 0 k = gR σ 0 k := fun k => (e.2 0 (by omega)).2.2 k (fun z => hc z.symm)
  have s1 : stS σ' = stS σ := by unfold stS; rw [e0]
  have s2 : stG σ' = stG σ := by unfold stG; rw [e0]
  have s3 : ∀ a, stA σ' a = stA σ a := fun a => by unfold stA; rw [e0]
  refine ⟨?_, by unfold Lo at hl ⊢; rw [s1, s2]; exact hl⟩
  unfold Stat at h ⊢
  rw [s1, s2, s3, s3, (e.2 (stS σ) (Nat.lt_trans hl.1 hB)).1, (e.2 (stG σ) (Nat.lt_trans hl.2 hB)).1, ef _ hl.1, ef _ hl.1, ef _ hl.1, ef _ hl.1, ef _ hl.2, ef _ hl.2, ef _ hl.2, ef _ hl.2]
  exact h
/-- what waits in the maker -/
def MkI (σ : St) (A : Nat) (wt : Nat → Nat) : Prop := ∀ j, j < 20 → gR σ (A + 1) j = some (wt j) ∧ wt j < nx σ ∧ (ln σ (wt j) = 0 ∨ (ln σ (wt j) = 4096 ∧ A + 22 < wt j)) ∧ ∀ i, i < 20 → i ≠ j → wt i ≠ wt j
def ups (wt : Nat → Nat) (u v : Nat) : Nat → Nat := fun j => if j = u then v else wt j
theorem ups_at {wt : Nat → Nat} {u v : Nat} : ups wt u v u = v := if_pos rfl
theorem ups_ne {wt : Nat → Nat} {u v j : Nat} (h : j ≠ u) : ups wt u v j = wt j := if_neg h
theorem MkI.new {σ : St} {A : Nat} {wt : Nat → Nat} (h : MkI σ A wt) (hA : A + 22 < nx σ) {u n s : Nat} (hu : u < 20) (hn : n = 0 ∨ n = 4096) : MkI (wR (mk σ 15 n s) (A + 1) u (some (nx σ))) A (ups wt u (nx σ)) := by
  intro j hj
  obtain ⟨a1, a2, a3, a4⟩ := h j hj
  by_cases e : j = u
  · subst e
    refine ⟨by rw [wR_gR, if_pos ⟨rfl, rfl⟩, ups_at], by rw [ups_at, wR_nx, mk_nx]; omega, ?_, fun i hi hij => ?_⟩
    · rw [ups_at, wR_ln, mk_ln, if_pos rfl]
      omega
    · rw [ups_at, ups_ne hij]
      have := (h i hi).2.1
      omega
  · refine ⟨by rw [wR_gR, if_neg (fun z => e z.2), mk_gR (by omega), ups_ne e]; exact a1, by rw [ups_ne e, wR_nx, mk_nx]; omega, ?_, fun i hi hij => ?_⟩
    · rw [ups_ne e, wR_ln, mk_ln, if_neg (by omega)]
      exact a3
    · rw [ups_ne e]
      by_cases e2 : i = u
      · rw [e2, ups_at]
        omega
      · rw [ups_ne e2]
        exact a4 i hi hij
theorem x_pushEmpty {σ : St} {f : FI} {g : FL} {A u : Nat} {wt : Nat → Nat} (hs : Sh2 σ A) (hM : MkI σ A wt) (hA : A + 22 < nx σ) (hu : f A 2 = (u : Int)) (h20 : u < 20) : ∃ (σ' : St) (f' : FI) (g' : FL) (wt' : Nat → Nat), Ex mt 1 20 (il σ f g) [vR 2 (some A)] (il σ' f' g', [vI 1]) ∧ ExM (A + 1) σ σ' ∧ MkI σ' A wt' ∧ f' A 2 = ((u + 1 : Nat) : Int) ∧ (∀ k, k < 4096 → g' (wt' u) k = 0#64) ∧ ln σ' (wt' u) = 4096 ∧ (∀ j, j ≠ u → wt' j = wt j) ∧ ((ln σ (wt u) = 4096 ∧ σ' = σ ∧ wt' = wt) ∨ (nx σ' = nx σ + 1 ∧ sl σ' = sl σ + 4096 ∧ wt' u = nx σ ∧ ¬ ln σ (wt u) = 4096)) ∧ (∀ c j, c < nx σ → ¬ (c = A ∧ j = 2) → f' c j = f c j) ∧ ∀ c, c < nx σ → c ≠ wt' u → g' c = g c := by
  obtain ⟨m1, m2, m3, m4⟩ := hM u h20
  by_cases z : ln σ (wt u) = 4096
  · have E := x_fillL (σ := σ) (f := f) (g := g) (w := wt u) (n := 4096) (v := 0#64) z (by omega)
    refine ⟨σ, up2 f A 2 ((u : Int) + 1), up1 g (wt u) (fun k => if k < 4096 then 0#64 else g (wt u) k), wt, bk_X2_pushEmpty_0 hs ⟨fun _ => ?_, fun y => absurd (by omega) y⟩, ExM.rfl', hM, by rw [u2_s]; rfl, fun k hk => by rw [up1_at', if_pos hk], z, fun _ _ => rfl, Or.inl ⟨z, rfl, rfl⟩, fun c j hc hcj => ?_, fun c hc hne => by rw [up1_ne' hne]⟩
    · rw [hu, show ((u : Int)).toNat = u from rfl]
      refine ⟨by omega, wt u, m1, by rw [z]; omega, fun _ => ⟨by omega, wt u, m1, f, _, E, by rw [hu]; omega, ?_⟩, fun y => absurd (by rw [z]; decide) y⟩
      rw [hu]
    · unfold up2
      rw [if_neg hcj]
  · have z0 : ln σ (wt u) = 0 := by omega
    refine ⟨wR (mk σ 15 4096 4096) (A + 1) u (some (nx σ)), up2 (up1 f (nx σ) (fun _ => 0)) A 2 ((u : Int) + 1), up1 g (nx σ) (fun _ => 0), ups wt u (nx σ), bk_X2_pushEmpty_0 hs ⟨fun _ => ?_, fun y => absurd (by omega) y⟩, ExM.new σ 15 4096 4096 u _, hM.new hA h20 (Or.inr rfl), by rw [u2_s]; rfl, fun k hk => by rw [ups_at, up1_at']; rfl, by rw [ups_at, wR_ln, mk_ln, if_pos rfl], fun j hj => ups_ne hj, Or.inr ⟨by rw [wR_nx, mk_nx], by rw [wR_sl, mk_sl], ups_at, z⟩, fun c j hc hcj => ?_, fun c hc hne => by rw [up1_ne' (by omega)]⟩
    · have e : (up1 f (nx σ) (fun _ => 0) : FI) A 2 = (u : Int) := by rw [up1_ne' (by omega)]; exact hu
      rw [hu, show ((u : Int)).toNat = u from rfl, e]
      exact ⟨by omega, wt u, m1, by rw [z0]; omega, fun y => absurd y (by rw [z0]; decide), fun _ => ⟨by rw [mk_ln, if_neg (by omega), hs.2.1]; omega, by omega, rfl⟩⟩
    · unfold up2
      rw [if_neg hcj, up1_ne' (by omega)]
def Cmp2 (R S : Nat → Nat → Prop) (p q : Nat) : Prop := ∃ m, m < 512 ∧ R p m ∧ S m q
def Uni2 (R S : Nat → Nat → Prop) (p q : Nat) : Prop := R p q ∨ S p q
/-- the relations that wait when so many nodes are worked off -/
def ev (K L R : FN) : Nat → Nat × (Nat → Nat → Nat → Prop)
  | 0 => (0, fun _ _ _ => False)
  | i + 1 => if K i = 5 then ((ev K L R i).1, fun j => if j + 1 = (ev K L R i).1 then Clr ((ev K L R i).2 j) else (ev K L R i).2 j) else if K i = 6 then ((ev K L R i).1 - 1, fun j => if j + 2 = (ev K L R i).1 then Cmp2 ((ev K L R i).2 j) ((ev K L R i).2 (j + 1)) else (ev K L R i).2 j) else if K i = 7 then ((ev K L R i).1 - 1, fun j => if j + 2 = (ev K L R i).1 then Uni2 ((ev K L R i).2 j) ((ev K L R i).2 (j + 1)) else (ev K L R i).2 j) else ((ev K L R i).1 + 1, fun j => if j = (ev K L R i).1 then At (K i) (L i) (R i) else (ev K L R i).2 j)
theorem ev_5 {K L R : FN} {i : Nat} (h : K i = 5) : ev K L R (i + 1) = ((ev K L R i).1, fun j => if j + 1 = (ev K L R i).1 then Clr ((ev K L R i).2 j) else (ev K L R i).2 j) := by
  rw [ev, if_pos h]
theorem ev_6 {K L R : FN} {i : Nat} (h : K i = 6) : ev K L R (i + 1) = ((ev K L R i).1 - 1, fun j => if j + 2 = (ev K L R i).1 then Cmp2 ((ev K L R i).2 j) ((ev K L R i).2 (j + 1)) else (ev K L R i).2 j) := by
  rw [ev, if_neg (by omega), if_pos h]
theorem ev_7 {K L R : FN} {i : Nat} (h : K i = 7) : ev K L R (i + 1) = ((ev K L R i).1 - 1, fun j => if j + 2 = (ev K L R i).1 then Uni2 ((ev K L R i).2 j) ((ev K L R i).2 (j + 1)) else (ev K L R i).2 j) := by
  rw [ev, if_neg (by omega), if_neg (by omega), if_pos h]
theorem ev_a {K L R : FN} {i : Nat} (h : K i ≤ 4) : ev K L R (i + 1) = ((ev K L R i).1 + 1, fun j => if j = (ev K L R i).1 then At (K i) (L i) (R i) else (ev K L R i).2 j) := by
  rw [ev, if_neg (by omega), if_neg (by omega), if_neg (by omega)]
/-- the nodes stand so that they can be worked off one behind the other -/
def Pf (K L R : FN) (N : Nat) : Prop := ∀ i, i < N → (K i ≤ 4 → (ev K L R i).1 < 20) ∧ (K i = 5 → 1 ≤ (ev K L R i).1 ∧ 1 ≤ i ∧ L i = ((i - 1 : Nat) : Int)) ∧ (K i = 6 ∨ K i = 7 → 2 ≤ (ev K L R i).1)
/-- the maker on its way -/
def CS (A : Nat) (K L R : FN) (σ0 : St) (f0 : FI) (g0 : FL) (wt0 : Nat → Nat) (i : Nat) (σ : St) (f : FI) (g : FL) (wt : Nat → Nat) (h : Nat) : Prop := (MkI σ A wt ∧ f A 2 = ((ev K L R i).1 : Int) ∧ (ev K L R i).1 ≤ h ∧ h ≤ 20 ∧ ∀ j, j < h → ln σ (wt j) = 4096) ∧ (ExM (A + 1) σ0 σ ∧ nx σ ≤ nx σ0 + h ∧ sl σ ≤ sl σ0 + 4096 * h) ∧ (∀ j, j < (ev K L R i).1 → Is (g (wt j)) ((ev K L R i).2 j)) ∧ (∀ c j, c < nx σ0 → ¬ (c = A ∧ j = 2) → f c j = f0 c j) ∧ (∀ c, c < nx σ0 → c ≠ A + 22 → (∀ j, j < 20 → wt0 j ≠ c) → g c = g0 c) ∧ ∀ j, j < 20 → wt j = wt0 j ∨ nx σ0 ≤ wt j
theorem x_takeNode {A t N i h B : Nat} {K L R : FN} {σ0 σ : St} {f0 f : FI} {g0 g : FL} {wt0 wt : Nat → Nat} (hs0 : Sh2 σ0 A) (ht0 : Sh9 σ0 t N) (hS0 : Stat σ0 f0) (hl0 : Lo σ0 B) (hBA : B ≤ A) (hA : A + 22 < nx σ0) (htn : t + 3 < nx σ0) (htA : A + 22 < t) (hH : Hld f0 t N K L R) (hw : Wf K L R N) (hp : Pf K L R N) (hi : i < N) (hC : CS A K L R σ0 f0 g0 wt0 i σ f g wt h) : ∃ (σ' : St) (f' : FI) (g' : FL) (wt' : Nat → Nat) (h' : Nat), Ex mt 5 19 (il σ f g) [vR 2 (some A), vR 9 (some t), vI (i : Int)] (il σ' f' g', []) ∧ CS A K L R σ0 f0 g0 wt0 (i + 1) σ' f' g' wt' h' := by
  obtain ⟨⟨c1, c2, c3, c4, c5⟩, ⟨d1, d2, d3⟩, cI, cf, cg, cw⟩ := hC
  have hs := d1.sh2 hA hs0
  have ht := d1.sh9 (by omega) htn ht0
  obtain ⟨hS, hl⟩ := ExM.stat hS0 hl0 d1 (by omega) (by omega) (fun a ha k => cf a k (by omega) (by omega))
  have kk : f (t + 1) ((i : Int)).toNat = K i := (cf _ _ (by omega) (by omega)).trans (hH i hi).1
  have kl : f (t + 2) ((i : Int)).toNat = L i := (cf _ _ (by omega) (by omega)).trans (hH i hi).2.1
  have kr : f (t + 3) ((i : Int)).toNat = R i := (cf _ _ (by omega) (by omega)).trans (hH i hi).2.2
  have hAσ : A + 22 < nx σ := Nat.lt_of_lt_of_le hA d1.1
  obtain ⟨p1, p2, p3⟩ := hp i hi
  have big : ∀ j, j < h → A + 22 < wt j := fun j hj => by
    rcases (c1 j (by omega)).2.2.1 with z | z
    · rw [c5 j hj] at z
      exact absurd z (by decide)
    · exact z.2
  -- what is changed among the words
  have keep : ∀ (g' : FL) (wt' : Nat → Nat) (u : Nat), u < 20 → (wt' u = wt0 u ∨ nx σ0 ≤ wt' u) → (∀ c, c < nx σ0 → c ≠ wt' u → c ≠ A + 22 → g' c = g c) → ∀ c, c < nx σ0 → c ≠ A + 22 → (∀ j, j < 20 → wt0 j ≠ c) → g' c = g0 c := fun g' wt' u hu hw' hg c hc h1 h2 => by
    rw [hg c hc (fun z => ?_) h1]
    · exact cg c hc h1 h2
    · rcases hw' with e | e
      · exact h2 u hu (by rw [z, e])
      · omega
  by_cases k5 : K i = 5
  · -- star
    obtain ⟨s1, s2, s3⟩ := p2 k5
    obtain ⟨u, hu⟩ : ∃ u, (ev K L R i).1 = u + 1 := ⟨(ev K L R i).1 - 1, by omega⟩
    have ll : f (t + 1) (((i - 1 : Nat) : Int)).toNat = K (i - 1) := (cf _ _ (by omega) (by omega)).trans (hH (i - 1) (by omega)).1
    have w5 := c5 u (by omega)
    have e5 := ev_5 (L := L) (R := R) k5
    by_cases k55 : K (i - 1) = 5
    · refine ⟨σ, f, g, wt, h, bk_X2_takeNode_0 hs ht ?_, ⟨c1, by rw [e5]; exact c2, by rw [e5]; exact c3, c4, c5⟩, ⟨d1, d2, d3⟩, fun j hj => ?_, cf, cg, cw⟩
      · rw [kk, kl, s3, ll]
        exact ⟨by omega, fun y => absurd k5 y, fun _ => ⟨fun y => absurd y (by rw [c2, hu]; omega), fun _ => ⟨⟨by omega, by omega⟩, fun _ => rfl, fun y => absurd k55 y⟩⟩⟩
      · rw [e5] at hj ⊢
        show Is _ (if j + 1 = (ev K L R i).1 then _ else _)
        by_cases e : j + 1 = (ev K L R i).1
        · rw [if_pos e]
          intro p q hp' hq'
          rw [cI j hj p q hp' hq']
          have eq : ∃ X, (ev K L R i).2 j = Clr X := by
            have e6 := ev_5 (L := L) (R := R) k55
            rw [show i - 1 + 1 = i by omega] at e6
            refine ⟨(ev K L R (i - 1)).2 j, ?_⟩
            have e7 : (ev K L R i).1 = (ev K L R (i - 1)).1 := by rw [e6]
            rw [e6]
            show (if j + 1 = (ev K L R (i - 1)).1 then _ else _) = _
            rw [if_pos (by omega)]
          obtain ⟨X, eX⟩ := eq
          rw [eX]
          exact (Clr.idem hp' hq').symm
        · rw [if_neg e]
          exact cI j hj
    · obtain ⟨g1, E1, F1, B1⟩ := x_close (σ := σ) (f := f) (g := g) (a := A) (c := wt u) hs w5 (by have := big u (by omega); omega)
      refine ⟨σ, f, g1, wt, h, bk_X2_takeNode_0 hs ht ?_, ⟨c1, by rw [e5]; exact c2, by rw [e5]; exact c3, c4, c5⟩, ⟨d1, d2, d3⟩, fun j hj => ?_, cf, keep g1 wt u (by omega) (cw u (by omega)) (fun c hc h1 h2 => F1 c h1 h2), cw⟩
      · rw [kk, kl, s3, ll]
        refine ⟨by omega, fun y => absurd k5 y, fun _ => ⟨fun y => absurd y (by rw [c2, hu]; omega), fun _ => ⟨⟨by omega, by omega⟩, fun y => absurd y k55, fun _ => ?_⟩⟩⟩
        rw [c2, hu, show ((u + 1 : Nat) : Int) - 1 = (u : Int) by omega, show ((u : Int)).toNat = u from rfl]
        exact ⟨⟨by omega, by omega⟩, wt u, (c1 u (by omega)).1, f, g1, E1, rfl⟩
      · rw [e5] at hj ⊢
        show Is _ (if j + 1 = (ev K L R i).1 then _ else _)
        have hj' : j < (ev K L R i).1 := hj
        by_cases e : j + 1 = (ev K L R i).1
        · rw [if_pos e]
          obtain rfl : j = u := by omega
          intro p q hp' hq'
          rw [B1 p q hp' hq']
          exact Clr.cg (cI j hj)
        · rw [if_neg e, F1 (wt j) ((c1 u (by omega)).2.2.2 j (by omega) (by omega)) (by have := big j (by omega); omega)]
          exact cI j hj
  · by_cases k67 : K i = 6 ∨ K i = 7
    · have s2 := p3 k67
      obtain ⟨u, hu⟩ : ∃ u, (ev K L R i).1 = u + 2 := ⟨(ev K L R i).1 - 2, by omega⟩
      have wu := c5 u (by omega)
      have wv := c5 (u + 1) (by omega)
      have du : wt u ≠ wt (u + 1) := (c1 (u + 1) (by omega)).2.2.2 u (by omega) (by omega)
      have b1 := big u (by omega)
      have b2 := big (u + 1) (by omega)
      have x1 : f A 2 - 1 = ((u + 1 : Nat) : Int) := by rw [c2, hu]; omega
      have x2 : ((u + 1 : Nat) : Int) - 1 = (u : Int) := by omega
      rcases k67 with k6 | k7
      · obtain ⟨g1, E1, F1, B1⟩ := x_followC (σ := σ) (f := up2 f A 2 ((u + 1 : Nat) : Int)) (g := g) (a := A) (c := wt u) (d := wt (u + 1)) hs wu wv du (by omega) (by omega)
        have e6 := ev_6 (L := L) (R := R) k6
        have J : Ex mt 4 21 (il σ f g) [vR 2 (some A), vI 6] (il σ (up2 f A 2 ((u + 1 : Nat) : Int)) g1, []) := by
          refine bk_X2_joinTop_0 hs ⟨fun _ => ?_, fun y => absurd (by rw [c2, hu]; omega) y⟩
          rw [x1, x2]
          exact ⟨by omega, fun y => absurd rfl y, fun _ => ⟨⟨by omega, by omega⟩, wt u, (c1 u (by omega)).1, by omega, wt (u + 1), (c1 (u + 1) (by omega)).1, _, g1, E1, rfl⟩⟩
        refine ⟨σ, up2 f A 2 ((u + 1 : Nat) : Int), g1, wt, h, bk_X2_takeNode_0 hs ht ?_, ⟨c1, by rw [e6, u2_s]; show _ = (((ev K L R i).1 - 1 : Nat) : Int); omega, by rw [e6]; show (ev K L R i).1 - 1 ≤ h; omega, c4, c5⟩, ⟨d1, d2, d3⟩, fun j hj => ?_, fun c j hc hcj => by unfold up2; rw [if_neg hcj]; exact cf c j hc hcj, keep g1 wt u (by omega) (cw u (by omega)) (fun c hc h1 h2 => F1 c h1 h2), cw⟩
        · rw [kk, k6]
          exact ⟨by omega, fun _ => ⟨fun _ => ⟨_, g1, J, rfl⟩, fun y => absurd rfl y⟩, fun y => absurd y (by decide)⟩
        · rw [e6] at hj ⊢
          have hj' : j < (ev K L R i).1 - 1 := hj
          show Is _ (if j + 2 = (ev K L R i).1 then _ else _)
          by_cases e : j + 2 = (ev K L R i).1
          · rw [if_pos e]
            obtain rfl : j = u := by omega
            intro p q hp' hq'
            rw [B1 p q hp' hq']
            constructor
            · rintro ⟨m, m1, m2, m3⟩
              exact ⟨m, m1, (cI j (by omega) p m hp' m1).mp m2, (cI (j + 1) (by omega) m q m1 hq').mp m3⟩
            · rintro ⟨m, m1, m2, m3⟩
              exact ⟨m, m1, (cI j (by omega) p m hp' m1).mpr m2, (cI (j + 1) (by omega) m q m1 hq').mpr m3⟩
          · rw [if_neg e, F1 (wt j) ((c1 u (by omega)).2.2.2 j (by omega) (by omega)) (by have := big j (by omega); omega)]
            exact cI j (by omega)
      · obtain ⟨g1, E1, F1, B1⟩ := x_unite (σ := σ) (f := up2 f A 2 ((u + 1 : Nat) : Int)) (g := g) (c := wt u) (d := wt (u + 1)) wu wv du
        have e7 := ev_7 (L := L) (R := R) k7
        have J : Ex mt 4 21 (il σ f g) [vR 2 (some A), vI 7] (il σ (up2 f A 2 ((u + 1 : Nat) : Int)) g1, []) := by
          refine bk_X2_joinTop_0 hs ⟨fun _ => ?_, fun y => absurd (by rw [c2, hu]; omega) y⟩
          rw [x1, x2]
          exact ⟨by omega, fun _ => ⟨⟨by omega, by omega⟩, wt u, (c1 u (by omega)).1, by omega, wt (u + 1), (c1 (u + 1) (by omega)).1, _, g1, E1, rfl⟩, fun y => absurd y (by decide)⟩
        refine ⟨σ, up2 f A 2 ((u + 1 : Nat) : Int), g1, wt, h, bk_X2_takeNode_0 hs ht ?_, ⟨c1, by rw [e7, u2_s]; show _ = (((ev K L R i).1 - 1 : Nat) : Int); omega, by rw [e7]; show (ev K L R i).1 - 1 ≤ h; omega, c4, c5⟩, ⟨d1, d2, d3⟩, fun j hj => ?_, fun c j hc hcj => by unfold up2; rw [if_neg hcj]; exact cf c j hc hcj, keep g1 wt u (by omega) (cw u (by omega)) (fun c hc h1 h2 => F1 c h1), cw⟩
        · rw [kk, k7]
          exact ⟨by omega, fun _ => ⟨fun y => absurd y (by decide), fun _ => ⟨fun y => absurd rfl y, fun _ => ⟨_, g1, J, rfl⟩⟩⟩, fun y => absurd y (by decide)⟩
        · rw [e7] at hj ⊢
          have hj' : j < (ev K L R i).1 - 1 := hj
          show Is _ (if j + 2 = (ev K L R i).1 then _ else _)
          by_cases e : j + 2 = (ev K L R i).1
          · rw [if_pos e]
            obtain rfl : j = u := by omega
            intro p q hp' hq'
            rw [B1 p q hp' hq']
            exact or_congr (cI j (by omega) p q hp' hq') (cI (j + 1) (by omega) p q hp' hq')
          · rw [if_neg e, F1 (wt j) ((c1 u (by omega)).2.2.2 j (by omega) (by omega))]
            exact cI j (by omega)
    · -- an atom
      have wn := hw i hi
      unfold Wf1 at wn
      have ka : 0 ≤ K i ∧ K i ≤ 4 := by omega
      have la : (0 ≤ L i ∧ L i < 4) ∧ (0 ≤ R i ∧ R i < 8) ∧ (L i = 3 ∨ R i < 4) := by omega
      have s20 := p1 ka.2
      have ea := ev_a (L := L) (R := R) ka.2
      obtain ⟨u, hu⟩ : ∃ u, (ev K L R i).1 = u := ⟨_, rfl⟩
      rw [hu] at s20 c2 c3
      obtain ⟨σ1, f1, g1, wt1, E1, x1, m1, u1, z1, l1, o1, q1, fr1, gr1⟩ := x_pushEmpty (σ := σ) (f := f) (g := g) (A := A) (u := u) (wt := wt) hs c1 hAσ c2 s20
      have hs1 := x1.sh2 hAσ hs
      have ht1 := x1.sh9 (by omega) (Nat.lt_of_lt_of_le htn d1.1) ht
      obtain ⟨hS1, hl1⟩ := ExM.stat hS hl x1 (by omega) (by omega) (fun a ha k => fr1 a k (by omega) (by omega))
      obtain ⟨g2, E2, F2, B2⟩ := x_fillAtom (σ := σ1) (f := f1) (g := g1) (c := wt1 u) (k := K i) (fl := L i) (v := R i) hS1 l1 ka la.1 la.2.1 la.2.2
      have w1 : wt1 u = wt0 u ∨ nx σ0 ≤ wt1 u := by
        rcases q1 with ⟨a1, a2, a3⟩ | ⟨a1, a2, a3, a4⟩
        · rw [a3]
          exact cw u s20
        · have := d1.1
          omega
      have kl1 : f1 (t + 2) ((i : Int)).toNat = L i := (fr1 _ _ (by have := d1.1; omega) (by omega)).trans kl
      have kr1 : f1 (t + 3) ((i : Int)).toNat = R i := (fr1 _ _ (by have := d1.1; omega) (by omega)).trans kr
      -- how many were touched
      obtain ⟨h', hh1, hh2, hh3, hh4, hh5⟩ : ∃ h', u + 1 ≤ h' ∧ h' ≤ 20 ∧ (∀ j, j < h' → ln σ1 (wt1 j) = 4096) ∧ nx σ1 ≤ nx σ0 + h' ∧ sl σ1 ≤ sl σ0 + 4096 * h' := by
        rcases q1 with ⟨a1, a2, a3⟩ | ⟨a1, a2, a3, a4⟩
        · subst a2
          subst a3
          by_cases e : u < h
          · exact ⟨h, by omega, c4, c5, d2, d3⟩
          · refine ⟨u + 1, by omega, by omega, fun j hj => ?_, by omega, by omega⟩
            by_cases e2 : j = u
            · rw [e2]
              exact a1
            · exact c5 j (by omega)
        · have e : u = h := by
            by_cases e : u < h
            · exact absurd (c5 u e) a4
            · omega
          refine ⟨u + 1, by omega, by omega, fun j hj => ?_, by omega, by omega⟩
          by_cases e2 : j = u
          · rw [e2]
            exact l1
          · rw [o1 j e2, (x1.2 _ (c1 j (by omega)).2.1).1]
            exact c5 j (by omega)
      refine ⟨σ1, f1, g2, wt1, h', bk_X2_takeNode_0 hs ht ?_, ⟨m1, by rw [ea, u1, ← hu], by rw [ea]; show (ev K L R i).1 + 1 ≤ h'; omega, hh2, hh3⟩, ⟨d1.trans x1, hh4, hh5⟩, fun j hj => ?_, fun c j hc hcj => by rw [fr1 c j (by have := d1.1; omega) hcj]; exact cf c j hc hcj, keep g2 wt1 u s20 w1 (fun c hc h1 h2 => by rw [F2 c h1, gr1 c (by have := d1.1; omega) h1]), fun j hj => ?_⟩
      · rw [kk]
        refine ⟨by omega, fun _ => ⟨fun y => absurd (Or.inl y) k67, fun _ => ⟨fun _ => ⟨σ1, f1, g1, 1, E1, fun y => absurd y (by decide), fun _ => ?_⟩, fun y => absurd (Or.inr y) k67⟩⟩, fun y => absurd y k5⟩
        rw [u1, show ((u + 1 : Nat) : Int) - 1 = (u : Int) by omega, show ((u : Int)).toNat = u from rfl, kl1, kr1]
        exact ⟨⟨hs1, by omega, by omega⟩, wt1 u, (m1 u s20).1, ⟨ht1, by omega⟩, f1, g2, E2, rfl⟩
      · rw [ea] at hj ⊢
        have hj' : j < (ev K L R i).1 + 1 := hj
        show Is _ (if j = (ev K L R i).1 then _ else _)
        by_cases e : j = (ev K L R i).1
        · rw [if_pos e]
          obtain rfl : j = u := by omega
          intro p q hp' hq'
          rw [B2 p q hp' hq']
          refine ⟨fun y => y.elim (fun y => ?_) id, Or.inr⟩
          unfold bt at y
          rw [z1 _ (by omega)] at y
          simp at y
        · have ne : wt1 j ≠ wt1 u := (m1 u s20).2.2.2 j (by omega) (by omega)
          rw [if_neg e, F2 _ ne, gr1 (wt1 j) (by rw [o1 j (by omega)]; exact (c1 j (by omega)).2.1) ne, o1 j (by omega)]
          exact cI j (by omega)
      · by_cases e : j = u
        · rw [e]
          exact w1
        · rw [o1 j e]
          exact cw j hj
theorem x_relationOf {A t N B : Nat} {K L R : FN} {σ : St} {f : FI} {g : FL} {wt : Nat → Nat} (hs : Sh2 σ A) (hM : MkI σ A wt) (ht : Sh9 σ t N) (hS : Stat σ f) (hl : Lo σ B) (hBA : B ≤ A) (hA : A + 22 < nx σ) (htn : t + 3 < nx σ) (htA : A + 22 < t) (h3 : f t 3 = (N : Int)) (hN : N ≤ 200) (hH : Hld f t N K L R) (hw : Wf K L R N) (hp : Pf K L R N) (hN1 : (ev K L R N).1 = 1) : ∃ (σ' : St) (f' : FI) (g' : FL) (wt' : Nat → Nat) (md : Nat), Ex mt 6 18 (il σ f g) [vR 2 (some A), vR 9 (some t)] (il σ' f' g', [vR 15 (some md)]) ∧ ExM (A + 1) σ σ' ∧ nx σ' ≤ nx σ + 21 ∧ sl σ' ≤ sl σ + 81920 ∧ MkI σ' A wt' ∧ (∀ j, j < 20 → wt' j = wt j ∨ nx σ ≤ wt' j) ∧ ln σ' md = 4096 ∧ (A + 22 < md ∧ md < nx σ' ∧ (md = wt 0 ∨ nx σ ≤ md)) ∧ (∀ j, j < 20 → wt' j ≠ md) ∧ Is (g' md) ((ev K L R N).2 0) ∧ (∀ c j, c < nx σ → ¬ (c = A ∧ j = 2) → f' c j = f c j) ∧ ∀ c, c < nx σ → c ≠ A + 22 → (∀ j, j < 20 → wt j ≠ c) → g' c = g c := by
  obtain ⟨f0, hf0⟩ : ∃ y : FI, y = up2 f A 2 0 := ⟨_, rfl⟩
  have k0 : ∀ c j, ¬ (c = A ∧ j = 2) → f0 c j = f c j := fun c j hcj => by rw [hf0]; unfold up2; rw [if_neg hcj]
  have hH0 : Hld f0 t N K L R := fun i hi => by
    rw [k0 _ _ (by omega), k0 _ _ (by omega), k0 _ _ (by omega)]
    exact hH i hi
  have hS0 := (ExM.stat (f' := f0) hS hl (ExM.rfl' (c := A + 1)) (by omega) (by omega) (fun a ha k => k0 a k (by omega))).1
  have loop : ∀ u i : Nat, i + u = N → ∀ (σi : St) (fi : FI) (gi : FL) (wi : Nat → Nat) (h : Nat), CS A K L R σ f0 g wt i σi fi gi wi h → ∃ (σ' : St) (f' : FI) (g' : FL) (w' : Nat → Nat) (h' : Nat), CS A K L R σ f0 g wt N σ' f' g' w' h' ∧ ∀ r, A_X2_relationOf_7 σ' f' g' A t (N : Int) r → A_X2_relationOf_7 σi fi gi A t (i : Int) r := by
    intro u
    induction u with
    | zero =>
      intro i hi σi fi gi wi h hC
      obtain rfl : i = N := hi
      exact ⟨σi, fi, gi, wi, h, hC, fun r A => A⟩
    | succ u ih =>
      intro i hi σi fi gi wi h hC
      obtain ⟨σ1, f1, g1, w1, h1, E1, C1⟩ := x_takeNode hs ht hS0 hl hBA hA htn htA hH0 hw hp (show i < N by omega) hC
      obtain ⟨σ', f', g', w', h', C', K'⟩ := ih (i + 1) (by omega) σ1 f1 g1 w1 h1 C1
      have d1 := hC.2.1.1
      have ft : fi t 3 = (N : Int) := by rw [hC.2.2.2.1 _ _ (by omega) (by omega), k0 _ _ (by omega)]; exact h3
      refine ⟨σ', f', g', w', h', C', fun r Y => bk_X2_relationOf_7 (d1.sh2 hA hs) (d1.sh9 (by omega) htn ht) ⟨fun y => absurd y (by rw [ft]; omega), fun _ => ⟨σ1, f1, g1, E1, by omega, K' r Y⟩⟩⟩
  have C0 : CS A K L R σ f0 g wt 0 σ f0 g wt 0 := ⟨⟨hM, by rw [hf0, u2_s]; rfl, Nat.le_refl _, by omega, fun j hj => absurd hj (Nat.not_lt_zero j)⟩, ⟨ExM.rfl', by omega, by omega⟩, fun j hj => absurd hj (Nat.not_lt_zero j), fun _ _ _ _ => rfl, fun _ _ _ _ => rfl, fun _ _ => Or.inl rfl⟩
  obtain ⟨σ1, f1, g1, w1, h, ⟨⟨c1, c2, c3, c4, c5⟩, ⟨d1, d2, d3⟩, cI, cf, cg, cw⟩, K1⟩ := loop N 0 (by omega) σ f0 g wt 0 C0
  have ft : f1 t 3 = (N : Int) := by rw [cf _ _ (by omega) (by omega), k0 _ _ (by omega)]; exact h3
  have hA1 : A + 22 < nx σ1 := Nat.lt_of_lt_of_le hA d1.1
  have w0 := c5 0 (by omega)
  have m0 := c1 0 (by omega)
  have b0 : A + 22 < w1 0 := by
    rcases m0.2.2.1 with z | z
    · rw [w0] at z
      exact absurd z (by decide)
    · exact z.2
  refine ⟨wR (mk σ1 15 0 0) (A + 1) 0 (some (nx σ1)), up1 f1 (nx σ1) (fun _ => 0), up1 g1 (nx σ1) (fun _ => 0), ups w1 0 (nx σ1), w1 0, bk_X2_relationOf_0 hs ht ?_, d1.trans (ExM.new σ1 15 0 0 0 _), by rw [wR_nx, mk_nx]; omega, by rw [wR_sl, mk_sl]; omega, c1.new hA1 (by omega) (Or.inl rfl), fun j hj => ?_, by rw [wR_ln, mk_ln, if_neg (by omega)]; exact w0, ⟨b0, by rw [wR_nx, mk_nx]; omega, cw 0 (by omega)⟩, fun j hj => ?_, ?_, fun c j hc hcj => ?_, fun c hc h1 h2 => ?_⟩
  · rw [← hf0]
    exact K1 _ (bk_X2_relationOf_7 (d1.sh2 hA hs) (d1.sh9 (by omega) htn ht) ⟨fun _ => ⟨fun _ => ⟨w1 0, m0.1, by rw [mk_ln, if_neg (by omega), (d1.sh2 hA hs).2.1]; decide, rfl⟩, fun y => absurd y (by rw [c2, hN1]; decide)⟩, fun y => absurd (by rw [ft]; omega) y⟩)
  · by_cases e : j = 0
    · rw [e, ups_at]
      exact Or.inr d1.1
    · rw [ups_ne e]
      exact cw j hj
  · by_cases e : j = 0
    · rw [e, ups_at]
      omega
    · rw [ups_ne e]
      exact m0.2.2.2 j hj e
  · rw [up1_ne' (by omega)]
    exact cI 0 (by omega)
  · rw [up1_ne' (by have := d1.1; omega), cf c j hc hcj, k0 c j hcj]
  · rw [up1_ne' (by have := d1.1; omega)]
    exact cg c hc h1 h2
