/-! needs, worth -/
theorem bk_X11_needs_0 {σ : St} {f : FI} {g : FL} {a : Nat} {x1 : Int} {x2 : Int} {x3 : Int} {r : St × List Vl} (hs : Sh11 σ a) (h : ((∃ (f1 : FI) (g2 : FL), Ex mt 0 188 (il σ f g) [vR 11 (some a), vI x1] ((il σ f1 g2), [vR 10 none]) ∧ (r = ((il σ f1 g2), [vI (-1)]))) ∨ (∃ (f1 : FI) (g2 : FL) (q4 : Nat), Ex mt 0 188 (il σ f g) [vR 11 (some a), vI x1] ((il σ f1 g2), [vR 10 (some q4)]) ∧ ((¬ ((0 ≤ x2 ∧ x2 ≤ 7)) → (r = ((il σ f1 g2), [vI (-1)]))) ∧ (((0 ≤ x2 ∧ x2 ≤ 7)) → ((((0 ≤ x3 ∧ x3 ≤ 99)) → (∃ q11, gR σ q4 3 = some q11 ∧ ((0 ≤ x2 ∧ x2 < (ln σ q11 : Int))) ∧ (∃ q13, gR σ q4 3 = some q13 ∧ ((0 ≤ x2 ∧ x2 < (ln σ q13 : Int))) ∧ (r = ((il σ (up2 f1 q13 ((x2).toNat) x3) g2), [vI (f1 q11 ((x2).toNat))]))))) ∧ (¬ ((0 ≤ x3 ∧ x3 ≤ 99)) → (r = ((il σ f1 g2), [vI (-1)]))))))))) : Ex mt 2 170 (il σ f g) [vR 11 (some a), vI x1, vI x2, vI x3] r := Ex.mk mt_170 (show Gx mt 2 cd_X11_needs (il σ f g) b_X11_needs_0 [some (vR 11 (some a)), some (vI x1), some (vI x2), some (vI x3), none, none] [] r from (go_loadA rfl (go_loadI rfl (Or.elim h (fun h15q => (Exists.elim h15q fun f1 w16 => Exists.elim w16 fun g2 h15 => (go_callV rfl rfl rfl h15.1 (go_stoA rfl rfl (go_loadA rfl (go_nullN (go_pushI rfl (h15.2 ▸ gq_retI)))))))) (fun h3q => (Exists.elim h3q fun f1 w17 => Exists.elim w17 fun g2 w18 => Exists.elim w18 fun q4 h3 => (go_callV rfl rfl rfl h3.1 (go_stoA rfl rfl (go_loadA rfl (go_nullS (go_loadI rfl (go_callS rfl rfl rfl (pu_isBox) (go_ifb_eq (fun e7 => have h5 := h3.2.1 e7; (go_pushI rfl (h5 ▸ gq_retI))) (fun e7 => have h6 := h3.2.2 e7; (go_loadI rfl (go_pushI rfl (go_callS rfl rfl rfl (pu_upTo) (go_ifb_ne (fun e10 => have h8 := h6.1 e10; (go_loadA rfl (Exists.elim h8 fun q11 h12 => (gi_getR h12.1 (go_loadI rfl (gi_iald h12.2.1 (go_stoI rfl rfl (go_loadA rfl (Exists.elim h12.2.2 fun q13 h14 => (gi_getR h14.1 (go_loadI rfl (go_loadI rfl (gi_iast h14.2.1 (go_loadI rfl (h14.2.2 ▸ gq_retI))))))))))))))) (fun e10 => have h9 := h6.2 e10; (go_fall (go_pushI rfl (h9 ▸ gq_retI))))))))))))))))))))))
theorem bk_X12_needs_0 {σ : St} {f : FI} {g : FL} {a : Nat} {x1 : Int} {x2 : Int} {x3 : Int} {r : St × List Vl} (hs : Sh12 σ a) (h : ((-2147483648 ≤ f a 4 - 1 ∧ f a 4 - 1 ≤ 2147483647) ∧ (-2147483648 ≤ x1 ∧ x1 ≤ 2147483647)) ∧ ((¬ ((0 ≤ x1 ∧ x1 ≤ f a 4 - 1)) → (r = ((il σ f g), [vI (-1)]))) ∧ (((0 ≤ x1 ∧ x1 ≤ f a 4 - 1)) → ((-2147483648 ≤ x2 ∧ x2 ≤ 2147483647)) ∧ ((¬ ((0 ≤ x2 ∧ x2 ≤ 7)) → (r = ((il σ f g), [vI (-1)]))) ∧ (((0 ≤ x2 ∧ x2 ≤ 7)) → ((-2147483648 ≤ x3 ∧ x3 ≤ 2147483647)) ∧ ((((0 ≤ x3 ∧ x3 ≤ 99)) → ((-2147483648 ≤ (8 * x1) ∧ (8 * x1) ≤ 2147483647) ∧ (-2147483648 ≤ ((8 * x1) + x2) ∧ ((8 * x1) + x2) ≤ 2147483647) ∧ (0 ≤ ((8 * x1) + x2) ∧ ((8 * x1) + x2) < 96)) ∧ (r = ((il σ (up2 f (a + 36) ((((8 * x1) + x2)).toNat) x3) g), [vI (f (a + 36) ((((8 * x1) + x2)).toNat))]))) ∧ (¬ ((0 ≤ x3 ∧ x3 ≤ 99)) → (r = ((il σ f g), [vI (-1)]))))))))) : Ex mt 2 274 (il σ f g) [vR 12 (some a), vI x1, vI x2, vI x3] r := Ex.mk mt_274 (show Gx mt 2 cd_X12_needs (il σ f g) b_X12_needs_0 [some (vR 12 (some a)), some (vI x1), some (vI x2), some (vI x3), none] [] r from (go_loadA rfl (go_loadI rfl (go_callV rfl rfl rfl (pu_isWish hs h.1.1 h.1.2) (go_ifb_eq (fun e3 => have h1 := h.2.1 e3; (go_pushI rfl (h1 ▸ gq_retI))) (fun e3 => have h2 := h.2.2 e3; (go_loadI rfl (go_callS rfl rfl rfl (pu_isPlaceM h2.1) (go_ifb_eq (fun e6 => have h4 := h2.2.1 e6; (go_pushI rfl (h4 ▸ gq_retI))) (fun e6 => have h5 := h2.2.2 e6; (go_loadI rfl (go_i2l (go_pushL rfl (go_pushL rfl (go_callS rfl rfl rfl (pu_in h5.1 ⟨by decide, by decide⟩ ⟨by decide, by decide⟩ (v := x3) (lo := 0) (hi := 99)) (go_ifb_ne (fun e9 => have h7 := h5.2.1 e9; (go_loadA rfl (gi_getR (Sh12.r55 hs) (go_pushI rfl (go_loadI rfl (go_imul h7.1.1 (go_loadI rfl (go_iadd h7.1.2.1 (gi_iald (inl_ (Sh12.l55 hs) h7.1.2.2) (go_stoI rfl rfl (go_loadA rfl (gi_getR (Sh12.r55 hs) (go_pushI rfl (go_loadI rfl (go_imul h7.1.1 (go_loadI rfl (go_iadd h7.1.2.1 (go_loadI rfl (gi_iast (inl_ (Sh12.l55 hs) h7.1.2.2) (go_loadI rfl (h7.2 ▸ gq_retI))))))))))))))))))))) (fun e9 => have h8 := h5.2.2 e9; (go_fall (go_pushI rfl (h8 ▸ gq_retI))))))))))))))))))))
theorem bk_X1_setRoom_0 {σ : St} {f : FI} {g : FL} {a : Nat} {x1 : Int} {x2 : Int} {r : St × List Vl} (hs : Sh1 σ a) (h : ((0 ≤ x1 ∧ x1 < 8)) ∧ (r = ((il σ (up2 f (a + 1) ((x1).toNat) x2) g), [vI (f (a + 1) ((x1).toNat))]))) : Ex mt 0 8 (il σ f g) [vR 1 (some a), vI x1, vI x2] r := Ex.mk mt_8 (show Gx mt 0 cd_X1_setRoom (il σ f g) b_X1_setRoom_0 [some (vR 1 (some a)), some (vI x1), some (vI x2), none] [] r from (go_loadA rfl (gi_getR (Sh1.r0 hs) (go_loadI rfl (gi_iald (inl_ (Sh1.l0 hs) h.1) (go_stoI rfl rfl (go_loadA rfl (gi_getR (Sh1.r0 hs) (go_loadI rfl (go_loadI rfl (gi_iast (inl_ (Sh1.l0 hs) h.1) (go_loadI rfl (h.2 ▸ gq_retI)))))))))))))
theorem bk_X11_worth_0 {σ : St} {f : FI} {g : FL} {a : Nat} {x1 : Int} {x2 : Int} {x3 : Int} {r : St × List Vl} (hs : Sh11 σ a) (h : ((((0 ≤ x3 ∧ x3 ≤ 999)) → ((¬ x1 = 1 → ((∃ (f7 : FI) (g8 : FL), Ex mt 0 188 (il σ f g) [vR 11 (some a), vI x2] ((il σ f7 g8), [vR 10 none]) ∧ ((¬ x1 = 0 → (r = ((il σ f7 g8), [vI (-1)]))) ∧ (x1 = 0 → (r = ((il σ f7 g8), [vI (-1)]))))) ∨ (∃ (f7 : FI) (g8 : FL) (q10 : Nat), Ex mt 0 188 (il σ f g) [vR 11 (some a), vI x2] ((il σ f7 g8), [vR 10 (some q10)]) ∧ ((¬ x1 = 0 → (r = ((il σ f7 g8), [vI (-1)]))) ∧ (x1 = 0 → (r = ((il σ (up2 f7 q10 4 x3) g8), [vI (f7 q10 4)]))))))) ∧ (x1 = 1 → ((¬ ((0 ≤ x2 ∧ x2 ≤ 7)) → (r = ((il σ f g), [vI (-1)]))) ∧ (((0 ≤ x2 ∧ x2 ≤ 7)) → (∃ (f24 : FI) (g25 : FL) (v27 : Int), Ex mt 0 8 (il σ f g) [vR 1 (some (a + 158)), vI x2, vI x3] ((il σ f24 g25), [vI v27]) ∧ (r = ((il σ f24 g25), [vI v27])))))))) ∧ (¬ ((0 ≤ x3 ∧ x3 ≤ 999)) → (r = ((il σ f g), [vI (-1)]))))) : Ex mt 2 171 (il σ f g) [vR 11 (some a), vI x1, vI x2, vI x3] r := Ex.mk mt_171 (show Gx mt 2 cd_X11_worth (il σ f g) b_X11_worth_0 [some (vR 11 (some a)), some (vI x1), some (vI x2), some (vI x3), none, none] [] r from (go_loadI rfl (go_pushI rfl (go_callS rfl rfl rfl (pu_upTo) (go_ifb_ne (fun e3 => have h1 := h.1 e3; (go_loadI rfl (go_pushI rfl (gq_icmp_ne (fun e6 => have h4 := h1.1 e6; (go_loadA rfl (go_loadI rfl (Or.elim h4 (fun h14q => (Exists.elim h14q fun f7 w18 => Exists.elim w18 fun g8 h14 => (go_callV rfl rfl rfl h14.1 (go_stoA rfl rfl (go_loadI rfl (gq_if_ne (fun e17 => have h15 := h14.2.1 e17; (go_pushI rfl (h15 ▸ gq_retI))) (fun e17 => have h16 := h14.2.2 e17; (go_loadA rfl (go_nnullN (go_fall (go_pushI rfl (h16 ▸ gq_retI)))))))))))) (fun h9q => (Exists.elim h9q fun f7 w19 => Exists.elim w19 fun g8 w20 => Exists.elim w20 fun q10 h9 => (go_callV rfl rfl rfl h9.1 (go_stoA rfl rfl (go_loadI rfl (gq_if_ne (fun e13 => have h11 := h9.2.1 e13; (go_pushI rfl (h11 ▸ gq_retI))) (fun e13 => have h12 := h9.2.2 e13; (go_loadA rfl (go_nnullS (go_loadA rfl (gi_getI (go_stoI rfl rfl (go_loadA rfl (go_loadI rfl (gi_putI (go_loadI rfl (h12 ▸ gq_retI))))))))))))))))))))) (fun e6 => have h5 := h1.2 e6; (go_loadI rfl (go_callS rfl rfl rfl (pu_isBox) (go_ifb_eq (fun e23 => have h21 := h5.1 e23; (go_pushI rfl (go_fall (h21 ▸ gq_retI)))) (fun e23 => have h22 := h5.2 e23; (go_loadA rfl (gi_getR (Sh11.r12 hs) (go_loadI rfl (go_loadI rfl (Exists.elim h22 fun f24 w28 => Exists.elim w28 fun g25 w29 => Exists.elim w29 fun v27 h26 => (go_callV rfl rfl rfl h26.1 (go_goto (h26.2 ▸ gq_retI))))))))))))))))) (fun e3 => have h2 := h.2 e3; (go_pushI rfl (h2 ▸ gq_retI))))))))
theorem bk_X12_worth_0 {σ : St} {f : FI} {g : FL} {a : Nat} {x1 : Int} {x2 : Int} {x3 : Int} {r : St × List Vl} (hs : Sh12 σ a) (h : ((-2147483648 ≤ x1 ∧ x1 ≤ 2147483647)) ∧ ((¬ ((0 ≤ x1 ∧ x1 ≤ 1)) → (r = ((il σ f g), [vI (-1)]))) ∧ (((0 ≤ x1 ∧ x1 ≤ 1)) → ((¬ x1 = 0 → ((-2147483648 ≤ x2 ∧ x2 ≤ 2147483647)) ∧ ((¬ ((0 ≤ x2 ∧ x2 ≤ 7)) → (r = ((il σ f g), [vI (-1)]))) ∧ (((0 ≤ x2 ∧ x2 ≤ 7)) → ((-2147483648 ≤ x3 ∧ x3 ≤ 2147483647)) ∧ ((((0 ≤ x3 ∧ x3 ≤ 999)) → ((¬ x1 = 0 → ((0 ≤ x2 ∧ x2 < 8)) ∧ ((¬ x1 = 0 → ((0 ≤ x2 ∧ x2 < 8)) ∧ (r = ((il σ (up2 f (a + 38) ((x2).toNat) x3) g), [vI (f (a + 38) ((x2).toNat))]))) ∧ (x1 = 0 → ((0 ≤ x2 ∧ x2 < 12)) ∧ (r = ((il σ (up2 f (a + 37) ((x2).toNat) x3) g), [vI (f (a + 38) ((x2).toNat))]))))) ∧ (x1 = 0 → ((0 ≤ x2 ∧ x2 < 12)) ∧ ((¬ x1 = 0 → ((0 ≤ x2 ∧ x2 < 8)) ∧ (r = ((il σ (up2 f (a + 38) ((x2).toNat) x3) g), [vI (f (a + 37) ((x2).toNat))]))) ∧ (x1 = 0 → ((0 ≤ x2 ∧ x2 < 12)) ∧ (r = ((il σ (up2 f (a + 37) ((x2).toNat) x3) g), [vI (f (a + 37) ((x2).toNat))]))))))) ∧ (¬ ((0 ≤ x3 ∧ x3 ≤ 999)) → (r = ((il σ f g), [vI (-1)]))))))) ∧ (x1 = 0 → ((-2147483648 ≤ f a 4 - 1 ∧ f a 4 - 1 ≤ 2147483647) ∧ (-2147483648 ≤ x2 ∧ x2 ≤ 2147483647)) ∧ ((¬ ((0 ≤ x2 ∧ x2 ≤ f a 4 - 1)) → (r = ((il σ f g), [vI (-1)]))) ∧ (((0 ≤ x2 ∧ x2 ≤ f a 4 - 1)) → ((-2147483648 ≤ x3 ∧ x3 ≤ 2147483647)) ∧ ((((0 ≤ x3 ∧ x3 ≤ 999)) → ((¬ x1 = 0 → ((0 ≤ x2 ∧ x2 < 8)) ∧ ((¬ x1 = 0 → ((0 ≤ x2 ∧ x2 < 8)) ∧ (r = ((il σ (up2 f (a + 38) ((x2).toNat) x3) g), [vI (f (a + 38) ((x2).toNat))]))) ∧ (x1 = 0 → ((0 ≤ x2 ∧ x2 < 12)) ∧ (r = ((il σ (up2 f (a + 37) ((x2).toNat) x3) g), [vI (f (a + 38) ((x2).toNat))]))))) ∧ (x1 = 0 → ((0 ≤ x2 ∧ x2 < 12)) ∧ ((¬ x1 = 0 → ((0 ≤ x2 ∧ x2 < 8)) ∧ (r = ((il σ (up2 f (a + 38) ((x2).toNat) x3) g), [vI (f (a + 37) ((x2).toNat))]))) ∧ (x1 = 0 → ((0 ≤ x2 ∧ x2 < 12)) ∧ (r = ((il σ (up2 f (a + 37) ((x2).toNat) x3) g), [vI (f (a + 37) ((x2).toNat))]))))))) ∧ (¬ ((0 ≤ x3 ∧ x3 ≤ 999)) → (r = ((il σ f g), [vI (-1)]))))))))))) : Ex mt 2 275 (il σ f g) [vR 12 (some a), vI x1, vI x2, vI x3] r := Ex.mk mt_275 (show Gx mt 2 cd_X12_worth (il σ f g) b_X12_worth_0 [some (vR 12 (some a)), some (vI x1), some (vI x2), some (vI x3), none] [] r from (go_loadI rfl (go_i2l (go_pushL rfl (go_pushL rfl (go_callS rfl rfl rfl (pu_in h.1 ⟨by decide, by decide⟩ ⟨by decide, by decide⟩ (v := x1) (lo := 0) (hi := 1)) (go_ifb_eq (fun e3 => have h1 := h.2.1 e3; (go_pushI rfl (h1 ▸ gq_retI))) (fun e3 => have h2 := h.2.2 e3; (go_loadI rfl (gq_if_ne (fun e6 => have h4 := h2.1 e6; (go_loadI rfl (go_callS rfl rfl rfl (pu_isPlaceM h4.1) (go_ifb_eq (fun e9 => have h7 := h4.2.1 e9; (go_pushI rfl (h7 ▸ gq_retI))) (fun e9 => have h8 := h4.2.2 e9; (go_fall (go_loadI rfl (go_i2l (go_pushL rfl (go_pushL rfl (go_callS rfl rfl rfl (pu_in h8.1 ⟨by decide, by decide⟩ ⟨by decide, by decide⟩ (v := x3) (lo := 0) (hi := 999)) (go_ifb_ne (fun e12 => have h10 := h8.2.1 e12; (go_loadI rfl (gq_if_ne (fun e15 => have h13 := h10.1 e15; (go_loadA rfl (gi_getR (Sh12.r57 hs) (go_loadI rfl (gi_iald (inl_ (Sh12.l57 hs) h13.1) (go_fall (go_stoI rfl rfl (go_loadI rfl (gq_if_ne (fun e18 => have h16 := h13.2.1 e18; (go_loadA rfl (gi_getR (Sh12.r57 hs) (go_loadI rfl (go_loadI rfl (gi_iast (inl_ (Sh12.l57 hs) h16.1) (go_fall (go_loadI rfl (h16.2 ▸ gq_retI))))))))) (fun e18 => have h17 := h13.2.2 e18; (go_loadA rfl (gi_getR (Sh12.r56 hs) (go_loadI rfl (go_loadI rfl (gi_iast (inl_ (Sh12.l56 hs) h17.1) (go_goto (go_loadI rfl (h17.2 ▸ gq_retI)))))))))))))))))) (fun e15 => have h14 := h10.2 e15; (go_loadA rfl (gi_getR (Sh12.r56 hs) (go_loadI rfl (gi_iald (inl_ (Sh12.l56 hs) h14.1) (go_goto (go_stoI rfl rfl (go_loadI rfl (gq_if_ne (fun e21 => have h19 := h14.2.1 e21; (go_loadA rfl (gi_getR (Sh12.r57 hs) (go_loadI rfl (go_loadI rfl (gi_iast (inl_ (Sh12.l57 hs) h19.1) (go_fall (go_loadI rfl (h19.2 ▸ gq_retI))))))))) (fun e21 => have h20 := h14.2.2 e21; (go_loadA rfl (gi_getR (Sh12.r56 hs) (go_loadI rfl (go_loadI rfl (gi_iast (inl_ (Sh12.l56 hs) h20.1) (go_goto (go_loadI rfl (h20.2 ▸ gq_retI))))))))))))))))))))) (fun e12 => have h11 := h8.2.2 e12; (go_fall (go_pushI rfl (h11 ▸ gq_retI)))))))))))))))) (fun e6 => have h5 := h2.2 e6; (go_loadA rfl (go_loadI rfl (go_callV rfl rfl rfl (pu_isWish hs h5.1.1 h5.1.2) (go_ifb_eq (fun e24 => have h22 := h5.2.1 e24; (go_pushI rfl (h22 ▸ gq_retI))) (fun e24 => have h23 := h5.2.2 e24; (go_goto (go_loadI rfl (go_i2l (go_pushL rfl (go_pushL rfl (go_callS rfl rfl rfl (pu_in h23.1 ⟨by decide, by decide⟩ ⟨by decide, by decide⟩ (v := x3) (lo := 0) (hi := 999)) (go_ifb_ne (fun e27 => have h25 := h23.2.1 e27; (go_loadI rfl (gq_if_ne (fun e30 => have h28 := h25.1 e30; (go_loadA rfl (gi_getR (Sh12.r57 hs) (go_loadI rfl (gi_iald (inl_ (Sh12.l57 hs) h28.1) (go_fall (go_stoI rfl rfl (go_loadI rfl (gq_if_ne (fun e33 => have h31 := h28.2.1 e33; (go_loadA rfl (gi_getR (Sh12.r57 hs) (go_loadI rfl (go_loadI rfl (gi_iast (inl_ (Sh12.l57 hs) h31.1) (go_fall (go_loadI rfl (h31.2 ▸ gq_retI))))))))) (fun e33 => have h32 := h28.2.2 e33; (go_loadA rfl (gi_getR (Sh12.r56 hs) (go_loadI rfl (go_loadI rfl (gi_iast (inl_ (Sh12.l56 hs) h32.1) (go_goto (go_loadI rfl (h32.2 ▸ gq_retI)))))))))))))))))) (fun e30 => have h29 := h25.2 e30; (go_loadA rfl (gi_getR (Sh12.r56 hs) (go_loadI rfl (gi_iald (inl_ (Sh12.l56 hs) h29.1) (go_goto (go_stoI rfl rfl (go_loadI rfl (gq_if_ne (fun e36 => have h34 := h29.2.1 e36; (go_loadA rfl (gi_getR (Sh12.r57 hs) (go_loadI rfl (go_loadI rfl (gi_iast (inl_ (Sh12.l57 hs) h34.1) (go_fall (go_loadI rfl (h34.2 ▸ gq_retI))))))))) (fun e36 => have h35 := h29.2.2 e36; (go_loadA rfl (gi_getR (Sh12.r56 hs) (go_loadI rfl (go_loadI rfl (gi_iast (inl_ (Sh12.l56 hs) h35.1) (go_goto (go_loadI rfl (h35.2 ▸ gq_retI))))))))))))))))))))) (fun e27 => have h26 := h23.2.2 e27; (go_fall (go_pushI rfl (h26 ▸ gq_retI)))))))))))))))))))))))))))
/-- where the wishes lie -/
def LY (B w : Nat) (q rn : Nat → Nat) : Prop := ∀ i j, i < w → j < w → (B + 220 ≤ q j ∧ B + 220 ≤ rn j) ∧ q i ≠ rn j ∧ (i ≠ j → q i ≠ q j ∧ rn i ≠ rn j)
/-- what wishes need and are worth -/
def IN (σ : St) (f : FI) (B w : Nat) (q rn : Nat → Nat) : Prop := (∀ j : Nat, j < w → (gR σ (q j) 3 = some (rn j) ∧ ln σ (rn j) = 8) ∧ (∀ b : Nat, b < 8 → f (rn j) b = f (B + 165 + 36) (8 * j + b) ∧ 0 ≤ f (rn j) b ∧ f (rn j) b ≤ 99) ∧ (f (q j) 4 = f (B + 165 + 37) j ∧ 0 ≤ f (q j) 4 ∧ f (q j) 4 ≤ 999)) ∧ (∀ k : Nat, 8 * w ≤ k → k < 96 → f (B + 165 + 36) k = 0) ∧ (∀ k : Nat, w ≤ k → k < 12 → f (B + 165 + 37) k = 0)
theorem c_needs {σ : St} {f : FI} {g : FL} {B : Nat} (hs : Sh11 σ B) (hm : Sh12 σ (B + 165)) {w : Nat} {q md rn : Nat → Nat} (h : IW σ f g B w q md) (hy : LY B w q rn) (hN : IN σ f B w q rn) {x y z : Int} (rx : -2147483648 ≤ x ∧ x ≤ 2147483647) (ry : -2147483648 ≤ y ∧ y ≤ 2147483647) (rz : -2147483648 ≤ z ∧ z ≤ 2147483647) : ∃ (v : Int) (f1 f2 : FI), Ex mt 2 170 (il σ f g) [vR 11 (some B), vI x, vI y, vI z] (il σ f1 g, [vI v]) ∧ Ex mt 2 274 (il σ f1 g) [vR 12 (some (B + 165)), vI x, vI y, vI z] (il σ f2 g, [vI v]) ∧ IN σ f2 B w q rn ∧ Fr (fun a k => (∃ j, j < w ∧ a = rn j) ∨ a = B + 165 + 36) f f2 := by
  have h1 := h.1
  by_cases hx : 0 ≤ x ∧ x < w
  · obtain ⟨j, rfl⟩ := Int.eq_ofNat_of_zero_le hx.1
    have hj : j < w := by omega
    have hi := hN.1 j hj
    by_cases hy2 : 0 ≤ y ∧ y ≤ 7
    · obtain ⟨b, rfl⟩ := Int.eq_ofNat_of_zero_le hy2.1
      by_cases hz : 0 ≤ z ∧ z ≤ 99
      · have lj := (hy j j hj hj).1
        have eb := hi.2.1 b (by omega)
        have l8 : ((0 : Int) ≤ (b : Int) ∧ (b : Int) < (ln σ (rn j) : Int)) := by rw [hi.1.2]; omega
        have ix : (8 * (j : Int) + (b : Int)).toNat = 8 * j + b := by omega
        refine ⟨f (rn j) b, up2 f (rn j) b z, up2 (up2 f (rn j) b z) (B + 165 + 36) (8 * j + b) z, bk_X11_needs_0 hs (Or.inr ⟨f, g, _, x_wishAt1 hs h hj, fun e => absurd hy2 e, fun _ => ⟨fun _ => ⟨rn j, hi.1.1, l8, rn j, hi.1.1, l8, rfl⟩, fun e => absurd hz e⟩⟩), bk_X12_needs_0 hm ?_, ?_, (Fr.rfl'.up (Or.inl ⟨j, hj, rfl⟩)).up (Or.inr rfl)⟩
        · have e4 : up2 f (rn j) b z (B + 165) 4 = f (B + 165) 4 := u2_a (by omega)
          rw [e4, ix]
          refine ⟨⟨by omega, by omega⟩, fun e => absurd (by omega) e, fun _ => ⟨by omega, fun e => absurd hy2 e, fun _ => ⟨by omega, fun _ => ⟨⟨by omega, by omega, by omega⟩, ?_⟩, fun e => absurd hz e⟩⟩⟩
          rw [u2_a (by omega), eb.1]
        · refine ⟨fun i hi2 => ?_, fun k k1 k2 => ?_, fun k k1 k2 => ?_⟩
          · have o := hN.1 i hi2
            have li := hy i j hi2 hj
            have li2 := (hy i i hi2 hi2).1
            refine ⟨o.1, fun c hc => ?_, ?_⟩
            · have oc := o.2.1 c hc
              rw [u2_a (by omega)]
              by_cases e : i = j
              · subst e
                by_cases e2 : c = b
                · subst e2
                  rw [u2_s, u2_s]
                  exact ⟨rfl, hz⟩
                · rw [u2_i e2, u2_i (by omega), u2_a (by omega)]
                  exact oc
              · have := (li.2.2 e).2
                rw [u2_a this, u2_i (by omega), u2_a (by omega)]
                exact oc
            · rw [u2_a (by omega), u2_a li.2.1, u2_a (by omega), u2_a (by omega)]
              exact o.2.2
          · rw [u2_i (by omega), u2_a (by omega)]
            exact hN.2.1 k k1 k2
          · rw [u2_a (by omega), u2_a (by omega)]
            exact hN.2.2 k k1 k2
      · exact ⟨-1, f, f, bk_X11_needs_0 hs (Or.inr ⟨f, g, _, x_wishAt1 hs h hj, fun e => absurd hy2 e, fun _ => ⟨fun e => absurd e hz, fun _ => rfl⟩⟩), bk_X12_needs_0 hm ⟨⟨by omega, by omega⟩, fun e => absurd (by omega) e, fun _ => ⟨by omega, fun e => absurd hy2 e, fun _ => ⟨by omega, fun e => absurd e hz, fun _ => rfl⟩⟩⟩, hN, Fr.rfl'⟩
    · exact ⟨-1, f, f, bk_X11_needs_0 hs (Or.inr ⟨f, g, _, x_wishAt1 hs h hj, fun _ => rfl, fun e => absurd e hy2⟩), bk_X12_needs_0 hm ⟨⟨by omega, by omega⟩, fun e => absurd (by omega) e, fun _ => ⟨by omega, fun _ => rfl, fun e => absurd e hy2⟩⟩, hN, Fr.rfl'⟩
  · exact ⟨-1, f, f, bk_X11_needs_0 hs (Or.inl ⟨f, g, x_wishAt0 hs h hx, rfl⟩), bk_X12_needs_0 hm ⟨⟨by omega, by omega⟩, fun _ => rfl, fun e => absurd (by omega) hx⟩, hN, Fr.rfl'⟩
theorem c_worth {σ : St} {f : FI} {g : FL} {B : Nat} (hs : Sh11 σ B) (hm : Sh12 σ (B + 165)) {w : Nat} {q md rn : Nat → Nat} (h : IW σ f g B w q md) (hy : LY B w q rn) (hN : IN σ f B w q rn) (hG : IG f B) {x y z : Int} (rx : -2147483648 ≤ x ∧ x ≤ 2147483647) (ry : -2147483648 ≤ y ∧ y ≤ 2147483647) (rz : -2147483648 ≤ z ∧ z ≤ 2147483647) : ∃ (v : Int) (f1 f2 : FI), Ex mt 2 171 (il σ f g) [vR 11 (some B), vI x, vI y, vI z] (il σ f1 g, [vI v]) ∧ Ex mt 2 275 (il σ f1 g) [vR 12 (some (B + 165)), vI x, vI y, vI z] (il σ f2 g, [vI v]) ∧ (IN σ f2 B w q rn ∧ IG f2 B) ∧ Fr (fun a k => (∃ j, j < w ∧ a = q j ∧ k = 4) ∨ a = B + 165 + 37 ∨ a = B + 159 ∨ a = B + 165 + 38) f f2 := by
  have h1 := h.1
  by_cases hz : 0 ≤ z ∧ z ≤ 999
  · by_cases h0 : x = 0
    · subst h0
      by_cases hx : 0 ≤ y ∧ y < w
      · obtain ⟨j, rfl⟩ := Int.eq_ofNat_of_zero_le hx.1
        have hj : j < w := by omega
        have hi := hN.1 j hj
        have lj := (hy j j hj hj).1
        refine ⟨f (q j) 4, up2 f (q j) 4 z, up2 (up2 f (q j) 4 z) (B + 165 + 37) j z, bk_X11_worth_0 hs ⟨fun _ => ⟨fun _ => Or.inr ⟨f, g, _, x_wishAt1 hs h hj, fun e => absurd rfl e, fun _ => rfl⟩, fun e => absurd e (by decide)⟩, fun e => absurd hz e⟩, bk_X12_worth_0 hm ?_, ⟨⟨fun i hi2 => ?_, fun k k1 k2 => ?_, fun k k1 k2 => ?_⟩, ?_⟩, (Fr.rfl'.up (Or.inl ⟨j, hj, rfl, rfl⟩)).up (Or.inr (Or.inl rfl))⟩
        · have e4 : up2 f (q j) 4 z (B + 165) 4 = f (B + 165) 4 := u2_a (by omega)
          rw [e4]
          refine ⟨by omega, fun e => absurd (by omega) e, fun _ => ⟨fun e => absurd rfl e, fun _ => ⟨⟨by omega, by omega⟩, fun e => absurd (by omega) e, fun _ => ⟨by omega, fun _ => ⟨fun e => absurd rfl e, fun _ => ⟨by omega, fun e => absurd rfl e, fun _ => ⟨by omega, ?_⟩⟩⟩, fun e => absurd hz e⟩⟩⟩⟩
          show _ = (_, [vI (up2 f (q j) 4 z (B + 165 + 37) j)])
          rw [u2_a (by omega), hi.2.2.1]
          rfl
        · have o := hN.1 i hi2
          have li := hy i j hi2 hj
          have lj2 := hy j i hj hi2
          have li2 := (hy i i hi2 hi2).1
          refine ⟨o.1, fun c hc => ?_, ?_⟩
          · rw [u2_a (by omega), u2_a (fun e => lj2.2.1 e.symm), u2_a (by omega), u2_a (by omega)]
            exact o.2.1 c hc
          · rw [u2_a (by omega)]
            by_cases e : i = j
            · subst e
              rw [u2_s, u2_s]
              exact ⟨rfl, hz⟩
            · rw [u2_a (li.2.2 e).1, u2_i e, u2_a (by omega)]
              exact o.2.2
        · rw [u2_a (by omega), u2_a (by omega)]
          exact hN.2.1 k k1 k2
        · rw [u2_i (by omega), u2_a (by omega)]
          exact hN.2.2 k k1 k2
        · refine ⟨fun b hb => ?_, fun l hl => ?_⟩
          · rw [u2_a (by omega), u2_a (by omega), u2_a (by omega), u2_a (by omega)]
            exact hG.1 b hb
          · rw [u2_a (by omega), u2_a (by omega), u2_a (by omega), u2_a (by omega), u2_a (by omega), u2_a (by omega), u2_a (by omega), u2_a (by omega)]
            exact hG.2 l hl
      · exact ⟨-1, f, f, bk_X11_worth_0 hs ⟨fun _ => ⟨fun _ => Or.inl ⟨f, g, x_wishAt0 hs h hx, fun _ => rfl, fun _ => rfl⟩, fun e => absurd e (by decide)⟩, fun e => absurd hz e⟩, bk_X12_worth_0 hm ⟨by omega, fun e => absurd (by omega) e, fun _ => ⟨fun e => absurd rfl e, fun _ => ⟨⟨by omega, by omega⟩, fun _ => rfl, fun e => absurd (by omega) hx⟩⟩⟩, ⟨hN, hG⟩, Fr.rfl'⟩
    · by_cases h2 : x = 1
      · subst h2
        by_cases hb : 0 ≤ y ∧ y ≤ 7
        · obtain ⟨b, rfl⟩ := Int.eq_ofNat_of_zero_le hb.1
          have gb := hG.1 b (by omega)
          refine ⟨f (B + 159) b, up2 f (B + 159) b z, up2 (up2 f (B + 159) b z) (B + 165 + 38) b z, bk_X11_worth_0 hs ⟨fun _ => ⟨fun e => absurd rfl e, fun _ => ⟨fun e => absurd hb e, fun _ => ⟨_, g, _, bk_X1_setRoom_0 hs.o12 ⟨by omega, rfl⟩, rfl⟩⟩⟩, fun e => absurd hz e⟩, bk_X12_worth_0 hm ?_, ⟨⟨fun i hi2 => ?_, fun k k1 k2 => ?_, fun k k1 k2 => ?_⟩, ?_⟩, (Fr.rfl'.up (Or.inr (Or.inr (Or.inl rfl)))).up (Or.inr (Or.inr (Or.inr rfl)))⟩
          · refine ⟨by omega, fun e => absurd (by omega) e, fun _ => ⟨fun _ => ⟨by omega, fun e => absurd hb e, fun _ => ⟨by omega, fun _ => ⟨fun _ => ⟨by omega, fun _ => ⟨by omega, ?_⟩, fun e => absurd e (by decide)⟩, fun e => absurd e (by decide)⟩, fun e => absurd hz e⟩⟩, fun e => absurd e (by decide)⟩⟩
            show _ = (_, [vI (up2 f (B + 159) b z (B + 165 + 38) b)])
            rw [u2_a (by omega), gb.1]
            rfl
          · have o := hN.1 i hi2
            have li2 := (hy i i hi2 hi2).1
            refine ⟨o.1, fun c hc => ?_, ?_⟩
            · rw [u2_a (by omega), u2_a (by omega), u2_a (by omega), u2_a (by omega)]
              exact o.2.1 c hc
            · rw [u2_a (by omega), u2_a (by omega), u2_a (by omega), u2_a (by omega)]
              exact o.2.2
          · rw [u2_a (by omega), u2_a (by omega)]
            exact hN.2.1 k k1 k2
          · rw [u2_a (by omega), u2_a (by omega)]
            exact hN.2.2 k k1 k2
          · refine ⟨fun c hc => ?_, fun l hl => ?_⟩
            · rw [u2_a (by omega)]
              by_cases e : c = b
              · subst e
                rw [u2_s, u2_s]
                exact ⟨rfl, hz⟩
              · rw [u2_i e, u2_i e, u2_a (by omega)]
                exact hG.1 c hc
            · rw [u2_a (by omega), u2_a (by omega), u2_a (by omega), u2_a (by omega), u2_a (by omega), u2_a (by omega), u2_a (by omega), u2_a (by omega)]
              exact hG.2 l hl
        · exact ⟨-1, f, f, bk_X11_worth_0 hs ⟨fun _ => ⟨fun e => absurd rfl e, fun _ => ⟨fun _ => rfl, fun e => absurd e hb⟩⟩, fun e => absurd hz e⟩, bk_X12_worth_0 hm ⟨by omega, fun e => absurd (by omega) e, fun _ => ⟨fun _ => ⟨by omega, fun _ => rfl, fun e => absurd e hb⟩, fun e => absurd e (by decide)⟩⟩, ⟨hN, hG⟩, Fr.rfl'⟩
      · have M : Ex mt 2 275 (il σ f g) [vR 12 (some (B + 165)), vI x, vI y, vI z] (il σ f g, [vI (-1)]) := bk_X12_worth_0 hm ⟨by omega, fun _ => rfl, fun e => absurd e (by omega)⟩
        by_cases hx : 0 ≤ y ∧ y < w
        · obtain ⟨j, rfl⟩ := Int.eq_ofNat_of_zero_le hx.1
          exact ⟨-1, f, f, bk_X11_worth_0 hs ⟨fun _ => ⟨fun _ => Or.inr ⟨f, g, _, x_wishAt1 hs h (by omega), fun _ => rfl, fun e => absurd e h0⟩, fun e => absurd e h2⟩, fun e => absurd hz e⟩, M, ⟨hN, hG⟩, Fr.rfl'⟩
        · exact ⟨-1, f, f, bk_X11_worth_0 hs ⟨fun _ => ⟨fun _ => Or.inl ⟨f, g, x_wishAt0 hs h hx, fun _ => rfl, fun _ => rfl⟩, fun e => absurd e h2⟩, fun e => absurd hz e⟩, M, ⟨hN, hG⟩, Fr.rfl'⟩
  · have C : Ex mt 2 171 (il σ f g) [vR 11 (some B), vI x, vI y, vI z] (il σ f g, [vI (-1)]) := bk_X11_worth_0 hs ⟨fun e => absurd e hz, fun _ => rfl⟩
    refine ⟨-1, f, f, C, bk_X12_worth_0 hm ⟨by omega, fun _ => rfl, fun e => ⟨fun e2 => ⟨by omega, fun _ => rfl, fun _ => ⟨by omega, fun e3 => absurd e3 hz, fun _ => rfl⟩⟩, fun e2 => ⟨⟨by omega, by omega⟩, fun _ => rfl, fun _ => ⟨by omega, fun e3 => absurd e3 hz, fun _ => rfl⟩⟩⟩⟩, ⟨hN, hG⟩, Fr.rfl'⟩
