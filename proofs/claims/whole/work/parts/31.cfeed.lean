/-! feed, end, counts, cable, line -/
theorem bk_X11_end_0 {σ : St} {f : FI} {g : FL} {a : Nat} {x1 : Int} {r : St × List Vl} (hs : Sh11 σ a) (h : ((((0 ≤ x1 ∧ x1 ≤ (f a 1))) → (r = ((il σ (up2 f a 1 x1) g), [vI x1]))) ∧ (¬ ((0 ≤ x1 ∧ x1 ≤ (f a 1))) → (r = ((il σ f g), [vI (-1)]))))) : Ex mt 1 143 (il σ f g) [vR 11 (some a), vI x1] r := Ex.mk mt_143 (show Gx mt 1 cd_X11_end (il σ f g) b_X11_end_0 [some (vR 11 (some a)), some (vI x1)] [] r from (go_loadI rfl (go_loadA rfl (gi_getI (go_callS rfl rfl rfl (pu_upTo) (go_ifb_ne (fun e3 => have h1 := h.1 e3; (go_loadA rfl (go_loadI rfl (gi_putI (go_loadI rfl (h1 ▸ gq_retI)))))) (fun e3 => have h2 := h.2 e3; (go_pushI rfl (h2 ▸ gq_retI)))))))))
theorem bk_X12_end_0 {σ : St} {f : FI} {g : FL} {a : Nat} {x1 : Int} {r : St × List Vl} (hs : Sh12 σ a) (h : ((x1 < 0 → (r = ((il σ f g), [vI (-1)]))) ∧ (¬ x1 < 0 → ((x1 ≤ (f a 1) → (r = ((il σ (up2 f a 1 x1) g), [vI x1]))) ∧ (¬ x1 ≤ (f a 1) → (r = ((il σ f g), [vI (-1)]))))))) : Ex mt 0 206 (il σ f g) [vR 12 (some a), vI x1] r := Ex.mk mt_206 (show Gx mt 0 cd_X12_end (il σ f g) b_X12_end_0 [some (vR 12 (some a)), some (vI x1)] [] r from (go_loadI rfl (gq_if_lt (fun e3 => have h1 := h.1 e3; (go_pushI rfl (h1 ▸ gq_retI))) (fun e3 => have h2 := h.2 e3; (go_loadI rfl (go_loadA rfl (gi_getI (gq_icmp_le (fun e6 => have h4 := h2.1 e6; (go_loadA rfl (go_loadI rfl (gi_putI (go_loadI rfl (h4 ▸ gq_retI)))))) (fun e6 => have h5 := h2.2 e6; (go_fall (go_pushI rfl (h5 ▸ gq_retI))))))))))))
theorem bk_X1_tellCount_0 {σ : St} {f : FI} {g : FL} {a : Nat} {x1 : Int} {x2 : Int} {x3 : Int} {x4 : Int} {r : St × List Vl} (hs : Sh1 σ a) (h : ((x3 = 0 → ((-2147483648 ≤ (8 * x1) ∧ (8 * x1) ≤ 2147483647) ∧ (-2147483648 ≤ ((8 * x1) + x2) ∧ ((8 * x1) + x2) ≤ 2147483647) ∧ (0 ≤ ((8 * x1) + x2) ∧ ((8 * x1) + x2) < 64)) ∧ (r = ((il σ (up2 f (a + 2) ((((8 * x1) + x2)).toNat) x4) g), [vI (f (a + 2) ((((8 * x1) + x2)).toNat))]))) ∧ (¬ x3 = 0 → ((-2147483648 ≤ (8 * x1) ∧ (8 * x1) ≤ 2147483647) ∧ (-2147483648 ≤ ((8 * x1) + x2) ∧ ((8 * x1) + x2) ≤ 2147483647) ∧ (0 ≤ ((8 * x1) + x2) ∧ ((8 * x1) + x2) < 64)) ∧ (r = ((il σ (up2 f (a + 3) ((((8 * x1) + x2)).toNat) x4) g), [vI (f (a + 3) ((((8 * x1) + x2)).toNat))]))))) : Ex mt 0 14 (il σ f g) [vR 1 (some a), vI x1, vI x2, vI x3, vI x4] r := Ex.mk mt_14 (show Gx mt 0 cd_X1_tellCount (il σ f g) b_X1_tellCount_0 [some (vR 1 (some a)), some (vI x1), some (vI x2), some (vI x3), some (vI x4), none, none] [] r from (go_loadI rfl (gq_if_eq (fun e3 => have h1 := h.1 e3; (go_loadA rfl (gi_getR (Sh1.r3 hs) (go_fall (go_stoA rfl rfl (go_loadA rfl (go_pushI rfl (go_loadI rfl (go_imul h1.1.1 (go_loadI rfl (go_iadd h1.1.2.1 (gi_iald (inl_ (Sh1.l3 hs) h1.1.2.2) (go_stoI rfl rfl (go_loadA rfl (go_pushI rfl (go_loadI rfl (go_imul h1.1.1 (go_loadI rfl (go_iadd h1.1.2.1 (go_loadI rfl (gi_iast (inl_ (Sh1.l3 hs) h1.1.2.2) (go_loadI rfl (h1.2 ▸ gq_retI))))))))))))))))))))))) (fun e3 => have h2 := h.2 e3; (go_loadA rfl (gi_getR (Sh1.r4 hs) (go_goto (go_stoA rfl rfl (go_loadA rfl (go_pushI rfl (go_loadI rfl (go_imul h2.1.1 (go_loadI rfl (go_iadd h2.1.2.1 (gi_iald (inl_ (Sh1.l4 hs) h2.1.2.2) (go_stoI rfl rfl (go_loadA rfl (go_pushI rfl (go_loadI rfl (go_imul h2.1.1 (go_loadI rfl (go_iadd h2.1.2.1 (go_loadI rfl (gi_iast (inl_ (Sh1.l4 hs) h2.1.2.2) (go_loadI rfl (h2.2 ▸ gq_retI))))))))))))))))))))))))))
theorem bk_X11_counts_0 {σ : St} {f : FI} {g : FL} {a : Nat} {x1 : Int} {x2 : Int} {x3 : Int} {x4 : Int} {r : St × List Vl} (hs : Sh11 σ a) (h : ((¬ (((0 ≤ x1 ∧ x1 ≤ 7) ∧ (0 ≤ x2 ∧ x2 ≤ 7) ∧ ¬ x1 = x2)) → (r = ((il σ f g), [vI (-1)]))) ∧ ((((0 ≤ x1 ∧ x1 ≤ 7) ∧ (0 ≤ x2 ∧ x2 ≤ 7) ∧ ¬ x1 = x2)) → ((((0 ≤ x4 ∧ x4 ≤ 999999)) → (∃ (f7 : FI) (g8 : FL) (v10 : Int), Ex mt 0 14 (il σ f g) [vR 1 (some (a + 158)), vI x1, vI x2, vI x3, vI x4] ((il σ f7 g8), [vI v10]) ∧ (r = ((il σ f7 g8), [vI v10])))) ∧ (¬ ((0 ≤ x4 ∧ x4 ≤ 999999)) → (r = ((il σ f g), [vI (-1)]))))))) : Ex mt 3 173 (il σ f g) [vR 11 (some a), vI x1, vI x2, vI x3, vI x4] r := Ex.mk mt_173 (show Gx mt 3 cd_X11_counts (il σ f g) b_X11_counts_0 [some (vR 11 (some a)), some (vI x1), some (vI x2), some (vI x3), some (vI x4)] [] r from (go_loadI rfl (go_loadI rfl (go_callS rfl rfl rfl (pu_isLine) (go_ifb_eq (fun e3 => have h1 := h.1 e3; (go_pushI rfl (h1 ▸ gq_retI))) (fun e3 => have h2 := h.2 e3; (go_loadI rfl (go_pushI rfl (go_callS rfl rfl rfl (pu_upTo) (go_ifb_ne (fun e6 => have h4 := h2.1 e6; (go_loadA rfl (gi_getR (Sh11.r12 hs) (go_loadI rfl (go_loadI rfl (go_loadI rfl (go_loadI rfl (Exists.elim h4 fun f7 w11 => Exists.elim w11 fun g8 w12 => Exists.elim w12 fun v10 h9 => (go_callV rfl rfl rfl h9.1 (h9.2 ▸ gq_retI)))))))))) (fun e6 => have h5 := h2.2 e6; (go_fall (go_pushI rfl (h5 ▸ gq_retI))))))))))))))
theorem bk_X12_counts__0 {σ : St} {f : FI} {g : FL} {a : Nat} {x1 : Int} {x2 : Int} {x3 : Int} {x4 : Int} {r : St × List Vl} (hs : Sh12 σ a) (h : ((-2147483648 ≤ x1 ∧ x1 ≤ 2147483647)) ∧ ((¬ ((0 ≤ x1 ∧ x1 ≤ 7)) → (r = ((il σ f g), [vI (-1)]))) ∧ (((0 ≤ x1 ∧ x1 ≤ 7)) → ((-2147483648 ≤ x2 ∧ x2 ≤ 2147483647)) ∧ ((¬ ((0 ≤ x2 ∧ x2 ≤ 7)) → (r = ((il σ f g), [vI (-1)]))) ∧ (((0 ≤ x2 ∧ x2 ≤ 7)) → ((x1 = x2 → (r = ((il σ f g), [vI (-1)]))) ∧ (¬ x1 = x2 → ((-2147483648 ≤ x4 ∧ x4 ≤ 2147483647)) ∧ ((((0 ≤ x4 ∧ x4 ≤ 999999)) → ((-2147483648 ≤ (8 * x1) ∧ (8 * x1) ≤ 2147483647) ∧ (-2147483648 ≤ ((8 * x1) + x2) ∧ ((8 * x1) + x2) ≤ 2147483647)) ∧ ((x3 = 0 → ((0 ≤ ((8 * x1) + x2) ∧ ((8 * x1) + x2) < 64)) ∧ ((x3 = 0 → ((0 ≤ ((8 * x1) + x2) ∧ ((8 * x1) + x2) < 64)) ∧ (r = ((il σ (up2 f (a + 39) ((((8 * x1) + x2)).toNat) x4) g), [vI (f (a + 39) ((((8 * x1) + x2)).toNat))]))) ∧ (¬ x3 = 0 → ((0 ≤ ((8 * x1) + x2) ∧ ((8 * x1) + x2) < 64)) ∧ (r = ((il σ (up2 f (a + 40) ((((8 * x1) + x2)).toNat) x4) g), [vI (f (a + 39) ((((8 * x1) + x2)).toNat))]))))) ∧ (¬ x3 = 0 → ((0 ≤ ((8 * x1) + x2) ∧ ((8 * x1) + x2) < 64)) ∧ ((x3 = 0 → ((0 ≤ ((8 * x1) + x2) ∧ ((8 * x1) + x2) < 64)) ∧ (r = ((il σ (up2 f (a + 39) ((((8 * x1) + x2)).toNat) x4) g), [vI (f (a + 40) ((((8 * x1) + x2)).toNat))]))) ∧ (¬ x3 = 0 → ((0 ≤ ((8 * x1) + x2) ∧ ((8 * x1) + x2) < 64)) ∧ (r = ((il σ (up2 f (a + 40) ((((8 * x1) + x2)).toNat) x4) g), [vI (f (a + 40) ((((8 * x1) + x2)).toNat))]))))))) ∧ (¬ ((0 ≤ x4 ∧ x4 ≤ 999999)) → (r = ((il σ f g), [vI (-1)]))))))))))) : Ex mt 2 278 (il σ f g) [vR 12 (some a), vI x1, vI x2, vI x3, vI x4] r := Ex.mk mt_278 (show Gx mt 2 cd_X12_counts_ (il σ f g) b_X12_counts__0 [some (vR 12 (some a)), some (vI x1), some (vI x2), some (vI x3), some (vI x4), none, none] [] r from (go_loadI rfl (go_callS rfl rfl rfl (pu_isPlaceM h.1) (go_ifb_eq (fun e3 => have h1 := h.2.1 e3; (go_pushI rfl (h1 ▸ gq_retI))) (fun e3 => have h2 := h.2.2 e3; (go_loadI rfl (go_callS rfl rfl rfl (pu_isPlaceM h2.1) (go_ifb_eq (fun e6 => have h4 := h2.2.1 e6; (go_pushI rfl (h4 ▸ gq_retI))) (fun e6 => have h5 := h2.2.2 e6; (go_loadI rfl (go_loadI rfl (gq_icmp_eq (fun e9 => have h7 := h5.1 e9; (go_pushI rfl (h7 ▸ gq_retI))) (fun e9 => have h8 := h5.2 e9; (go_loadI rfl (go_i2l (go_pushL rfl (go_pushL rfl (go_callS rfl rfl rfl (pu_in h8.1 ⟨by decide, by decide⟩ ⟨by decide, by decide⟩ (v := x4) (lo := 0) (hi := 999999)) (go_ifb_ne (fun e12 => have h10 := h8.2.1 e12; (go_pushI rfl (go_loadI rfl (go_imul h10.1.1 (go_loadI rfl (go_iadd h10.1.2 (go_stoI rfl rfl (go_loadI rfl (gq_if_eq (fun e15 => have h13 := h10.2.1 e15; (go_loadA rfl (gi_getR (Sh12.r58 hs) (go_loadI rfl (gi_iald (inl_ (Sh12.l58 hs) h13.1) (go_fall (go_stoI rfl rfl (go_loadI rfl (gq_if_eq (fun e18 => have h16 := h13.2.1 e18; (go_loadA rfl (gi_getR (Sh12.r58 hs) (go_loadI rfl (go_loadI rfl (gi_iast (inl_ (Sh12.l58 hs) h16.1) (go_fall (go_loadI rfl (h16.2 ▸ gq_retI))))))))) (fun e18 => have h17 := h13.2.2 e18; (go_loadA rfl (gi_getR (Sh12.r59 hs) (go_loadI rfl (go_loadI rfl (gi_iast (inl_ (Sh12.l59 hs) h17.1) (go_goto (go_loadI rfl (h17.2 ▸ gq_retI)))))))))))))))))) (fun e15 => have h14 := h10.2.2 e15; (go_loadA rfl (gi_getR (Sh12.r59 hs) (go_loadI rfl (gi_iald (inl_ (Sh12.l59 hs) h14.1) (go_goto (go_stoI rfl rfl (go_loadI rfl (gq_if_eq (fun e21 => have h19 := h14.2.1 e21; (go_loadA rfl (gi_getR (Sh12.r58 hs) (go_loadI rfl (go_loadI rfl (gi_iast (inl_ (Sh12.l58 hs) h19.1) (go_fall (go_loadI rfl (h19.2 ▸ gq_retI))))))))) (fun e21 => have h20 := h14.2.2 e21; (go_loadA rfl (gi_getR (Sh12.r59 hs) (go_loadI rfl (go_loadI rfl (gi_iast (inl_ (Sh12.l59 hs) h20.1) (go_goto (go_loadI rfl (h20.2 ▸ gq_retI))))))))))))))))))))))))))) (fun e12 => have h11 := h8.2.2 e12; (go_fall (go_pushI rfl (h11 ▸ gq_retI)))))))))))))))))))))))
theorem bk_X0_lay_0 {σ : St} {f : FI} {g : FL} {a : Nat} {x1 : Int} {x2 : Int} {r : St × List Vl} (hs : Sh0 σ a) (h : (((f a 2) < 16 → ((0 ≤ (f a 2) ∧ (f a 2) < 16) ∧ (-2147483648 ≤ ((f a 2) + 1) ∧ ((f a 2) + 1) ≤ 2147483647) ∧ (-2147483648 ≤ (((f a 2) + 1) - 1) ∧ (((f a 2) + 1) - 1) ≤ 2147483647)) ∧ (r = ((il σ (up2 (up2 (up2 f (a + 1) (((f a 2)).toNat) x1) (a + 2) (((f a 2)).toNat) x2) a 2 ((f a 2) + 1)) g), [vI (((f a 2) + 1) - 1)]))) ∧ (¬ (f a 2) < 16 → (r = ((il σ f g), [vI (-1)]))))) : Ex mt 0 1 (il σ f g) [vR 0 (some a), vI x1, vI x2] r := Ex.mk mt_1 (show Gx mt 0 cd_X0_lay (il σ f g) b_X0_lay_0 [some (vR 0 (some a)), some (vI x1), some (vI x2)] [] r from (go_loadA rfl (gi_getI (go_pushI rfl (gq_icmp_lt (fun e3 => have h1 := h.1 e3; (go_loadA rfl (gi_getR (Sh0.r0 hs) (go_loadA rfl (gi_getI (go_loadI rfl (gi_iast (inl_ (Sh0.l0 hs) h1.1.1) (go_loadA rfl (gi_getR (Sh0.r1 hs) (go_loadA rfl (gi_getIe (u2_a (by omega)) (go_loadI rfl (gi_iast (inl_ (Sh0.l1 hs) h1.1.1) (go_loadA rfl (go_dupA (gi_getIe (Eq.trans (u2_a (by omega)) (u2_a (by omega))) (go_pushI rfl (go_iadd h1.1.2.1 (gi_putI (go_loadA rfl (gi_getIe u2_s (go_pushI rfl (go_isub h1.1.2.2 (h1.2 ▸ gq_retI)))))))))))))))))))))))) (fun e3 => have h2 := h.2 e3; (go_pushI rfl (h2 ▸ gq_retI))))))))
theorem bk_X11_cable_0 {σ : St} {f : FI} {g : FL} {a : Nat} {x1 : Int} {x2 : Int} {r : St × List Vl} (hs : Sh11 σ a) (h : ((¬ (((0 ≤ x1 ∧ x1 ≤ 7) ∧ (0 ≤ x2 ∧ x2 ≤ 7) ∧ ¬ x1 = x2)) → (r = ((il σ f g), [vI (-1)]))) ∧ ((((0 ≤ x1 ∧ x1 ≤ 7) ∧ (0 ≤ x2 ∧ x2 ≤ 7) ∧ ¬ x1 = x2)) → (∃ (f4 : FI) (g5 : FL) (v7 : Int), Ex mt 0 1 (il σ f g) [vR 0 (some (a + 162)), vI x1, vI x2] ((il σ f4 g5), [vI v7]) ∧ (r = ((il σ f4 g5), [vI v7])))))) : Ex mt 3 177 (il σ f g) [vR 11 (some a), vI x1, vI x2] r := Ex.mk mt_177 (show Gx mt 3 cd_X11_cable (il σ f g) b_X11_cable_0 [some (vR 11 (some a)), some (vI x1), some (vI x2)] [] r from (go_loadI rfl (go_loadI rfl (go_callS rfl rfl rfl (pu_isLine) (go_ifb_eq (fun e3 => have h1 := h.1 e3; (go_pushI rfl (go_fall (h1 ▸ gq_retI)))) (fun e3 => have h2 := h.2 e3; (go_loadA rfl (gi_getR (Sh11.r13 hs) (go_loadI rfl (go_loadI rfl (Exists.elim h2 fun f4 w8 => Exists.elim w8 fun g5 w9 => Exists.elim w9 fun v7 h6 => (go_callV rfl rfl rfl h6.1 (go_goto (h6.2 ▸ gq_retI))))))))))))))
theorem bk_X12_cable_0 {σ : St} {f : FI} {g : FL} {a : Nat} {x1 : Int} {x2 : Int} {r : St × List Vl} (hs : Sh12 σ a) (h : (((f a 69) = 16 → (r = ((il σ f g), [vI (-1)]))) ∧ (¬ (f a 69) = 16 → ((-2147483648 ≤ x1 ∧ x1 ≤ 2147483647)) ∧ ((¬ ((0 ≤ x1 ∧ x1 ≤ 7)) → (r = ((il σ f g), [vI (-1)]))) ∧ (((0 ≤ x1 ∧ x1 ≤ 7)) → ((-2147483648 ≤ x2 ∧ x2 ≤ 2147483647)) ∧ ((¬ ((0 ≤ x2 ∧ x2 ≤ 7)) → (r = ((il σ f g), [vI (-1)]))) ∧ (((0 ≤ x2 ∧ x2 ≤ 7)) → ((¬ x1 = x2 → ((0 ≤ (f a 69) ∧ (f a 69) < 16) ∧ (-2147483648 ≤ ((f a 69) + 1) ∧ ((f a 69) + 1) ≤ 2147483647) ∧ (-2147483648 ≤ (((f a 69) + 1) - 1) ∧ (((f a 69) + 1) - 1) ≤ 2147483647)) ∧ (r = ((il σ (up2 (up2 (up2 f (a + 47) (((f a 69)).toNat) x1) (a + 48) (((f a 69)).toNat) x2) a 69 ((f a 69) + 1)) g), [vI (((f a 69) + 1) - 1)]))) ∧ (x1 = x2 → (r = ((il σ f g), [vI (-1)]))))))))))) : Ex mt 2 292 (il σ f g) [vR 12 (some a), vI x1, vI x2] r := Ex.mk mt_292 (show Gx mt 2 cd_X12_cable (il σ f g) b_X12_cable_0 [some (vR 12 (some a)), some (vI x1), some (vI x2)] [] r from (go_loadA rfl (gi_getI (go_pushI rfl (gq_icmp_eq (fun e3 => have h1 := h.1 e3; (go_pushI rfl (h1 ▸ gq_retI))) (fun e3 => have h2 := h.2 e3; (go_loadI rfl (go_callS rfl rfl rfl (pu_isPlaceM h2.1) (go_ifb_eq (fun e6 => have h4 := h2.2.1 e6; (go_pushI rfl (h4 ▸ gq_retI))) (fun e6 => have h5 := h2.2.2 e6; (go_loadI rfl (go_callS rfl rfl rfl (pu_isPlaceM h5.1) (go_ifb_eq (fun e9 => have h7 := h5.2.1 e9; (go_pushI rfl (h7 ▸ gq_retI))) (fun e9 => have h8 := h5.2.2 e9; (go_loadI rfl (go_loadI rfl (gq_icmp_ne (fun e12 => have h10 := h8.1 e12; (go_loadA rfl (gi_getR (Sh12.r71 hs) (go_loadA rfl (gi_getI (go_loadI rfl (gi_iast (inl_ (Sh12.l71 hs) h10.1.1) (go_loadA rfl (gi_getR (Sh12.r72 hs) (go_loadA rfl (gi_getIe (u2_a (by omega)) (go_loadI rfl (gi_iast (inl_ (Sh12.l72 hs) h10.1.1) (go_loadA rfl (go_dupA (gi_getIe (Eq.trans (u2_a (by omega)) (u2_a (by omega))) (go_pushI rfl (go_iadd h10.1.2.1 (gi_putI (go_loadA rfl (gi_getIe u2_s (go_pushI rfl (go_isub h10.1.2.2 (h10.2 ▸ gq_retI)))))))))))))))))))))))) (fun e12 => have h11 := h8.2 e12; (go_fall (go_pushI rfl (h11 ▸ gq_retI)))))))))))))))))))))
theorem c_end {σ : St} {f : FI} {g : FL} {B : Nat} (hs : Sh11 σ B) (hm : Sh12 σ (B + 165)) (h : IT f B) {x : Int} (rx : -2147483648 ≤ x ∧ x ≤ 2147483647) : ∃ (v : Int) (f1 f2 : FI), Ex mt 1 143 (il σ f g) [vR 11 (some B), vI x] (il σ f1 g, [vI v]) ∧ Ex mt 0 206 (il σ f1 g) [vR 12 (some (B + 165)), vI x] (il σ f2 g, [vI v]) ∧ IT f2 B ∧ Fr (fun a k => (a = B ∧ k = 1) ∨ (a = B + 165 ∧ k = 1)) f f2 := by
  have h1 := h.1
  by_cases hc : 0 ≤ x ∧ x ≤ f B 1
  · refine ⟨x, up2 f B 1 x, up2 (up2 f B 1 x) (B + 165) 1 x, bk_X11_end_0 hs ⟨fun _ => rfl, fun e => absurd hc e⟩, bk_X12_end_0 hm ⟨fun e => absurd e (by omega), fun _ => ⟨fun _ => rfl, fun e => absurd ?_ e⟩⟩, ⟨⟨by simp [u2], by simp [u2]; omega, by simp [u2]; omega⟩, fun i hi => ?_⟩, (Fr.rfl'.up (Or.inl ⟨rfl, rfl⟩)).up (Or.inr ⟨rfl, rfl⟩)⟩
    · rw [u2_a (by omega)]
      omega
    · simp [u2, show ¬ B + 165 + 1 = B by omega] at hi ⊢
      exact h.2 i (by omega)
  · exact ⟨-1, f, f, bk_X11_end_0 hs ⟨fun e => absurd e hc, fun _ => rfl⟩, bk_X12_end_0 hm ⟨fun _ => rfl, fun _ => ⟨fun e => absurd (by omega) hc, fun _ => rfl⟩⟩, h, Fr.rfl'⟩
theorem c_counts {σ : St} {f : FI} {g : FL} {B : Nat} (hs : Sh11 σ B) (hm : Sh12 σ (B + 165)) (h : IG f B) {x y z u : Int} (rx : -2147483648 ≤ x ∧ x ≤ 2147483647) (ry : -2147483648 ≤ y ∧ y ≤ 2147483647) (rz : -2147483648 ≤ z ∧ z ≤ 2147483647) (ru : -2147483648 ≤ u ∧ u ≤ 2147483647) : ∃ (v : Int) (f1 f2 : FI), Ex mt 3 173 (il σ f g) [vR 11 (some B), vI x, vI y, vI z, vI u] (il σ f1 g, [vI v]) ∧ Ex mt 2 278 (il σ f1 g) [vR 12 (some (B + 165)), vI x, vI y, vI z, vI u] (il σ f2 g, [vI v]) ∧ IG f2 B ∧ Fr (fun a k => a = B + 160 ∨ a = B + 165 + 39 ∨ a = B + 161 ∨ a = B + 165 + 40) f f2 := by
  by_cases hc : ((0 ≤ x ∧ x ≤ 7) ∧ (0 ≤ y ∧ y ≤ 7) ∧ ¬ x = y) ∧ (0 ≤ u ∧ u ≤ 999999)
  · obtain ⟨i, rfl⟩ := Int.eq_ofNat_of_zero_le hc.1.1.1
    obtain ⟨j, rfl⟩ := Int.eq_ofNat_of_zero_le hc.1.2.1.1
    have e : (8 * (i : Int) + (j : Int)).toNat = 8 * i + j := by omega
    have hl := h.2 (8 * i + j) (by omega)
    by_cases hz : z = 0
    · refine ⟨f (B + 160) (8 * i + j), up2 f (B + 160) (8 * i + j) u, up2 (up2 f (B + 160) (8 * i + j) u) (B + 165 + 39) (8 * i + j) u, bk_X11_counts_0 hs ⟨fun e => absurd hc.1 e, fun _ => ⟨fun _ => ⟨_, g, _, bk_X1_tellCount_0 (hs.o12) ⟨fun _ => ⟨by omega, rfl⟩, fun e => absurd hz e⟩, by rw [e]⟩, fun e => absurd hc.2 e⟩⟩, bk_X12_counts__0 hm ⟨by omega, fun e => absurd hc.1.1 e, fun _ => ⟨by omega, fun e => absurd hc.1.2.1 e, fun _ => ⟨fun e => absurd e hc.1.2.2, fun _ => ⟨by omega, fun _ => ⟨by omega, fun _ => ⟨by omega, fun _ => ⟨by omega, ?_⟩, fun e => absurd hz e⟩, fun e => absurd hz e⟩, fun e => absurd hc.2 e⟩⟩⟩⟩, ⟨fun b hb => ?_, fun l hl2 => ?_⟩, (Fr.rfl'.up (Or.inl rfl)).up (Or.inr (Or.inl rfl))⟩
      · rw [e, u2_a (by omega), hl.1]
      · simp [u2]
        exact h.1 b hb
      · have := h.2 l hl2
        by_cases q : l = 8 * i + j
        · simp [u2, q]
          rw [← q]
          exact this.2
        · simp [u2, q]
          exact this
    · refine ⟨f (B + 161) (8 * i + j), up2 f (B + 161) (8 * i + j) u, up2 (up2 f (B + 161) (8 * i + j) u) (B + 165 + 40) (8 * i + j) u, bk_X11_counts_0 hs ⟨fun e => absurd hc.1 e, fun _ => ⟨fun _ => ⟨_, g, _, bk_X1_tellCount_0 (hs.o12) ⟨fun e => absurd e hz, fun _ => ⟨by omega, rfl⟩⟩, by rw [e]⟩, fun e => absurd hc.2 e⟩⟩, bk_X12_counts__0 hm ⟨by omega, fun e => absurd hc.1.1 e, fun _ => ⟨by omega, fun e => absurd hc.1.2.1 e, fun _ => ⟨fun e => absurd e hc.1.2.2, fun _ => ⟨by omega, fun _ => ⟨by omega, fun e => absurd e hz, fun _ => ⟨by omega, fun e => absurd e hz, fun _ => ⟨by omega, ?_⟩⟩⟩, fun e => absurd hc.2 e⟩⟩⟩⟩, ⟨fun b hb => ?_, fun l hl2 => ?_⟩, (Fr.rfl'.up (Or.inr (Or.inr (Or.inl rfl)))).up (Or.inr (Or.inr (Or.inr rfl)))⟩
      · rw [e, u2_a (by omega), hl.2]
      · simp [u2]
        exact h.1 b hb
      · have := h.2 l hl2
        by_cases q : l = 8 * i + j
        · simp [u2, q]
          rw [← q]
          exact this.1
        · simp [u2, q]
          exact this
  · refine ⟨-1, f, f, bk_X11_counts_0 hs ⟨fun _ => rfl, fun e1 => ⟨fun e2 => absurd ⟨e1, e2⟩ hc, fun _ => rfl⟩⟩, bk_X12_counts__0 hm ⟨by omega, fun _ => rfl, fun e1 => ⟨by omega, fun _ => rfl, fun e2 => ⟨fun _ => rfl, fun e3 => ⟨by omega, fun e4 => absurd ⟨⟨e1, e2, e3⟩, e4⟩ hc, fun _ => rfl⟩⟩⟩⟩, h, Fr.rfl'⟩
theorem c_cable {σ : St} {f : FI} {g : FL} {B : Nat} (hs : Sh11 σ B) (hm : Sh12 σ (B + 165)) (h : IC f B) {x y : Int} (rx : -2147483648 ≤ x ∧ x ≤ 2147483647) (ry : -2147483648 ≤ y ∧ y ≤ 2147483647) : ∃ (v : Int) (f1 f2 : FI), Ex mt 3 177 (il σ f g) [vR 11 (some B), vI x, vI y] (il σ f1 g, [vI v]) ∧ Ex mt 2 292 (il σ f1 g) [vR 12 (some (B + 165)), vI x, vI y] (il σ f2 g, [vI v]) ∧ IC f2 B ∧ Fr (fun a k => a = B + 163 ∨ a = B + 164 ∨ (a = B + 162 ∧ k = 2) ∨ a = B + 165 + 47 ∨ a = B + 165 + 48 ∨ (a = B + 165 ∧ k = 69)) f f2 := by
  obtain ⟨⟨h1, h2, h3⟩, h4, h5⟩ := h
  by_cases hc : (0 ≤ x ∧ x ≤ 7) ∧ (0 ≤ y ∧ y ≤ 7) ∧ ¬ x = y
  · by_cases hf : f (B + 162) 2 < 16
    · obtain ⟨n, hn⟩ := Int.eq_ofNat_of_zero_le h2
      have hn2 : f (B + 165) 69 = (n : Int) := by omega
      refine ⟨n, up2 (up2 (up2 f (B + 163) n x) (B + 164) n y) (B + 162) 2 (n + 1), up2 (up2 (up2 (up2 (up2 (up2 f (B + 163) n x) (B + 164) n y) (B + 162) 2 (n + 1)) (B + 165 + 47) n x) (B + 165 + 48) n y) (B + 165) 69 (n + 1), bk_X11_cable_0 hs ⟨fun e => absurd hc e, fun _ => ⟨_, g, _, bk_X0_lay_0 hs.o13 ⟨fun _ => ⟨by omega, rfl⟩, fun e => absurd hf e⟩, ?_⟩⟩, ?_, ⟨⟨by simp [u2], by simp [u2]; omega, by simp [u2]; omega⟩, by simp [u2]; exact h4, fun i hi => ?_⟩, ?_⟩
      · rw [hn]
        show _ = (_, [vI ((n : Int) + 1 - 1)])
        rw [Int.add_sub_cancel]
        rfl
      · have e69 : up2 (up2 (up2 f (B + 163) n x) (B + 164) n y) (B + 162) 2 ((n : Int) + 1) (B + 165) 69 = (n : Int) := by
          simp [u2]
          exact hn2
        refine bk_X12_cable_0 hm ?_
        rw [e69]
        refine ⟨fun e => absurd e (by omega), fun _ => ⟨by omega, fun e => absurd hc.1 e, fun _ => ⟨by omega, fun e => absurd hc.2.1 e, fun _ => ⟨fun _ => ⟨by omega, ?_⟩, fun e => absurd e hc.2.2⟩⟩⟩⟩
        rw [Int.add_sub_cancel]
        rfl
      · simp [u2] at hi ⊢
        by_cases q : i = n
        · simp [q]
          exact hc
        · simp [q]
          exact h5 i (by omega)
      · exact (((((Fr.rfl'.up (by omega)).up (by omega)).up (by omega)).up (by omega)).up (by omega)).up (by omega)
    · refine ⟨-1, f, f, bk_X11_cable_0 hs ⟨fun e => absurd hc e, fun _ => ⟨f, g, _, bk_X0_lay_0 hs.o13 ⟨fun e => absurd e hf, fun _ => rfl⟩, rfl⟩⟩, bk_X12_cable_0 hm ⟨fun _ => rfl, fun e => absurd (by omega) e⟩, ⟨⟨h1, h2, h3⟩, h4, h5⟩, Fr.rfl'⟩
  · refine ⟨-1, f, f, bk_X11_cable_0 hs ⟨fun _ => rfl, fun e => absurd e hc⟩, bk_X12_cable_0 hm ⟨fun _ => rfl, fun _ => ⟨by omega, fun _ => rfl, fun e1 => ⟨by omega, fun _ => rfl, fun e2 => ⟨fun e3 => absurd ⟨e1, e2, e3⟩ hc, fun _ => rfl⟩⟩⟩⟩, ⟨⟨h1, h2, h3⟩, h4, h5⟩, Fr.rfl'⟩
/-- m bytes behind the n that there were -/
def pb (f : FI) (o t n : Nat) (b : Nat → Int) (m : Nat) : FI := fun a k => if a = o ∧ k = 1 then ((n + m : Nat) : Int) else if a = t ∧ n ≤ k ∧ k < n + m then b (k - n) else f a k
theorem pb_0 {f : FI} {o t n : Nat} {b : Nat → Int} (h : f o 1 = n) : pb f o t n b 0 = f := by
  funext a k
  unfold pb
  split
  · rename_i e
    rw [e.1, e.2, h]
    rfl
  · rw [if_neg (by omega)]
theorem pb_s {f : FI} {o t n : Nat} {b : Nat → Int} {m : Nat} {v w : Int} (hot : ¬ t = o) (hv : v = b m) (hw : w = ((n + m : Nat) : Int) + 1) : up2 (up2 (pb f o t n b m) t (n + m) v) o 1 w = pb f o t n b (m + 1) := by
  subst hv hw
  funext a k
  rw [u2, u2]
  unfold pb
  by_cases h1 : a = o ∧ k = 1
  · rw [if_pos h1, if_pos h1]
    omega
  · rw [if_neg h1, if_neg h1, if_neg h1]
    by_cases h2 : a = t ∧ k = n + m
    · rw [if_pos h2, if_pos ⟨h2.1, by omega, by omega⟩]
      congr 1
      omega
    · rw [if_neg h2]
      by_cases h3 : a = t ∧ n ≤ k ∧ k < n + m
      · rw [if_pos h3, if_pos ⟨h3.1, by omega, by omega⟩]
      · rw [if_neg h3, if_neg]
        intro q
        rcases Nat.lt_or_ge k (n + m) with z | z
        · exact h3 ⟨q.1, q.2.1, z⟩
        · exact h2 ⟨q.1, by omega⟩
theorem pb_n {f : FI} {o t n : Nat} {b : Nat → Int} {m : Nat} : pb f o t n b m o 1 = ((n + m : Nat) : Int) := by
  unfold pb
  rw [if_pos ⟨rfl, rfl⟩]
theorem pb_t {f : FI} {o t n : Nat} {b : Nat → Int} {m k : Nat} (h : ¬ t = o) : pb f o t n b m t k = if n ≤ k ∧ k < n + m then b (k - n) else f t k := by
  unfold pb
  rw [if_neg (fun e => h e.1)]
  by_cases q : n ≤ k ∧ k < n + m
  · rw [if_pos ⟨rfl, q⟩, if_pos q]
  · rw [if_neg (fun e => q e.2), if_neg q]
theorem pb_o {f : FI} {o t n : Nat} {b : Nat → Int} {m a k : Nat} (h1 : ¬ (a = o ∧ k = 1)) (h2 : ¬ a = t) : pb f o t n b m a k = f a k := by
  unfold pb
  rw [if_neg h1, if_neg (fun e => h2 e.1)]
def bC (x : Nat → Int) (i : Nat) : Int := iUshr (x (i / 4)) (24 - 8 * ((i % 4 : Nat) : Int)) % 256
def bM (x : Nat → Int) (i : Nat) : Int := i2b (x (i / 4) / p2 (24 - 8 * ((i % 4 : Nat) : Int)))
theorem i2b_mod (a : Int) : i2b a % 256 = a % 256 ∧ -128 ≤ i2b a ∧ i2b a ≤ 127 := by
  unfold i2b
  rw [Int8.toInt_toInt32, Int32.toInt_toInt8, Int32.toInt_ofInt, Int.bmod_bmod_of_dvd (by decide)]
  rw [Int.bmod_def]
  split <;> omega
theorem ushr_mod : ∀ s : Nat, s ≤ 24 → ∀ x : Int, (-2147483648 ≤ x ∧ x ≤ 2147483647) → iUshr x (s : Int) % 256 = x / p2 (s : Int) % 256 := by
  intro s hs x hx
  have e1 : iUshr x (s : Int) = if s = 0 then x else x % 4294967296 / 2 ^ s := by
    unfold iUshr
    have e : ((Int32.ofInt (s : Int)).toUInt32 &&& Int32.toUInt32 31) = UInt32.ofNat s := (by decide +kernel : ∀ s : Nat, s ≤ 24 → ((Int32.ofInt (s : Int)).toUInt32 &&& Int32.toUInt32 31) = UInt32.ofNat s) s hs
    rw [e]
    have e2 : ((Int32.ofInt x).toUInt32 >>> UInt32.ofNat s).toNat = (x % 4294967296).toNat / 2 ^ s := by
      rw [UInt32.toNat_shiftRight, show (UInt32.ofNat s).toNat % 32 = s from by rw [UInt32.toNat_ofNat']; omega, Nat.shiftRight_eq_div_pow]
      congr 1
    have e3 : ((Int32.ofInt x).toUInt32 >>> UInt32.ofNat s).toInt32.toInt = (((x % 4294967296).toNat / 2 ^ s : Nat) : Int).bmod (2 ^ 32) := by
      rw [← e2]
      show BitVec.toInt _ = _
      rw [BitVec.toInt_eq_toNat_bmod]
      rfl
    rw [e3]
    by_cases h0 : s = 0
    · subst h0
      rw [if_pos rfl, Nat.pow_zero, Nat.div_one, Int.toNat_of_nonneg (Int.emod_nonneg _ (by decide))]
      rw [Int.bmod_def]
      split <;> omega
    · rw [if_neg h0]
      have h2 : (x % 4294967296).toNat / 2 ^ s ≤ (x % 4294967296).toNat / 2 := by
        apply Nat.div_le_div_left
        · exact Nat.le_self_pow h0 2
        · decide
      have h3 : (((x % 4294967296).toNat / 2 ^ s : Nat) : Int) = x % 4294967296 / 2 ^ s := by
        rw [Int.natCast_ediv, Int.toNat_of_nonneg (Int.emod_nonneg _ (by decide)), Int.natCast_pow]
        rfl
      rw [← h3]
      apply Int.bmod_eq_of_le_mul_two <;> omega
  rw [e1, p2_nat]
  by_cases h0 : s = 0
  · subst h0
    rw [if_pos rfl, Int.pow_zero, Int.ediv_one]
  · rw [if_neg h0]
    have h4 : x = x % 4294967296 + 2 ^ s * (x / 4294967296 * 2 ^ (24 - s) * 256) := by
      have a := Int.emod_add_mul_ediv x 4294967296
      have b : (2 : Int) ^ s * 2 ^ (24 - s) = 16777216 := by
        rw [← Int.pow_add, Nat.add_sub_cancel' hs]
        rfl
      have c : (2 : Int) ^ s * (x / 4294967296 * 2 ^ (24 - s) * 256) = (2 ^ s * 2 ^ (24 - s)) * (x / 4294967296 * 256) := by
        rw [Int.mul_assoc (x / 4294967296), Int.mul_comm (2 ^ (24 - s)) 256, ← Int.mul_assoc (x / 4294967296), Int.mul_comm (x / 4294967296 * 256), ← Int.mul_assoc]
      rw [c, b]
      omega
    have hp : (2 : Int) ^ s ≠ 0 := by
      have : (0 : Int) < 2 ^ s := Int.pow_pos (by decide)
      omega
    conv => rhs; rw [h4, Int.add_mul_ediv_left _ _ hp]
    generalize x % 4294967296 / 2 ^ s = y
    generalize x / 4294967296 * 2 ^ (24 - s) = z
    omega
theorem bCM {x : Nat → Int} (hx : ∀ k, k < 5 → -2147483648 ≤ x k ∧ x k ≤ 2147483647) {i : Nat} (hi : i < 20) : bC x i = bM x i % 256 := by
  unfold bC bM
  rw [(i2b_mod _).1, show (24 : Int) - 8 * ((i % 4 : Nat) : Int) = ((24 - 8 * (i % 4) : Nat) : Int) by omega]
  exact ushr_mod _ (by omega) _ (hx _ (by omega))
def A_X11_takeBytes_3 (σ : St) (f : FI) (g : FL) (a : Nat) (x1 : Int) (x2 : Int) (r : St × List Vl) : Prop := Gx mt 0 cd_X11_takeBytes (il σ f g) (cd_X11_takeBytes 3) [some (vR 11 (some a)), some (vI x1), some (vI x2)] [] r
theorem bk_X11_takeBytes_0 {σ : St} {f : FI} {g : FL} {a : Nat} {x1 : Int} {r : St × List Vl} (hs : Sh11 σ a) (h : (A_X11_takeBytes_3 σ f g a x1 24 r)) : Ex mt 0 142 (il σ f g) [vR 11 (some a), vI x1] r := Ex.mk mt_142 (show Gx mt 0 cd_X11_takeBytes (il σ f g) b_X11_takeBytes_0 [some (vR 11 (some a)), some (vI x1), none] [] r from (go_pushI rfl (go_stoI rfl rfl (go_fall (h)))))
theorem bk_X11_takeBytes_3 {σ : St} {f : FI} {g : FL} {a : Nat} {x1 : Int} {x2 : Int} {r : St × List Vl} (hs : Sh11 σ a) (h : ((x2 < 0 → (r = ((il σ f g), []))) ∧ (¬ x2 < 0 → ((200 ≤ (f a 1) → ((-2147483648 ≤ (x2 + (-8)) ∧ (x2 + (-8)) ≤ 2147483647)) ∧ (A_X11_takeBytes_3 σ f g a x1 (x2 + (-8)) r)) ∧ (¬ 200 ≤ (f a 1) → ((0 ≤ (f a 1) ∧ (f a 1) < 200) ∧ (-2147483648 ≤ ((f a 1) + 1) ∧ ((f a 1) + 1) ≤ 2147483647)) ∧ ((-2147483648 ≤ (x2 + (-8)) ∧ (x2 + (-8)) ≤ 2147483647)) ∧ (A_X11_takeBytes_3 σ (up2 (up2 f (a + 1) (((f a 1)).toNat) ((iUshr x1 x2) % 256)) a 1 ((f a 1) + 1)) g a x1 (x2 + (-8)) r)))))) : A_X11_takeBytes_3 σ f g a x1 x2 r := (show Gx mt 0 cd_X11_takeBytes (il σ f g) b_X11_takeBytes_3 [some (vR 11 (some a)), some (vI x1), some (vI x2)] [] r from (go_loadI rfl (gq_if_lt (fun e3 => have h1 := h.1 e3; (h1 ▸ gq_retV)) (fun e3 => have h2 := h.2 e3; (go_loadA rfl (gi_getI (go_pushI rfl (gq_icmp_ge (fun e6 => have h4 := h2.1 e6; (go_iinc rfl h4.1 rfl (go_goto (h4.2)))) (fun e6 => have h5 := h2.2 e6; (go_loadA rfl (gi_getR (Sh11.r0 hs) (go_loadA rfl (gi_getI (go_loadI rfl (go_loadI rfl (go_iushr rfl (go_pushI rfl (go_iand (iAnd_m255 _) (gi_iast (inl_ (Sh11.l0 hs) h5.1.1) (go_loadA rfl (go_dupA (gi_getIe (u2_a (by omega)) (go_pushI rfl (go_iadd h5.1.2 (gi_putI (go_fall (go_iinc rfl h5.2.1 rfl (go_goto (h5.2.2)))))))))))))))))))))))))))))
theorem bk_X11_feed_0 {σ : St} {f : FI} {g : FL} {a : Nat} {x1 : Int} {x2 : Int} {x3 : Int} {x4 : Int} {x5 : Int} {r : St × List Vl} (hs : Sh11 σ a) (h : (((f a 1) ≤ 180 → (∃ (f4 : FI) (g5 : FL), Ex mt 0 142 (il σ f g) [vR 11 (some a), vI x1] ((il σ f4 g5), []) ∧ (∃ (f7 : FI) (g8 : FL), Ex mt 0 142 (il σ f4 g5) [vR 11 (some a), vI x2] ((il σ f7 g8), []) ∧ (∃ (f10 : FI) (g11 : FL), Ex mt 0 142 (il σ f7 g8) [vR 11 (some a), vI x3] ((il σ f10 g11), []) ∧ (∃ (f13 : FI) (g14 : FL), Ex mt 0 142 (il σ f10 g11) [vR 11 (some a), vI x4] ((il σ f13 g14), []) ∧ (∃ (f16 : FI) (g17 : FL), Ex mt 0 142 (il σ f13 g14) [vR 11 (some a), vI x5] ((il σ f16 g17), []) ∧ (r = ((il σ f16 g17), [vI (f16 a 1)])))))))) ∧ (¬ (f a 1) ≤ 180 → (r = ((il σ f g), [vI (-1)]))))) : Ex mt 1 141 (il σ f g) [vR 11 (some a), vI x1, vI x2, vI x3, vI x4, vI x5] r := Ex.mk mt_141 (show Gx mt 1 cd_X11_feed (il σ f g) b_X11_feed_0 [some (vR 11 (some a)), some (vI x1), some (vI x2), some (vI x3), some (vI x4), some (vI x5)] [] r from (go_loadA rfl (gi_getI (go_pushI rfl (gq_icmp_le (fun e3 => have h1 := h.1 e3; (go_loadA rfl (go_loadI rfl (Exists.elim h1 fun f4 w23 => Exists.elim w23 fun g5 h6 => (go_callV rfl rfl rfl h6.1 (go_loadA rfl (go_loadI rfl (Exists.elim h6.2 fun f7 w22 => Exists.elim w22 fun g8 h9 => (go_callV rfl rfl rfl h9.1 (go_loadA rfl (go_loadI rfl (Exists.elim h9.2 fun f10 w21 => Exists.elim w21 fun g11 h12 => (go_callV rfl rfl rfl h12.1 (go_loadA rfl (go_loadI rfl (Exists.elim h12.2 fun f13 w20 => Exists.elim w20 fun g14 h15 => (go_callV rfl rfl rfl h15.1 (go_loadA rfl (go_loadI rfl (Exists.elim h15.2 fun f16 w19 => Exists.elim w19 fun g17 h18 => (go_callV rfl rfl rfl h18.1 (go_loadA rfl (gi_getI (h18.2 ▸ gq_retI)))))))))))))))))))))))) (fun e3 => have h2 := h.2 e3; (go_pushI rfl (h2 ▸ gq_retI))))))))
def A_X12_put_3 (σ : St) (f : FI) (g : FL) (a : Nat) (x1 : Int) (x2 : Int) (r : St × List Vl) : Prop := Gx mt 0 cd_X12_put (il σ f g) (cd_X12_put 3) [some (vR 12 (some a)), some (vI x1), some (vI x2)] [] r
theorem bk_X12_put_0 {σ : St} {f : FI} {g : FL} {a : Nat} {x1 : Int} {r : St × List Vl} (hs : Sh12 σ a) (h : (A_X12_put_3 σ f g a x1 24 r)) : Ex mt 0 205 (il σ f g) [vR 12 (some a), vI x1] r := Ex.mk mt_205 (show Gx mt 0 cd_X12_put (il σ f g) b_X12_put_0 [some (vR 12 (some a)), some (vI x1), none] [] r from (go_pushI rfl (go_stoI rfl rfl (go_fall (h)))))
theorem bk_X12_put_3 {σ : St} {f : FI} {g : FL} {a : Nat} {x1 : Int} {x2 : Int} {r : St × List Vl} (hs : Sh12 σ a) (h : ((x2 < 0 → (r = ((il σ f g), []))) ∧ (¬ x2 < 0 → ((-2147483648 ≤ x1 ∧ x1 ≤ 2147483647) ∧ (0 ≤ x2 ∧ x2 < 32) ∧ (0 ≤ (f a 1) ∧ (f a 1) < 200) ∧ (-128 ≤ (i2b (x1 / p2 x2)) ∧ (i2b (x1 / p2 x2)) ≤ 127) ∧ (-2147483648 ≤ ((f a 1) + 1) ∧ ((f a 1) + 1) ≤ 2147483647) ∧ (-2147483648 ≤ (x2 + (-8)) ∧ (x2 + (-8)) ≤ 2147483647)) ∧ (A_X12_put_3 σ (up2 (up2 f (a + 1) (((f a 1)).toNat) (i2b (x1 / p2 x2))) a 1 ((f a 1) + 1)) g a x1 (x2 + (-8)) r)))) : A_X12_put_3 σ f g a x1 x2 r := (show Gx mt 0 cd_X12_put (il σ f g) b_X12_put_3 [some (vR 12 (some a)), some (vI x1), some (vI x2)] [] r from (go_loadI rfl (gq_if_lt (fun e3 => have h1 := h.1 e3; (h1 ▸ gq_retV)) (fun e3 => have h2 := h.2 e3; (go_loadA rfl (gi_getR (Sh12.r9 hs) (go_loadA rfl (gi_getI (go_loadI rfl (go_loadI rfl (go_ishr (iShr_v h2.1.1 h2.1.2.1) (go_i2b rfl (gi_bast (inl_ (Sh12.l9 hs) h2.1.2.2.1) h2.1.2.2.2.1 (go_loadA rfl (go_dupA (gi_getIe (u2_a (by omega)) (go_pushI rfl (go_iadd h2.1.2.2.2.2.1 (gi_putI (go_iinc rfl h2.1.2.2.2.2.2 rfl (go_goto (h2.2))))))))))))))))))))))
theorem bk_X12_feed_0 {σ : St} {f : FI} {g : FL} {a : Nat} {x1 : Int} {x2 : Int} {x3 : Int} {x4 : Int} {x5 : Int} {r : St × List Vl} (hs : Sh12 σ a) (h : ((-2147483648 ≤ ((f a 1) + 20) ∧ ((f a 1) + 20) ≤ 2147483647)) ∧ ((((f a 1) + 20) ≤ 200 → (∃ (f4 : FI) (g5 : FL), Ex mt 0 205 (il σ f g) [vR 12 (some a), vI x1] ((il σ f4 g5), []) ∧ (∃ (f7 : FI) (g8 : FL), Ex mt 0 205 (il σ f4 g5) [vR 12 (some a), vI x2] ((il σ f7 g8), []) ∧ (∃ (f10 : FI) (g11 : FL), Ex mt 0 205 (il σ f7 g8) [vR 12 (some a), vI x3] ((il σ f10 g11), []) ∧ (∃ (f13 : FI) (g14 : FL), Ex mt 0 205 (il σ f10 g11) [vR 12 (some a), vI x4] ((il σ f13 g14), []) ∧ (∃ (f16 : FI) (g17 : FL), Ex mt 0 205 (il σ f13 g14) [vR 12 (some a), vI x5] ((il σ f16 g17), []) ∧ (r = ((il σ f16 g17), [vI (f16 a 1)])))))))) ∧ (¬ ((f a 1) + 20) ≤ 200 → (r = ((il σ f g), [vI (-1)]))))) : Ex mt 1 204 (il σ f g) [vR 12 (some a), vI x1, vI x2, vI x3, vI x4, vI x5] r := Ex.mk mt_204 (show Gx mt 1 cd_X12_feed (il σ f g) b_X12_feed_0 [some (vR 12 (some a)), some (vI x1), some (vI x2), some (vI x3), some (vI x4), some (vI x5)] [] r from (go_loadA rfl (gi_getI (go_pushI rfl (go_iadd h.1 (go_pushI rfl (gq_icmp_le (fun e3 => have h1 := h.2.1 e3; (go_loadA rfl (go_loadI rfl (Exists.elim h1 fun f4 w23 => Exists.elim w23 fun g5 h6 => (go_callV rfl rfl rfl h6.1 (go_loadA rfl (go_loadI rfl (Exists.elim h6.2 fun f7 w22 => Exists.elim w22 fun g8 h9 => (go_callV rfl rfl rfl h9.1 (go_loadA rfl (go_loadI rfl (Exists.elim h9.2 fun f10 w21 => Exists.elim w21 fun g11 h12 => (go_callV rfl rfl rfl h12.1 (go_loadA rfl (go_loadI rfl (Exists.elim h12.2 fun f13 w20 => Exists.elim w20 fun g14 h15 => (go_callV rfl rfl rfl h15.1 (go_loadA rfl (go_loadI rfl (Exists.elim h15.2 fun f16 w19 => Exists.elim w19 fun g17 h18 => (go_callV rfl rfl rfl h18.1 (go_loadA rfl (gi_getI (h18.2 ▸ gq_retI)))))))))))))))))))))))) (fun e3 => have h2 := h.2.2 e3; (go_pushI rfl (h2 ▸ gq_retI))))))))))
theorem x_take {σ : St} {f : FI} {g : FL} {B n k : Nat} (hs : Sh11 σ B) {x : Nat → Int} (hn : n + 20 ≤ 200) (hk : k < 5) : Ex mt 0 142 (il σ (pb f B (B + 1) n (bC x) (4 * k)) g) [vR 11 (some B), vI (x k)] (il σ (pb f B (B + 1) n (bC x) (4 * (k + 1))) g, []) := by
  have stp : ∀ (m i : Nat) (s : Int) (r : St × List Vl), m = 4 * k + i → i < 4 → s = 24 - 8 * (i : Int) → A_X11_takeBytes_3 σ (pb f B (B + 1) n (bC x) (m + 1)) g B (x k) (s + -8) r → A_X11_takeBytes_3 σ (pb f B (B + 1) n (bC x) m) g B (x k) s r := by
    intro m i s r hm hi hsv kk
    refine bk_X11_takeBytes_3 hs ?_
    rw [pb_n]
    refine ⟨fun e => absurd e (by omega), fun _ => ⟨fun e => absurd e (by omega), fun _ => ⟨by omega, by omega, ?_⟩⟩⟩
    rw [show (((n + m : Nat) : Int)).toNat = n + m from rfl, pb_s (by omega) ?_ rfl]
    · exact kk
    · unfold bC
      rw [show m / 4 = k by omega, show m % 4 = i by omega, hsv]
  refine bk_X11_takeBytes_0 hs (stp _ 0 24 _ rfl (by decide) (by decide) (stp _ 1 16 _ rfl (by decide) (by decide) (stp _ 2 8 _ rfl (by decide) (by decide) (stp _ 3 0 _ rfl (by decide) (by decide) (bk_X11_takeBytes_3 hs ⟨fun _ => rfl, fun e => absurd (by decide) e⟩)))))
theorem x_put {σ : St} {f : FI} {g : FL} {B n k : Nat} (hs : Sh12 σ B) {x : Nat → Int} (hx : ∀ k, k < 5 → -2147483648 ≤ x k ∧ x k ≤ 2147483647) (hn : n + 20 ≤ 200) (hk : k < 5) : Ex mt 0 205 (il σ (pb f B (B + 1) n (bM x) (4 * k)) g) [vR 12 (some B), vI (x k)] (il σ (pb f B (B + 1) n (bM x) (4 * (k + 1))) g, []) := by
  have stp : ∀ (m i : Nat) (s : Int) (r : St × List Vl), m = 4 * k + i → i < 4 → s = 24 - 8 * (i : Int) → A_X12_put_3 σ (pb f B (B + 1) n (bM x) (m + 1)) g B (x k) (s + -8) r → A_X12_put_3 σ (pb f B (B + 1) n (bM x) m) g B (x k) s r := by
    intro m i s r hm hi hsv kk
    refine bk_X12_put_3 hs ?_
    rw [pb_n]
    have hb := (i2b_mod (x k / p2 s)).2
    have := hx k hk
    refine ⟨fun e => absurd e (by omega), fun _ => ⟨by omega, ?_⟩⟩
    rw [show (((n + m : Nat) : Int)).toNat = n + m from rfl, pb_s (by omega) ?_ rfl]
    · exact kk
    · unfold bM
      rw [show m / 4 = k by omega, show m % 4 = i by omega, hsv]
  refine bk_X12_put_0 hs (stp _ 0 24 _ rfl (by decide) (by decide) (stp _ 1 16 _ rfl (by decide) (by decide) (stp _ 2 8 _ rfl (by decide) (by decide) (stp _ 3 0 _ rfl (by decide) (by decide) (bk_X12_put_3 hs ⟨fun _ => rfl, fun e => absurd (by decide) e⟩)))))
theorem c_feed {σ : St} {f : FI} {g : FL} {B : Nat} (hs : Sh11 σ B) (hm : Sh12 σ (B + 165)) (h : IT f B) {x : Nat → Int} (hx : ∀ k, k < 5 → -2147483648 ≤ x k ∧ x k ≤ 2147483647) : ∃ (v : Int) (f1 f2 : FI), Ex mt 1 141 (il σ f g) [vR 11 (some B), vI (x 0), vI (x 1), vI (x 2), vI (x 3), vI (x 4)] (il σ f1 g, [vI v]) ∧ Ex mt 1 204 (il σ f1 g) [vR 12 (some (B + 165)), vI (x 0), vI (x 1), vI (x 2), vI (x 3), vI (x 4)] (il σ f2 g, [vI v]) ∧ IT f2 B ∧ Fr (fun a k => (a = B ∧ k = 1) ∨ a = B + 1 ∨ (a = B + 165 ∧ k = 1) ∨ a = B + 165 + 1) f f2 := by
  obtain ⟨⟨h1, h2, h3⟩, h4⟩ := h
  obtain ⟨n, hn⟩ := Int.eq_ofNat_of_zero_le h2
  by_cases hc : f B 1 ≤ 180
  · have hn20 : n + 20 ≤ 200 := by omega
    have a0 : pb f B (B + 1) n (bC x) (4 * 0) = f := pb_0 hn
    have t0 := x_take (f := f) (g := g) (k := 0) hs (x := x) hn20 (by decide)
    rw [a0] at t0
    have hm1 : pb f B (B + 1) n (bC x) 20 (B + 165) 1 = n := by
      unfold pb
      rw [if_neg (by omega), if_neg (by omega), ← h1, hn]
    have b0 : pb (pb f B (B + 1) n (bC x) 20) (B + 165) (B + 165 + 1) n (bM x) (4 * 0) = pb f B (B + 1) n (bC x) 20 := pb_0 hm1
    have p0 := x_put (f := pb f B (B + 1) n (bC x) 20) (g := g) (k := 0) hm (x := x) hx hn20 (by decide)
    rw [b0] at p0
    refine ⟨((n + 20 : Nat) : Int), pb f B (B + 1) n (bC x) 20, pb (pb f B (B + 1) n (bC x) 20) (B + 165) (B + 165 + 1) n (bM x) 20, bk_X11_feed_0 hs ⟨fun _ => ⟨_, g, t0, _, g, x_take hs hn20 (by decide), _, g, x_take hs hn20 (by decide), _, g, x_take hs hn20 (by decide), _, g, x_take hs hn20 (by decide), ?_⟩, fun e => absurd hc e⟩, ?_, ⟨⟨?_, ?_, ?_⟩, ?_⟩, ?_⟩
    · rw [pb_n]
    · refine bk_X12_feed_0 hm ?_
      rw [hm1]
      refine ⟨by omega, fun _ => ⟨_, g, p0, _, g, x_put hm hx hn20 (by decide), _, g, x_put hm hx hn20 (by decide), _, g, x_put hm hx hn20 (by decide), _, g, x_put hm hx hn20 (by decide), ?_⟩, fun e => absurd (by omega) e⟩
      rw [pb_n]
    · rw [pb_n]
      unfold pb
      rw [if_neg (by omega), if_neg (by omega), if_pos ⟨rfl, rfl⟩]
    · unfold pb
      rw [if_neg (by omega), if_neg (by omega), if_pos ⟨rfl, rfl⟩]
      omega
    · unfold pb
      rw [if_neg (by omega), if_neg (by omega), if_pos ⟨rfl, rfl⟩]
      omega
    · intro i hi
      have hi2 : i < n + 20 := by
        unfold pb at hi
        rw [if_neg (by omega), if_neg (by omega), if_pos ⟨rfl, rfl⟩] at hi
        omega
      rw [pb_o (by omega) (by omega), pb_t (by omega), pb_t (by omega), pb_o (by omega) (by omega)]
      by_cases q : n ≤ i
      · rw [if_pos ⟨q, hi2⟩, if_pos ⟨q, hi2⟩]
        exact ⟨bCM hx (by omega), (i2b_mod _).2⟩
      · rw [if_neg (by omega), if_neg (by omega)]
        exact h4 i (by omega)
    · intro a k hk
      unfold pb
      rw [if_neg (by omega), if_neg (by omega), if_neg (by omega), if_neg (by omega)]
  · exact ⟨-1, f, f, bk_X11_feed_0 hs ⟨fun e => absurd e hc, fun _ => rfl⟩, bk_X12_feed_0 hm ⟨by omega, fun e => absurd (by omega) hc, fun _ => rfl⟩, ⟨⟨h1, h2, h3⟩, h4⟩, Fr.rfl'⟩
