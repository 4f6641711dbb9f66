/-! kept -/
def A_X12_hasRoom_4 (σ : St) (f : FI) (g : FL) (a : Nat) (x1 : Int) (x2 : Int) (x3 : Int) (r : St × List Vl) : Prop := ∀ (y4 : Option Vl) (y5 : Option Vl), Gx mt 0 cd_X12_hasRoom (il σ f g) (cd_X12_hasRoom 4) [some (vR 12 (some a)), some (vI x1), some (vI x2), some (vI x3), y4, y5] [] r
def A_X12_hasRoom_16 (σ : St) (f : FI) (g : FL) (a : Nat) (x1 : Int) (x2 : Int) (x3 : Int) (x4 : Int) (x5 : Int) (r : St × List Vl) : Prop := Gx mt 0 cd_X12_hasRoom (il σ f g) (cd_X12_hasRoom 16) [some (vR 12 (some a)), some (vI x1), some (vI x2), some (vI x3), some (vI x4), some (vI x5)] [] r
theorem bk_X12_hasRoom_0 {σ : St} {f : FI} {g : FL} {a : Nat} {x1 : Int} {r : St × List Vl} (hs : Sh12 σ a) (h : (A_X12_hasRoom_4 σ f g a x1 1 0 r)) : Ex mt 0 276 (il σ f g) [vR 12 (some a), vI x1] r := Ex.mk mt_276 (show Gx mt 0 cd_X12_hasRoom (il σ f g) b_X12_hasRoom_0 [some (vR 12 (some a)), some (vI x1), none, none, none, none] [] r from (go_pushI rfl (go_stoI rfl rfl (go_pushI rfl (go_stoI rfl rfl (go_fall (h _ _)))))))
theorem bk_X12_hasRoom_4 {σ : St} {f : FI} {g : FL} {a : Nat} {x1 : Int} {x2 : Int} {x3 : Int} {r : St × List Vl} (hs : Sh12 σ a) (h : ((8 ≤ x3 → ((0 ≤ x2 ∧ x2 ≤ 1)) ∧ (r = ((il σ f g), [vI x2]))) ∧ (¬ 8 ≤ x3 → (A_X12_hasRoom_16 σ f g a x1 x2 x3 0 0 r)))) : A_X12_hasRoom_4 σ f g a x1 x2 x3 r := fun y4 y5 => (show Gx mt 0 cd_X12_hasRoom (il σ f g) b_X12_hasRoom_4 [some (vR 12 (some a)), some (vI x1), some (vI x2), some (vI x3), y4, y5] [] r from (go_loadI rfl (go_pushI rfl (gq_icmp_ge (fun e3 => have h1 := h.1 e3; (go_loadI rfl (h1.2 ▸ (gq_retZ h1.1)))) (fun e3 => have h2 := h.2 e3; (go_pushI rfl (go_stoI rfl rfl (go_pushI rfl (go_stoI rfl rfl (go_fall (h2)))))))))))
theorem bk_X12_hasRoom_16 {σ : St} {f : FI} {g : FL} {a : Nat} {x1 : Int} {x2 : Int} {x3 : Int} {x4 : Int} {x5 : Int} {r : St × List Vl} (hs : Sh12 σ a) (h : (((f a 4) ≤ x5 → ((x2 = 0 → ((-2147483648 ≤ (x3 + 1) ∧ (x3 + 1) ≤ 2147483647)) ∧ (A_X12_hasRoom_4 σ f g a x1 0 (x3 + 1) r)) ∧ (¬ x2 = 0 → ((0 ≤ x3 ∧ x3 < 8)) ∧ (((f (a + 38) ((x3).toNat)) < x4 → ((-2147483648 ≤ (x3 + 1) ∧ (x3 + 1) ≤ 2147483647)) ∧ (A_X12_hasRoom_4 σ f g a x1 0 (x3 + 1) r)) ∧ (¬ (f (a + 38) ((x3).toNat)) < x4 → ((-2147483648 ≤ (x3 + 1) ∧ (x3 + 1) ≤ 2147483647)) ∧ (A_X12_hasRoom_4 σ f g a x1 1 (x3 + 1) r)))))) ∧ (¬ (f a 4) ≤ x5 → ((-2147483648 ≤ x1 ∧ x1 ≤ 2147483647) ∧ (0 ≤ x5 ∧ x5 < 32)) ∧ ((¬ ((x1 / p2 x5) % 2) = 1 → ((-2147483648 ≤ (x4 + 0) ∧ (x4 + 0) ≤ 2147483647) ∧ (-2147483648 ≤ (x5 + 1) ∧ (x5 + 1) ≤ 2147483647)) ∧ (A_X12_hasRoom_16 σ f g a x1 x2 x3 (x4 + 0) (x5 + 1) r)) ∧ (((x1 / p2 x5) % 2) = 1 → ((-2147483648 ≤ (8 * x5) ∧ (8 * x5) ≤ 2147483647) ∧ (-2147483648 ≤ ((8 * x5) + x3) ∧ ((8 * x5) + x3) ≤ 2147483647) ∧ (0 ≤ ((8 * x5) + x3) ∧ ((8 * x5) + x3) < 96)) ∧ ((-2147483648 ≤ (x4 + (f (a + 36) ((((8 * x5) + x3)).toNat))) ∧ (x4 + (f (a + 36) ((((8 * x5) + x3)).toNat))) ≤ 2147483647) ∧ (-2147483648 ≤ (x5 + 1) ∧ (x5 + 1) ≤ 2147483647)) ∧ (A_X12_hasRoom_16 σ f g a x1 x2 x3 (x4 + (f (a + 36) ((((8 * x5) + x3)).toNat))) (x5 + 1) r)))))) : A_X12_hasRoom_16 σ f g a x1 x2 x3 x4 x5 r := (show Gx mt 0 cd_X12_hasRoom (il σ f g) b_X12_hasRoom_16 [some (vR 12 (some a)), some (vI x1), some (vI x2), some (vI x3), some (vI x4), some (vI x5)] [] r from (go_loadI rfl (go_loadA rfl (gi_getI (gq_icmp_ge (fun e3 => have h1 := h.1 e3; (go_loadI rfl (gq_if_eq (fun e6 => have h4 := h1.1 e6; (go_pushI rfl (go_fall (go_stoI rfl rfl (go_iinc rfl h4.1 rfl (go_goto (h4.2 _ _))))))) (fun e6 => have h5 := h1.2 e6; (go_loadI rfl (go_loadA rfl (gi_getR (Sh12.r57 hs) (go_loadI rfl (gi_iald (inl_ (Sh12.l57 hs) h5.1) (gq_icmp_gt (fun e9 => have h7 := h5.2.1 e9; (go_pushI rfl (go_fall (go_stoI rfl rfl (go_iinc rfl h7.1 rfl (go_goto (h7.2 _ _))))))) (fun e9 => have h8 := h5.2.2 e9; (go_pushI rfl (go_goto (go_stoI rfl rfl (go_iinc rfl h8.1 rfl (go_goto (h8.2 _ _))))))))))))))))) (fun e3 => have h2 := h.2 e3; (go_loadI rfl (go_loadI rfl (go_loadI rfl (go_ishr (iShr_v h2.1.1 h2.1.2) (go_pushI rfl (go_iand (iAnd_m1 _) (go_pushI rfl (gq_icmp_ne (fun e12 => have h10 := h2.2.1 e12; (go_pushI rfl (go_fall (go_iadd h10.1.1 (go_stoI rfl rfl (go_iinc rfl h10.1.2 rfl (go_goto (h10.2)))))))) (fun e12 => have h11 := h2.2.2 e12; (go_loadA rfl (gi_getR (Sh12.r55 hs) (go_pushI rfl (go_loadI rfl (go_imul h11.1.1 (go_loadI rfl (go_iadd h11.1.2.1 (gi_iald (inl_ (Sh12.l55 hs) h11.1.2.2) (go_goto (go_iadd h11.2.1.1 (go_stoI rfl rfl (go_iinc rfl h11.2.1.2 rfl (go_goto (h11.2.2)))))))))))))))))))))))))))))
def A_X12_kept_19 (σ : St) (f : FI) (g : FL) (a : Nat) (x1 : Int) (x2 : Int) (x3 : Int) (x4 : Int) (r : St × List Vl) : Prop := ∀ (y5 : Option Vl) (y6 : Option Vl), Gx mt 1 cd_X12_kept (il σ f g) (cd_X12_kept 19) [some (vR 12 (some a)), some (vI x1), some (vI x2), some (vI x3), some (vI x4), y5, y6] [] r
def A_X12_kept_36 (σ : St) (f : FI) (g : FL) (a : Nat) (x1 : Int) (x2 : Int) (x3 : Int) (x4 : Int) (x5 : Int) (x6 : Int) (r : St × List Vl) : Prop := Gx mt 1 cd_X12_kept (il σ f g) (cd_X12_kept 36) [some (vR 12 (some a)), some (vI x1), some (vI x2), some (vI x3), some (vI x4), some (vI x5), some (vI x6)] [] r
theorem bk_X12_kept_0 {σ : St} {f : FI} {g : FL} {a : Nat} {x1 : Int} {r : St × List Vl} (hs : Sh12 σ a) (h : ((-2147483648 ≤ x1 ∧ x1 ≤ 2147483647)) ∧ ((((0 ≤ x1 ∧ x1 ≤ 1)) → (A_X12_kept_19 σ f g a x1 0 0 1 r)) ∧ (¬ ((0 ≤ x1 ∧ x1 ≤ 1)) → (r = ((il σ f g), [vI (-1)]))))) : Ex mt 1 277 (il σ f g) [vR 12 (some a), vI x1] r := Ex.mk mt_277 (show Gx mt 1 cd_X12_kept (il σ f g) b_X12_kept_0 [some (vR 12 (some a)), some (vI x1), none, none, none, none, none] [] r from (go_loadI rfl (go_i2l (go_pushL rfl (go_pushL rfl (go_callS rfl rfl rfl (pu_in h.1 ⟨by decide, by decide⟩ ⟨by decide, by decide⟩ (v := x1) (lo := 0) (hi := 1)) (go_ifb_ne (fun e3 => have h1 := h.2.1 e3; (go_pushI rfl (go_stoI rfl rfl (go_pushI rfl (go_stoI rfl rfl (go_pushI rfl (go_stoI rfl rfl (go_fall (h1 _ _))))))))) (fun e3 => have h2 := h.2.2 e3; (go_pushI rfl (h2 ▸ gq_retI))))))))))
theorem bk_X12_kept_19 {σ : St} {f : FI} {g : FL} {a : Nat} {x1 : Int} {x2 : Int} {x3 : Int} {x4 : Int} {r : St × List Vl} (hs : Sh12 σ a) (h : ((0 ≤ (f a 4) ∧ (f a 4) < 31)) ∧ (((p2 (f a 4)) ≤ x4 → ((¬ x1 = 0 → (r = ((il σ f g), [vI x3]))) ∧ (x1 = 0 → (r = ((il σ f g), [vI x2]))))) ∧ (¬ (p2 (f a 4)) ≤ x4 → (A_X12_kept_36 σ f g a x1 x2 x3 x4 0 0 r)))) : A_X12_kept_19 σ f g a x1 x2 x3 x4 r := fun y5 y6 => (show Gx mt 1 cd_X12_kept (il σ f g) b_X12_kept_19 [some (vR 12 (some a)), some (vI x1), some (vI x2), some (vI x3), some (vI x4), y5, y6] [] r from (go_loadI rfl (go_pushI rfl (go_loadA rfl (gi_getI (go_ishl (iShl_1 h.1) (gq_icmp_ge (fun e3 => have h1 := h.2.1 e3; (go_loadI rfl (gq_if_ne (fun e6 => have h4 := h1.1 e6; (go_loadI rfl (go_fall (h4 ▸ gq_retI)))) (fun e6 => have h5 := h1.2 e6; (go_loadI rfl (go_goto (h5 ▸ gq_retI))))))) (fun e3 => have h2 := h.2.2 e3; (go_pushI rfl (go_stoI rfl rfl (go_pushI rfl (go_stoI rfl rfl (go_fall (h2))))))))))))))
theorem bk_X12_kept_36 {σ : St} {f : FI} {g : FL} {a : Nat} {x1 : Int} {x2 : Int} {x3 : Int} {x4 : Int} {x5 : Int} {x6 : Int} {r : St × List Vl} (hs : Sh12 σ a) (h : (((f a 4) ≤ x6 → ((x3 < x5 → (∃ (f7 : FI) (g8 : FL) (v10 : Int), Ex mt 0 276 (il σ f g) [vR 12 (some a), vI x4] ((il σ f7 g8), [vI v10]) ∧ ((v10 = 0 → ((-2147483648 ≤ (x4 + 1) ∧ (x4 + 1) ≤ 2147483647)) ∧ (A_X12_kept_19 σ f7 g8 a x1 x2 x3 (x4 + 1) r)) ∧ (¬ v10 = 0 → ((-2147483648 ≤ (x4 + 1) ∧ (x4 + 1) ≤ 2147483647)) ∧ (A_X12_kept_19 σ f7 g8 a x1 x4 x5 (x4 + 1) r))))) ∧ (¬ x3 < x5 → ((¬ x5 = x3 → ((-2147483648 ≤ (x4 + 1) ∧ (x4 + 1) ≤ 2147483647)) ∧ (A_X12_kept_19 σ f g a x1 x2 x3 (x4 + 1) r)) ∧ (x5 = x3 → (∃ (f19 : FI) (g20 : FL) (v22 : Int), Ex mt 0 265 (il σ f g) [vI x4] ((il σ f19 g20), [vI v22]) ∧ (∃ (f23 : FI) (g24 : FL) (v26 : Int), Ex mt 0 265 (il σ f19 g20) [vI x2] ((il σ f23 g24), [vI v26]) ∧ ((v26 ≤ v22 → ((-2147483648 ≤ (x4 + 1) ∧ (x4 + 1) ≤ 2147483647)) ∧ (A_X12_kept_19 σ f23 g24 a x1 x2 x3 (x4 + 1) r)) ∧ (¬ v26 ≤ v22 → (∃ (f30 : FI) (g31 : FL) (v33 : Int), Ex mt 0 276 (il σ f23 g24) [vR 12 (some a), vI x4] ((il σ f30 g31), [vI v33]) ∧ ((v33 = 0 → ((-2147483648 ≤ (x4 + 1) ∧ (x4 + 1) ≤ 2147483647)) ∧ (A_X12_kept_19 σ f30 g31 a x1 x2 x3 (x4 + 1) r)) ∧ (¬ v33 = 0 → ((-2147483648 ≤ (x4 + 1) ∧ (x4 + 1) ≤ 2147483647)) ∧ (A_X12_kept_19 σ f30 g31 a x1 x4 x5 (x4 + 1) r))))))))))))) ∧ (¬ (f a 4) ≤ x6 → ((-2147483648 ≤ x4 ∧ x4 ≤ 2147483647) ∧ (0 ≤ x6 ∧ x6 < 32)) ∧ ((¬ ((x4 / p2 x6) % 2) = 1 → ((-2147483648 ≤ (x5 + 0) ∧ (x5 + 0) ≤ 2147483647) ∧ (-2147483648 ≤ (x6 + 1) ∧ (x6 + 1) ≤ 2147483647)) ∧ (A_X12_kept_36 σ f g a x1 x2 x3 x4 (x5 + 0) (x6 + 1) r)) ∧ (((x4 / p2 x6) % 2) = 1 → ((0 ≤ x6 ∧ x6 < 12)) ∧ ((-2147483648 ≤ (x5 + (f (a + 37) ((x6).toNat))) ∧ (x5 + (f (a + 37) ((x6).toNat))) ≤ 2147483647) ∧ (-2147483648 ≤ (x6 + 1) ∧ (x6 + 1) ≤ 2147483647)) ∧ (A_X12_kept_36 σ f g a x1 x2 x3 x4 (x5 + (f (a + 37) ((x6).toNat))) (x6 + 1) r)))))) : A_X12_kept_36 σ f g a x1 x2 x3 x4 x5 x6 r := (show Gx mt 1 cd_X12_kept (il σ f g) b_X12_kept_36 [some (vR 12 (some a)), some (vI x1), some (vI x2), some (vI x3), some (vI x4), some (vI x5), some (vI x6)] [] r from (go_loadI rfl (go_loadA rfl (gi_getI (gq_icmp_ge (fun e3 => have h1 := h.1 e3; (go_loadI rfl (go_loadI rfl (gq_icmp_gt (fun e6 => have h4 := h1.1 e6; (go_loadA rfl (go_loadI rfl (Exists.elim h4 fun f7 w14 => Exists.elim w14 fun g8 w15 => Exists.elim w15 fun v10 h9 => (go_callV rfl rfl rfl h9.1 (gq_if_eq (fun e13 => have h11 := h9.2.1 e13; (go_iinc rfl h11.1 rfl (go_goto (h11.2 _ _)))) (fun e13 => have h12 := h9.2.2 e13; (go_loadI rfl (go_stoI rfl rfl (go_loadI rfl (go_stoI rfl rfl (go_fall (go_iinc rfl h12.1 rfl (go_goto (h12.2 _ _))))))))))))))) (fun e6 => have h5 := h1.2 e6; (go_loadI rfl (go_loadI rfl (gq_icmp_ne (fun e18 => have h16 := h5.1 e18; (go_iinc rfl h16.1 rfl (go_goto (h16.2 _ _)))) (fun e18 => have h17 := h5.2 e18; (go_loadI rfl (Exists.elim h17 fun f19 w41 => Exists.elim w41 fun g20 w42 => Exists.elim w42 fun v22 h21 => (go_callS rfl rfl rfl h21.1 (go_loadI rfl (Exists.elim h21.2 fun f23 w39 => Exists.elim w39 fun g24 w40 => Exists.elim w40 fun v26 h25 => (go_callS rfl rfl rfl h25.1 (gq_icmp_ge (fun e29 => have h27 := h25.2.1 e29; (go_iinc rfl h27.1 rfl (go_goto (h27.2 _ _)))) (fun e29 => have h28 := h25.2.2 e29; (go_fall (go_loadA rfl (go_loadI rfl (Exists.elim h28 fun f30 w37 => Exists.elim w37 fun g31 w38 => Exists.elim w38 fun v33 h32 => (go_callV rfl rfl rfl h32.1 (gq_if_eq (fun e36 => have h34 := h32.2.1 e36; (go_iinc rfl h34.1 rfl (go_goto (h34.2 _ _)))) (fun e36 => have h35 := h32.2.2 e36; (go_loadI rfl (go_stoI rfl rfl (go_loadI rfl (go_stoI rfl rfl (go_fall (go_iinc rfl h35.1 rfl (go_goto (h35.2 _ _)))))))))))))))))))))))))))))))) (fun e3 => have h2 := h.2 e3; (go_loadI rfl (go_loadI rfl (go_loadI rfl (go_ishr (iShr_v h2.1.1 h2.1.2) (go_pushI rfl (go_iand (iAnd_m1 _) (go_pushI rfl (gq_icmp_ne (fun e45 => have h43 := h2.2.1 e45; (go_pushI rfl (go_fall (go_iadd h43.1.1 (go_stoI rfl rfl (go_iinc rfl h43.1.2 rfl (go_goto (h43.2)))))))) (fun e45 => have h44 := h2.2.2 e45; (go_loadA rfl (gi_getR (Sh12.r56 hs) (go_loadI rfl (gi_iald (inl_ (Sh12.l56 hs) h44.1) (go_goto (go_iadd h44.2.1.1 (go_stoI rfl rfl (go_iinc rfl h44.2.1.2 rfl (go_goto (h44.2.2)))))))))))))))))))))))))
theorem bk_X11_kept_0 {σ : St} {f : FI} {g : FL} {a : Nat} {x1 : Int} {r : St × List Vl} (hs : Sh11 σ a) (h : ((((0 ≤ x1 ∧ x1 ≤ 1)) → (∃ (f4 : FI) (g5 : FL), Ex mt 103 9 (il σ f g) [vR 1 (some (a + 158)), vR 18 (some (a + 2)), vI (f a 3)] ((il σ f4 g5), []) ∧ ((¬ x1 = 0 → (r = ((il σ f4 g5), [vI (f4 (a + 158) 2)]))) ∧ (x1 = 0 → (r = ((il σ f4 g5), [vI (f4 (a + 158) 1)])))))) ∧ (¬ ((0 ≤ x1 ∧ x1 ≤ 1)) → (r = ((il σ f g), [vI (-1)]))))) : Ex mt 104 172 (il σ f g) [vR 11 (some a), vI x1] r := Ex.mk mt_172 (show Gx mt 104 cd_X11_kept (il σ f g) b_X11_kept_0 [some (vR 11 (some a)), some (vI x1)] [] r from (go_loadI rfl (go_pushI rfl (go_callS rfl rfl rfl (pu_upTo) (go_ifb_ne (fun e3 => have h1 := h.1 e3; (go_loadA rfl (gi_getR (Sh11.r12 hs) (go_loadA rfl (gi_getR (Sh11.r2 hs) (go_loadA rfl (gi_getI (Exists.elim h1 fun f4 w10 => Exists.elim w10 fun g5 h6 => (go_callV rfl rfl rfl h6.1 (go_loadI rfl (gq_if_ne (fun e9 => have h7 := h6.2.1 e9; (go_loadA rfl (gi_getR (Sh11.r12 hs) (gi_getI (go_fall (h7 ▸ gq_retI)))))) (fun e9 => have h8 := h6.2.2 e9; (go_loadA rfl (gi_getR (Sh11.r12 hs) (gi_getI (go_goto (h8 ▸ gq_retI))))))))))))))))) (fun e3 => have h2 := h.2 e3; (go_pushI rfl (h2 ▸ gq_retI))))))))
def KM (f : FI) (M w : Nat) (W : Nat → Int) (N : Nat → Nat → Int) (R : Nat → Int) : Prop := (w ≤ 12 ∧ f M 4 = (w : Int)) ∧ (∀ j, j < w → f (M + 37) j = W j ∧ ∀ b, b < 8 → f (M + 36) (8 * j + b) = N j b) ∧ ∀ b, b < 8 → f (M + 38) b = R b
theorem x_hasRoomM {σ : St} {f : FI} {g : FL} {M w S : Nat} {W : Nat → Int} {N : Nat → Nat → Int} {R : Nat → Int} (hm : Sh12 σ M) (hk : KM f M w W N R) (hN : ∀ j b, 0 ≤ N j b ∧ N j b ≤ 99) (hS : S < 4096) : ∃ v : Int, (v = 0 ∨ v = 1) ∧ (v = 1 ↔ Fit N R w S) ∧ Ex mt 0 276 (il σ f g) [vR 12 (some M), vI (S : Int)] (il σ f g, [vI v]) := by
  have w12 := hk.1.1
  have sb : ∀ b i, 0 ≤ sm (fun j => N j b) S i ∧ sm (fun j => N j b) S i ≤ 999 * i := fun b i => sm_W (fun j => ⟨(hN j b).1, by have := (hN j b).2; show N j b ≤ 999; omega⟩) i
  have inner : ∀ (h : Int) (b : Nat), b < 8 → ∀ r, (h = 0 ∨ h = 1) → ((h = 1 ∧ sm (fun j => N j b) S w ≤ R b) → A_X12_hasRoom_4 σ f g M (S : Int) 1 ((b : Int) + 1) r) → (¬ (h = 1 ∧ sm (fun j => N j b) S w ≤ R b) → A_X12_hasRoom_4 σ f g M (S : Int) 0 ((b : Int) + 1) r) → ∀ k i : Nat, i + k = w → A_X12_hasRoom_16 σ f g M (S : Int) h (b : Int) (sm (fun j => N j b) S i) (i : Int) r := by
    intro h b hb r hh h1 h0 k
    induction k with
    | zero =>
      intro i hi
      obtain rfl : i = w := by omega
      have fr : f (M + 38) (b : Int).toNat = R b := hk.2.2 b hb
      refine bk_X12_hasRoom_16 hm ⟨fun _ => ⟨fun z => ⟨by omega, h0 fun y => by omega⟩, fun z => ⟨by omega, fun y => ⟨by omega, h0 fun x => ?_⟩, fun y => ⟨by omega, h1 ⟨by omega, ?_⟩⟩⟩⟩, fun z => absurd (by rw [hk.1.2]; omega) z⟩
      · rw [fr] at y
        omega
      · rw [fr] at y
        omega
    | succ k ih =>
      intro i hi
      have A := ih (i + 1) (by omega)
      have s1 := sb b i
      have n1 := hN i b
      have nge : ¬ f M 4 ≤ (i : Int) := by rw [hk.1.2]; omega
      have ix : (8 * (i : Int) + (b : Int)).toNat = 8 * i + b := by omega
      have fn : f (M + 36) (8 * i + b) = N i b := (hk.2.1 i (by omega)).2 b hb
      by_cases z : hB (S : Int) (i : Int)
      · have e : sm (fun j => N j b) S (i + 1) = sm (fun j => N j b) S i + N i b := by
          show sm (fun j => N j b) S i + _ = _
          rw [if_pos (hB_nat.mp z)]
        rw [e] at A
        refine bk_X12_hasRoom_16 hm ⟨fun y => absurd y nge, fun _ => ⟨⟨by omega, by omega⟩, fun y => absurd z y, fun _ => ⟨⟨by omega, by omega, by omega⟩, ?_⟩⟩⟩
        rw [ix, fn]
        exact ⟨⟨by omega, by omega⟩, A⟩
      · have e : sm (fun j => N j b) S (i + 1) = sm (fun j => N j b) S i + 0 := by
          show sm (fun j => N j b) S i + _ = _
          rw [if_neg fun y => z (hB_nat.mpr y)]
        rw [e] at A
        exact bk_X12_hasRoom_16 hm ⟨fun y => absurd y nge, fun _ => ⟨⟨by omega, by omega⟩, fun _ => ⟨⟨by omega, by omega⟩, A⟩, fun y => absurd y z⟩⟩
  have loop : ∀ k b : Nat, b + k = 8 → ∀ h : Int, (h = 0 ∨ h = 1) → (h = 1 ↔ ∀ c, c < b → sm (fun j => N j c) S w ≤ R c) → ∃ v : Int, (v = 0 ∨ v = 1) ∧ (v = 1 ↔ Fit N R w S) ∧ A_X12_hasRoom_4 σ f g M (S : Int) h (b : Int) (il σ f g, [vI v]) := by
    intro k
    induction k with
    | zero =>
      intro b hb h hh h1
      obtain rfl : b = 8 := by omega
      exact ⟨h, hh, h1, bk_X12_hasRoom_4 hm ⟨fun _ => ⟨by omega, rfl⟩, fun z => absurd (by decide) z⟩⟩
    | succ k ih =>
      intro b hb h hh h1
      have key : (h = 1 ∧ sm (fun j => N j b) S w ≤ R b) ↔ ∀ c, c < b + 1 → sm (fun j => N j c) S w ≤ R c := by
        constructor
        · intro z c hc
          by_cases y : c = b
          · rw [y]; exact z.2
          · exact h1.mp z.1 c (by omega)
        · exact fun z => ⟨h1.mpr fun c hc => z c (by omega), z b (by omega)⟩
      by_cases z : h = 1 ∧ sm (fun j => N j b) S w ≤ R b
      · obtain ⟨v, v1, v2, A⟩ := ih (b + 1) (by omega) 1 (Or.inr rfl) ⟨fun _ => key.mp z, fun _ => rfl⟩
        exact ⟨v, v1, v2, bk_X12_hasRoom_4 hm ⟨fun y => absurd y (by omega), fun _ => inner h b (by omega) _ hh (fun _ => A) (fun y => absurd z y) w 0 (by omega)⟩⟩
      · obtain ⟨v, v1, v2, A⟩ := ih (b + 1) (by omega) 0 (Or.inl rfl) ⟨fun y => absurd y (by decide), fun y => absurd (key.mpr y) z⟩
        exact ⟨v, v1, v2, bk_X12_hasRoom_4 hm ⟨fun y => absurd y (by omega), fun _ => inner h b (by omega) _ hh (fun y => absurd y z) (fun _ => A) w 0 (by omega)⟩⟩
  obtain ⟨v, v1, v2, A⟩ := loop 8 0 rfl 1 (Or.inr rfl) ⟨fun _ c hc => absurd hc (Nat.not_lt_zero c), fun _ => rfl⟩
  exact ⟨v, v1, v2, bk_X12_hasRoom_0 hm A⟩
theorem x_keptM {σ : St} {f : FI} {g : FL} {M w : Nat} {W : Nat → Int} {N : Nat → Nat → Int} {R : Nat → Int} {x : Int} (hm : Sh12 σ M) (hk : KM f M w W N R) (hW : ∀ j, 0 ≤ W j ∧ W j ≤ 999) (hN : ∀ j b, 0 ≤ N j b ∧ N j b ≤ 99) (hR : ∀ b, b < 8 → 0 ≤ R b) (hx : 0 ≤ x ∧ x ≤ 1) : ∃ C : Nat, (C < 2 ^ w ∧ Fit N R w C ∧ ∀ T, T < 2 ^ w → Fit N R w T → Bt W w C T) ∧ Ex mt 1 277 (il σ f g) [vR 12 (some M), vI x] (il σ f g, [vI (if x = 0 then (C : Int) else sm W C w)]) := by
  have w12 := hk.1.1
  have pw : 2 ^ w ≤ 2 ^ 12 := Nat.pow_le_pow_right (by decide) w12
  have p12 : 2 ^ 12 = 4096 := rfl
  have pos : 0 < 2 ^ w := Nat.two_pow_pos w
  have sums : ∀ (best most : Int) (S : Nat), S < 4096 → ∀ r, A_X12_kept_36 σ f g M x best most (S : Int) (sm W S w) (w : Int) r → ∀ k i : Nat, i + k = w → A_X12_kept_36 σ f g M x best most (S : Int) (sm W S i) (i : Int) r := by
    intro best most S hS r A k
    induction k with
    | zero =>
      intro i hi
      obtain rfl : i = w := by omega
      exact A
    | succ k ih =>
      intro i hi
      have A := ih (i + 1) (by omega)
      have s1 := sm_W (S := S) hW i
      have n1 := hW i
      have nge : ¬ f M 4 ≤ (i : Int) := by rw [hk.1.2]; omega
      have fw : f (M + 37) (i : Int).toNat = W i := (hk.2.1 i (by omega)).1
      by_cases z : hB (S : Int) (i : Int)
      · have e : sm W S (i + 1) = sm W S i + W i := by
          show sm W S i + _ = _
          rw [if_pos (hB_nat.mp z)]
        rw [e] at A
        refine bk_X12_kept_36 hm ⟨fun y => absurd y nge, fun _ => ⟨⟨by omega, by omega⟩, fun y => absurd z y, fun _ => ⟨by omega, ?_⟩⟩⟩
        rw [fw]
        exact ⟨⟨by omega, by omega⟩, A⟩
      · have e : sm W S (i + 1) = sm W S i + 0 := by
          show sm W S i + _ = _
          rw [if_neg fun y => z (hB_nat.mpr y)]
        rw [e] at A
        exact bk_X12_kept_36 hm ⟨fun y => absurd y nge, fun _ => ⟨⟨by omega, by omega⟩, fun _ => ⟨⟨by omega, by omega⟩, A⟩, fun y => absurd y z⟩⟩
  have p69 : p2 (f M 4) = ((2 ^ w : Nat) : Int) := by rw [hk.1.2, p2_Nat]
  have ob : (0 : Int) ≤ f M 4 ∧ f M 4 < 31 := by rw [hk.1.2]; omega
  have loop : ∀ k S : Nat, S + k = 2 ^ w → ∀ C : Nat, C < S → Fit N R w C → (∀ T, T < S → Fit N R w T → Bt W w C T) → ∃ C' : Nat, (C' < 2 ^ w ∧ Fit N R w C' ∧ ∀ T, T < 2 ^ w → Fit N R w T → Bt W w C' T) ∧ A_X12_kept_19 σ f g M x (C : Int) (sm W C w) (S : Int) (il σ f g, [vI (if x = 0 then (C' : Int) else sm W C' w)]) := by
    intro k
    induction k with
    | zero =>
      intro S hS C hC hF hT
      obtain rfl : S = 2 ^ w := by omega
      refine ⟨C, ⟨hC, hF, hT⟩, bk_X12_kept_19 hm ⟨ob, fun _ => ⟨fun z => by rw [if_neg z], fun z => by rw [if_pos z]⟩, fun z => absurd (by rw [p69]; omega) z⟩⟩
    | succ k ih =>
      intro S hS C hC hF hT
      have hS4 : S < 4096 := by omega
      have nge : ¬ p2 (f M 4) ≤ (S : Int) := by rw [p69]; omega
      have e0 : f M 4 ≤ (w : Int) := by rw [hk.1.2]; omega
      obtain ⟨v, v1, v2, E⟩ := x_hasRoomM (σ := σ) (f := f) (g := g) hm hk hN hS4
      have B1 := x_bits (σ := σ) (f := f) (g := g) (x := (S : Int)) (by omega)
      have B2 := x_bits (σ := σ) (f := f) (g := g) (x := (C : Int)) (by omega)
      have pS : pcI (S : Int) = (cb 12 S : Int) := pcI_cb
      have pC : pcI (C : Int) = (cb 12 C : Int) := pcI_cb
      have go : ∀ (C1 : Nat) (r : St × List Vl), A_X12_kept_36 σ f g M x (C : Int) (sm W C w) (S : Int) (sm W S w) (w : Int) r → A_X12_kept_19 σ f g M x (C : Int) (sm W C w) (S : Int) r := fun _ r A => bk_X12_kept_19 hm ⟨ob, fun z => absurd z nge, fun _ => sums _ _ S hS4 r A w 0 (by omega)⟩
      have keep : (Fit N R w S → Bt W w C S) → ∃ C' : Nat, (C' < 2 ^ w ∧ Fit N R w C' ∧ ∀ T, T < 2 ^ w → Fit N R w T → Bt W w C' T) ∧ A_X12_kept_19 σ f g M x (C : Int) (sm W C w) ((S : Int) + 1) (il σ f g, [vI (if x = 0 then (C' : Int) else sm W C' w)]) := fun h => ih (S + 1) (by omega) C (by omega) hF fun T h1 h2 => by
        by_cases y : T = S
        · rw [y] at h2 ⊢; exact h h2
        · exact hT T (by omega) h2
      have take : Fit N R w S → Bt W w S C → ∃ C' : Nat, (C' < 2 ^ w ∧ Fit N R w C' ∧ ∀ T, T < 2 ^ w → Fit N R w T → Bt W w C' T) ∧ A_X12_kept_19 σ f g M x (S : Int) (sm W S w) ((S : Int) + 1) (il σ f g, [vI (if x = 0 then (C' : Int) else sm W C' w)]) := fun h h2 => ih (S + 1) (by omega) S (by omega) h fun T h3 h4 => by
        by_cases y : T = S
        · rw [y]; exact Bt.rfl'
        · exact h2.tr (hT T (by omega) h4)
      by_cases h1 : sm W C w < sm W S w
      · rcases v1 with rfl | rfl
        · obtain ⟨C', c, A⟩ := keep fun y => absurd (v2.mpr y) (by decide)
          exact ⟨C', c, go C _ (bk_X12_kept_36 hm ⟨fun _ => ⟨fun _ => ⟨f, g, _, E, fun _ => ⟨by omega, A⟩, fun z => absurd rfl z⟩, fun z => absurd h1 z⟩, fun z => absurd e0 z⟩)⟩
        · obtain ⟨C', c, A⟩ := take (v2.mp rfl) (Or.inl h1)
          exact ⟨C', c, go C _ (bk_X12_kept_36 hm ⟨fun _ => ⟨fun _ => ⟨f, g, _, E, fun z => absurd z (by decide), fun _ => ⟨by omega, A⟩⟩, fun z => absurd h1 z⟩, fun z => absurd e0 z⟩)⟩
      · by_cases h2 : sm W S w = sm W C w
        · by_cases h3 : pcI (C : Int) ≤ pcI (S : Int)
          · obtain ⟨C', c, A⟩ := keep fun _ => Or.inr ⟨h2, by omega⟩
            exact ⟨C', c, go C _ (bk_X12_kept_36 hm ⟨fun _ => ⟨fun z => absurd z h1, fun _ => ⟨fun z => absurd h2 z, fun _ => ⟨f, g, _, B1, f, g, _, B2, fun _ => ⟨by omega, A⟩, fun z => absurd h3 z⟩⟩⟩, fun z => absurd e0 z⟩)⟩
          · rcases v1 with rfl | rfl
            · obtain ⟨C', c, A⟩ := keep fun y => absurd (v2.mpr y) (by decide)
              exact ⟨C', c, go C _ (bk_X12_kept_36 hm ⟨fun _ => ⟨fun z => absurd z h1, fun _ => ⟨fun z => absurd h2 z, fun _ => ⟨f, g, _, B1, f, g, _, B2, fun z => absurd z h3, fun _ => ⟨f, g, _, E, fun _ => ⟨by omega, A⟩, fun z => absurd rfl z⟩⟩⟩⟩, fun z => absurd e0 z⟩)⟩
            · obtain ⟨C', c, A⟩ := take (v2.mp rfl) (Or.inr ⟨h2.symm, Or.inl (by omega)⟩)
              exact ⟨C', c, go C _ (bk_X12_kept_36 hm ⟨fun _ => ⟨fun z => absurd z h1, fun _ => ⟨fun z => absurd h2 z, fun _ => ⟨f, g, _, B1, f, g, _, B2, fun z => absurd z h3, fun _ => ⟨f, g, _, E, fun z => absurd z (by decide), fun _ => ⟨by omega, A⟩⟩⟩⟩⟩, fun z => absurd e0 z⟩)⟩
        · obtain ⟨C', c, A⟩ := keep fun _ => Or.inl (by omega)
          exact ⟨C', c, go C _ (bk_X12_kept_36 hm ⟨fun _ => ⟨fun z => absurd z h1, fun _ => ⟨fun _ => ⟨by omega, A⟩, fun z => absurd z h2⟩⟩, fun z => absurd e0 z⟩)⟩
  obtain ⟨C', c, A⟩ := loop (2 ^ w - 1) 1 (by omega) 0 (by omega) (fun b hb => by rw [sm_0]; exact hR b hb) (fun T hT _ => by
    obtain rfl : T = 0 := by omega
    exact Bt.rfl')
  rw [sm_0] at A
  exact ⟨C', c, bk_X12_kept_0 hm ⟨by omega, fun _ => A, fun z => absurd hx z⟩⟩
theorem c_kept {σ : St} {f : FI} {g : FL} {B : Nat} (hs : Sh11 σ B) (hm : Sh12 σ (B + 165)) {w : Nat} {q md rn : Nat → Nat} (h : IW σ f g B w q md) (hy : LY B w q rn) (hN : IN σ f B w q rn) (hG : IG f B) {x : Int} (rx : -2147483648 ≤ x ∧ x ≤ 2147483647) : ∃ (v : Int) (f1 f2 : FI), Ex mt 104 172 (il σ f g) [vR 11 (some B), vI x] (il σ f1 g, [vI v]) ∧ Ex mt 1 277 (il σ f1 g) [vR 12 (some (B + 165)), vI x] (il σ f2 g, [vI v]) ∧ True ∧ Fr (fun a k => a = B + 158) f f2 := by
  have h1 := h.1
  by_cases hx : 0 ≤ x ∧ x ≤ 1
  · have bW : ∀ j, 0 ≤ (if j < w then f (q j) 4 else 0) ∧ (if j < w then f (q j) 4 else 0) ≤ 999 := fun j => by
      split
      · rename_i hj
        exact (hN.1 j hj).2.2.2
      · omega
    have bN : ∀ j b, 0 ≤ (if j < w ∧ b < 8 then f (rn j) b else 0) ∧ (if j < w ∧ b < 8 then f (rn j) b else 0) ≤ 99 := fun j b => by
      split
      · rename_i hj
        exact ((hN.1 j hj.1).2.1 b hj.2).2
      · omega
    obtain ⟨f1, C, E1, c1, c2, c3⟩ := x_choose (σ := σ) (f := f) (g := g) (a := B + 158) (ar := B + 2) (w := w) (q := q) (rn := rn) (W := fun j => if j < w then f (q j) 4 else 0) (N := fun j b => if j < w ∧ b < 8 then f (rn j) b else 0) (R := fun b => f (B + 159) b) hs.o12 ⟨h1.1, hs.l2, fun j hj => ⟨⟨(h.2 j hj).1, (hN.1 j hj).1.1, (hN.1 j hj).1.2⟩, ⟨(if_pos hj).symm, bW j⟩, fun b hb => ⟨(if_pos ⟨hj, hb⟩).symm, bN j b⟩⟩⟩ (fun j hj => by
      have := (hy j j hj hj).1
      exact ⟨by omega, by omega⟩) bW bN (fun b hb => ⟨rfl, (hG.1 b hb).2.1⟩)
    have ef : ∀ a, ¬ a = B + 158 → f1 a = f a := c3
    have km : KM f1 (B + 165) w (fun j => if j < w then f (q j) 4 else 0) (fun j b => if j < w ∧ b < 8 then f (rn j) b else 0) (fun b => f (B + 159) b) := by
      refine ⟨⟨h1.1, by rw [ef _ (by omega)]; exact h1.2.2⟩, fun j hj => ⟨?_, fun b hb => ?_⟩, fun b hb => ?_⟩
      · rw [ef _ (by omega)]
        exact (hN.1 j hj).2.2.1.symm.trans (if_pos hj).symm
      · rw [ef _ (by omega)]
        exact ((hN.1 j hj).2.1 b hb).1.symm.trans (if_pos ⟨hj, hb⟩).symm
      · rw [ef _ (by omega)]
        exact (hG.1 b hb).1.symm
    obtain ⟨D, ⟨d1, d2, d3⟩, E2⟩ := x_keptM (σ := σ) (f := f1) (g := g) hm km bW bN (fun b hb => (hG.1 b hb).2.1) hx
    have same : C = D := (c2 D d1 d2).anti (d3 C c1.2.2.1 c1.2.2.2)
    subst same
    have eB : f B 3 = (w : Int) := h1.2.1
    refine ⟨_, f1, f1, bk_X11_kept_0 hs ⟨fun _ => ⟨f1, g, by rw [eB]; exact E1, fun z => ?_, fun z => ?_⟩, fun z => absurd hx z⟩, E2, trivial, fun a k hk => by rw [ef a hk]⟩
    · rw [if_neg z, c1.2.1]
    · rw [if_pos z, c1.1]
  · exact ⟨-1, f, f, bk_X11_kept_0 hs ⟨fun z => absurd z hx, fun _ => rfl⟩, bk_X12_kept_0 hm ⟨by omega, fun z => absurd z hx, fun _ => rfl⟩, trivial, Fr.rfl'⟩
