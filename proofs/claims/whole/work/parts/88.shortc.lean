/-! tell: the class makes a tree shorter -/
theorem bk_X9_add_0 {σ : St} {f : FI} {g : FL} {a : Nat} {x1 : Int} {x2 : Int} {x3 : Int} {r : St × List Vl} {c_a : Nat} (hs : Sh9 σ a c_a) (h : (c_a < 2147483648) ∧ (((f a 3) < (c_a : Int) → ((0 ≤ (f a 3) ∧ (f a 3) < (c_a : Int)) ∧ (-2147483648 ≤ ((f a 3) + 1) ∧ ((f a 3) + 1) ≤ 2147483647) ∧ (-2147483648 ≤ (((f a 3) + 1) - 1) ∧ (((f a 3) + 1) - 1) ≤ 2147483647)) ∧ (r = ((il σ (up2 (up2 (up2 (up2 f (a + 1) (((f a 3)).toNat) x1) (a + 2) (((f a 3)).toNat) x2) (a + 3) (((f a 3)).toNat) x3) a 3 ((f a 3) + 1)) g), [vI (((f a 3) + 1) - 1)]))) ∧ (¬ (f a 3) < (c_a : Int) → (r = ((il σ f g), [vI 0]))))) : Ex mt 0 128 (il σ f g) [vR 9 (some a), vI x1, vI x2, vI x3] r := Ex.mk mt_128 (show Gx mt 0 cd_X9_add (il σ f g) b_X9_add_0 [some (vR 9 (some a)), some (vI x1), some (vI x2), some (vI x3)] [] r from (go_loadA rfl (gi_getI (go_loadA rfl (gi_getR (Sh9.r0 hs) (gi_alene (Sh9.l0 hs) h.1 rfl (gq_icmp_lt (fun e3 => have h1 := h.2.1 e3; (go_loadA rfl (gi_getR (Sh9.r0 hs) (go_loadA rfl (gi_getI (go_loadI rfl (gi_iast (inl_ (Sh9.l0 hs) h1.1.1) (go_loadA rfl (gi_getR (Sh9.r1 hs) (go_loadA rfl (gi_getIe (u2_a (by omega)) (go_loadI rfl (gi_iast (inl_ (Sh9.l1 hs) h1.1.1) (go_loadA rfl (gi_getR (Sh9.r2 hs) (go_loadA rfl (gi_getIe (Eq.trans (u2_a (by omega)) (u2_a (by omega))) (go_loadI rfl (gi_iast (inl_ (Sh9.l2 hs) h1.1.1) (go_loadA rfl (go_dupA (gi_getIe (Eq.trans (u2_a (by omega)) (Eq.trans (u2_a (by omega)) (u2_a (by omega)))) (go_pushI rfl (go_iadd h1.1.2.1 (gi_putI (go_loadA rfl (gi_getIe u2_s (go_pushI rfl (go_isub h1.1.2.2 (h1.2 ▸ gq_retI)))))))))))))))))))))))))))))) (fun e3 => have h2 := h.2.2 e3; (go_pushI rfl (h2 ▸ gq_retI))))))))))
def A_X9_findOrAdd_3 (σ : St) (f : FI) (g : FL) (a : Nat) (x1 : Int) (x2 : Int) (x3 : Int) (x4 : Int) (r : St × List Vl) : Prop := Gx mt 1 cd_X9_findOrAdd (il σ f g) (cd_X9_findOrAdd 3) [some (vR 9 (some a)), some (vI x1), some (vI x2), some (vI x3), some (vI x4)] [] r
theorem bk_X9_findOrAdd_0 {σ : St} {f : FI} {g : FL} {a : Nat} {x1 : Int} {x2 : Int} {x3 : Int} {r : St × List Vl} {c_a : Nat} (hs : Sh9 σ a c_a) (h : (A_X9_findOrAdd_3 σ f g a x1 x2 x3 0 r)) : Ex mt 1 129 (il σ f g) [vR 9 (some a), vI x1, vI x2, vI x3] r := Ex.mk mt_129 (show Gx mt 1 cd_X9_findOrAdd (il σ f g) b_X9_findOrAdd_0 [some (vR 9 (some a)), some (vI x1), some (vI x2), some (vI x3), none] [] r from (go_pushI rfl (go_stoI rfl rfl (go_fall (h)))))
theorem bk_X9_findOrAdd_3 {σ : St} {f : FI} {g : FL} {a : Nat} {x1 : Int} {x2 : Int} {x3 : Int} {x4 : Int} {r : St × List Vl} {c_a : Nat} (hs : Sh9 σ a c_a) (h : (((f a 3) ≤ x4 → (∃ (f4 : FI) (g5 : FL) (v7 : Int), Ex mt 0 128 (il σ f g) [vR 9 (some a), vI x1, vI x2, vI x3] ((il σ f4 g5), [vI v7]) ∧ (r = ((il σ f4 g5), [vI v7])))) ∧ (¬ (f a 3) ≤ x4 → ((0 ≤ x4 ∧ x4 < (c_a : Int))) ∧ ((¬ (f (a + 1) ((x4).toNat)) = x1 → ((-2147483648 ≤ (x4 + 1) ∧ (x4 + 1) ≤ 2147483647)) ∧ (A_X9_findOrAdd_3 σ f g a x1 x2 x3 (x4 + 1) r)) ∧ ((f (a + 1) ((x4).toNat)) = x1 → ((0 ≤ x4 ∧ x4 < (c_a : Int))) ∧ ((¬ (f (a + 2) ((x4).toNat)) = x2 → ((-2147483648 ≤ (x4 + 1) ∧ (x4 + 1) ≤ 2147483647)) ∧ (A_X9_findOrAdd_3 σ f g a x1 x2 x3 (x4 + 1) r)) ∧ ((f (a + 2) ((x4).toNat)) = x2 → ((0 ≤ x4 ∧ x4 < (c_a : Int))) ∧ ((¬ (f (a + 3) ((x4).toNat)) = x3 → ((-2147483648 ≤ (x4 + 1) ∧ (x4 + 1) ≤ 2147483647)) ∧ (A_X9_findOrAdd_3 σ f g a x1 x2 x3 (x4 + 1) r)) ∧ ((f (a + 3) ((x4).toNat)) = x3 → (r = ((il σ f g), [vI x4]))))))))))) : A_X9_findOrAdd_3 σ f g a x1 x2 x3 x4 r := (show Gx mt 1 cd_X9_findOrAdd (il σ f g) b_X9_findOrAdd_3 [some (vR 9 (some a)), some (vI x1), some (vI x2), some (vI x3), some (vI x4)] [] r from (go_loadI rfl (go_loadA rfl (gi_getI (gq_icmp_ge (fun e3 => have h1 := h.1 e3; (go_loadA rfl (go_loadI rfl (go_loadI rfl (go_loadI rfl (Exists.elim h1 fun f4 w8 => Exists.elim w8 fun g5 w9 => Exists.elim w9 fun v7 h6 => (go_callV rfl rfl rfl h6.1 (h6.2 ▸ gq_retI)))))))) (fun e3 => have h2 := h.2 e3; (go_loadA rfl (gi_getR (Sh9.r0 hs) (go_loadI rfl (gi_iald (inl_ (Sh9.l0 hs) h2.1) (go_loadI rfl (gq_icmp_ne (fun e12 => have h10 := h2.2.1 e12; (go_iinc rfl h10.1 rfl (go_goto (h10.2)))) (fun e12 => have h11 := h2.2.2 e12; (go_loadA rfl (gi_getR (Sh9.r1 hs) (go_loadI rfl (gi_iald (inl_ (Sh9.l1 hs) h11.1) (go_loadI rfl (gq_icmp_ne (fun e15 => have h13 := h11.2.1 e15; (go_iinc rfl h13.1 rfl (go_goto (h13.2)))) (fun e15 => have h14 := h11.2.2 e15; (go_loadA rfl (gi_getR (Sh9.r2 hs) (go_loadI rfl (gi_iald (inl_ (Sh9.l2 hs) h14.1) (go_loadI rfl (gq_icmp_ne (fun e18 => have h16 := h14.2.1 e18; (go_iinc rfl h16.1 rfl (go_goto (h16.2)))) (fun e18 => have h17 := h14.2.2 e18; (go_loadI rfl (h17 ▸ gq_retI)))))))))))))))))))))))))))))
theorem bk_X8_shortStar_0 {σ : St} {f : FI} {g : FL} {a : Nat} {x1 : Int} {r : St × List Vl} (hs : Sh8 σ a) (h : ((0 ≤ x1 ∧ x1 < 200)) ∧ (((f (a + 3) ((x1).toNat)) = 0 → (∃ (f4 : FI) (g5 : FL) (v7 : Int), Ex mt 1 129 (il σ f g) [vR 9 (some (a + 2)), vI 1, vI 0, vI 0] ((il σ f4 g5), [vI v7]) ∧ (r = ((il σ f4 g5), [vI v7])))) ∧ (¬ (f (a + 3) ((x1).toNat)) = 0 → ((¬ (f (a + 3) ((x1).toNat)) = 1 → ((¬ (f (a + 3) ((x1).toNat)) = 5 → (∃ (f16 : FI) (g17 : FL) (v19 : Int), Ex mt 1 129 (il σ f g) [vR 9 (some (a + 2)), vI 5, vI x1, vI 0] ((il σ f16 g17), [vI v19]) ∧ (r = ((il σ f16 g17), [vI v19])))) ∧ ((f (a + 3) ((x1).toNat)) = 5 → (r = ((il σ f g), [vI x1]))))) ∧ ((f (a + 3) ((x1).toNat)) = 1 → (∃ (f22 : FI) (g23 : FL) (v25 : Int), Ex mt 1 129 (il σ f g) [vR 9 (some (a + 2)), vI 1, vI 0, vI 0] ((il σ f22 g23), [vI v25]) ∧ (r = ((il σ f22 g23), [vI v25])))))))) : Ex mt 2 122 (il σ f g) [vR 8 (some a), vI x1] r := Ex.mk mt_122 (show Gx mt 2 cd_X8_shortStar (il σ f g) b_X8_shortStar_0 [some (vR 8 (some a)), some (vI x1), none] [] r from (go_loadA rfl (gi_getR (Sh8.r2 hs) (gi_getR (Sh9.r0 (Sh8.o2 hs)) (go_loadI rfl (gi_iald (inl_ (Sh9.l0 (Sh8.o2 hs)) h.1) (go_stoI rfl rfl (go_loadI rfl (gq_if_eq (fun e3 => have h1 := h.2.1 e3; (go_loadA rfl (gi_getR (Sh8.r2 hs) (go_pushI rfl (go_pushI rfl (go_pushI rfl (Exists.elim h1 fun f4 w8 => Exists.elim w8 fun g5 w9 => Exists.elim w9 fun v7 h6 => (go_callV rfl rfl rfl h6.1 (h6.2 ▸ gq_retI))))))))) (fun e3 => have h2 := h.2.2 e3; (go_loadI rfl (go_pushI rfl (gq_icmp_ne (fun e12 => have h10 := h2.1 e12; (go_loadI rfl (go_pushI rfl (gq_icmp_ne (fun e15 => have h13 := h10.1 e15; (go_loadA rfl (gi_getR (Sh8.r2 hs) (go_pushI rfl (go_loadI rfl (go_pushI rfl (Exists.elim h13 fun f16 w20 => Exists.elim w20 fun g17 w21 => Exists.elim w21 fun v19 h18 => (go_callV rfl rfl rfl h18.1 (go_fall (h18.2 ▸ gq_retI)))))))))) (fun e15 => have h14 := h10.2 e15; (go_loadI rfl (go_goto (h14 ▸ gq_retI)))))))) (fun e12 => have h11 := h2.2 e12; (go_fall (go_loadA rfl (gi_getR (Sh8.r2 hs) (go_pushI rfl (go_pushI rfl (go_pushI rfl (Exists.elim h11 fun f22 w26 => Exists.elim w26 fun g23 w27 => Exists.elim w27 fun v25 h24 => (go_callV rfl rfl rfl h24.1 (h24.2 ▸ gq_retI)))))))))))))))))))))))
theorem bk_X8_shortEither_0 {σ : St} {f : FI} {g : FL} {a : Nat} {x1 : Int} {x2 : Int} {r : St × List Vl} (hs : Sh8 σ a) (h : ((x1 = x2 → (r = ((il σ f g), [vI x1]))) ∧ (¬ x1 = x2 → ((0 ≤ x2 ∧ x2 < 200)) ∧ ((¬ (f (a + 3) ((x2).toNat)) = 0 → ((0 ≤ x1 ∧ x1 < 200)) ∧ ((¬ (f (a + 3) ((x1).toNat)) = 0 → (∃ (f10 : FI) (g11 : FL) (v13 : Int), Ex mt 1 129 (il σ f g) [vR 9 (some (a + 2)), vI 7, vI x1, vI x2] ((il σ f10 g11), [vI v13]) ∧ (r = ((il σ f10 g11), [vI v13])))) ∧ ((f (a + 3) ((x1).toNat)) = 0 → (r = ((il σ f g), [vI x2]))))) ∧ ((f (a + 3) ((x2).toNat)) = 0 → (r = ((il σ f g), [vI x1]))))))) : Ex mt 2 123 (il σ f g) [vR 8 (some a), vI x1, vI x2] r := Ex.mk mt_123 (show Gx mt 2 cd_X8_shortEither (il σ f g) b_X8_shortEither_0 [some (vR 8 (some a)), some (vI x1), some (vI x2)] [] r from (go_loadI rfl (go_loadI rfl (gq_icmp_eq (fun e3 => have h1 := h.1 e3; (go_loadI rfl (h1 ▸ gq_retI))) (fun e3 => have h2 := h.2 e3; (go_loadA rfl (gi_getR (Sh8.r2 hs) (gi_getR (Sh9.r0 (Sh8.o2 hs)) (go_loadI rfl (gi_iald (inl_ (Sh9.l0 (Sh8.o2 hs)) h2.1) (gq_if_ne (fun e6 => have h4 := h2.2.1 e6; (go_loadA rfl (gi_getR (Sh8.r2 hs) (gi_getR (Sh9.r0 (Sh8.o2 hs)) (go_loadI rfl (gi_iald (inl_ (Sh9.l0 (Sh8.o2 hs)) h4.1) (gq_if_ne (fun e9 => have h7 := h4.2.1 e9; (go_loadA rfl (gi_getR (Sh8.r2 hs) (go_pushI rfl (go_loadI rfl (go_loadI rfl (Exists.elim h7 fun f10 w14 => Exists.elim w14 fun g11 w15 => Exists.elim w15 fun v13 h12 => (go_callV rfl rfl rfl h12.1 (go_fall (h12.2 ▸ gq_retI)))))))))) (fun e9 => have h8 := h4.2.2 e9; (go_loadI rfl (go_goto (h8 ▸ gq_retI))))))))))) (fun e6 => have h5 := h2.2.2 e6; (go_fall (go_loadI rfl (h5 ▸ gq_retI)))))))))))))))
theorem bk_X8_shortField_0 {σ : St} {f : FI} {g : FL} {a : Nat} {x1 : Int} {x2 : Int} {r : St × List Vl} (hs : Sh8 σ a) (h : ((0 ≤ x1 ∧ x1 < 200) ∧ (0 ≤ x2 ∧ x2 < 200)) ∧ ((¬ (f (a + 5) ((x1).toNat)) = (f (a + 5) ((x2).toNat)) → ((0 ≤ x2 ∧ x2 < 200)) ∧ ((¬ (f (a + 3) ((x2).toNat)) = 2 → ((0 ≤ x1 ∧ x1 < 200)) ∧ ((¬ (f (a + 3) ((x1).toNat)) = 4 → (r = ((il σ f g), [vI (-1)]))) ∧ ((f (a + 3) ((x1).toNat)) = 4 → (r = ((il σ f g), [vI x2]))))) ∧ ((f (a + 3) ((x2).toNat)) = 2 → (∃ (f10 : FI) (g11 : FL) (v13 : Int), Ex mt 1 129 (il σ f g) [vR 9 (some (a + 2)), vI 0, vI 0, vI 0] ((il σ f10 g11), [vI v13]) ∧ (r = ((il σ f10 g11), [vI v13])))))) ∧ ((f (a + 5) ((x1).toNat)) = (f (a + 5) ((x2).toNat)) → ((0 ≤ x2 ∧ x2 < 200)) ∧ ((¬ (f (a + 3) ((x2).toNat)) = 2 → ((0 ≤ x1 ∧ x1 < 200)) ∧ ((¬ (f (a + 3) ((x1).toNat)) = 4 → (r = ((il σ f g), [vI x1]))) ∧ ((f (a + 3) ((x1).toNat)) = 4 → (r = ((il σ f g), [vI x2]))))) ∧ ((f (a + 3) ((x2).toNat)) = 2 → (r = ((il σ f g), [vI x1]))))))) : Ex mt 2 126 (il σ f g) [vR 8 (some a), vI x1, vI x2] r := Ex.mk mt_126 (show Gx mt 2 cd_X8_shortField (il σ f g) b_X8_shortField_0 [some (vR 8 (some a)), some (vI x1), some (vI x2), none] [] r from (go_loadA rfl (gi_getR (Sh8.r2 hs) (gi_getR (Sh9.r2 (Sh8.o2 hs)) (go_loadI rfl (gi_iald (inl_ (Sh9.l2 (Sh8.o2 hs)) h.1.1) (go_loadA rfl (gi_getR (Sh8.r2 hs) (gi_getR (Sh9.r2 (Sh8.o2 hs)) (go_loadI rfl (gi_iald (inl_ (Sh9.l2 (Sh8.o2 hs)) h.1.2) (gq_icmp_ne (fun e3 => have h1 := h.2.1 e3; (go_pushI rfl (go_fall (go_stoI rfl rfl (go_loadA rfl (gi_getR (Sh8.r2 hs) (gi_getR (Sh9.r0 (Sh8.o2 hs)) (go_loadI rfl (gi_iald (inl_ (Sh9.l0 (Sh8.o2 hs)) h1.1) (go_pushI rfl (gq_icmp_ne (fun e6 => have h4 := h1.2.1 e6; (go_loadA rfl (gi_getR (Sh8.r2 hs) (gi_getR (Sh9.r0 (Sh8.o2 hs)) (go_loadI rfl (gi_iald (inl_ (Sh9.l0 (Sh8.o2 hs)) h4.1) (go_pushI rfl (gq_icmp_ne (fun e9 => have h7 := h4.2.1 e9; (go_loadI rfl (gq_if_eq (fun _ => (go_pushI rfl (go_fall (h7 ▸ gq_retI)))) (fun h => absurd (by decide) h)))) (fun e9 => have h8 := h4.2.2 e9; (go_loadI rfl (h8 ▸ gq_retI))))))))))) (fun e6 => have h5 := h1.2.2 e6; (go_loadI rfl (gq_if_eq (fun _ => (go_loadA rfl (gi_getR (Sh8.r2 hs) (go_pushI rfl (go_pushI rfl (go_pushI rfl (Exists.elim h5 fun f10 w14 => Exists.elim w14 fun g11 w15 => Exists.elim w15 fun v13 h12 => (go_callV rfl rfl rfl h12.1 (go_fall (h12.2 ▸ gq_retI)))))))))) (fun h => absurd (by decide) h))))))))))))))) (fun e3 => have h2 := h.2.2 e3; (go_pushI rfl (go_goto (go_stoI rfl rfl (go_loadA rfl (gi_getR (Sh8.r2 hs) (gi_getR (Sh9.r0 (Sh8.o2 hs)) (go_loadI rfl (gi_iald (inl_ (Sh9.l0 (Sh8.o2 hs)) h2.1) (go_pushI rfl (gq_icmp_ne (fun e18 => have h16 := h2.2.1 e18; (go_loadA rfl (gi_getR (Sh8.r2 hs) (gi_getR (Sh9.r0 (Sh8.o2 hs)) (go_loadI rfl (gi_iald (inl_ (Sh9.l0 (Sh8.o2 hs)) h16.1) (go_pushI rfl (gq_icmp_ne (fun e21 => have h19 := h16.2.1 e21; (go_loadI rfl (gq_if_eq (fun h => absurd h (by decide)) (fun _ => (go_loadI rfl (go_goto (h19 ▸ gq_retI))))))) (fun e21 => have h20 := h16.2.2 e21; (go_loadI rfl (h20 ▸ gq_retI))))))))))) (fun e18 => have h17 := h2.2.2 e18; (go_loadI rfl (gq_if_eq (fun h => absurd h (by decide)) (fun _ => (go_loadI rfl (go_goto (h17 ▸ gq_retI))))))))))))))))))))))))))))))
theorem bk_X8_shortThen_0 {σ : St} {f : FI} {g : FL} {a : Nat} {x1 : Int} {x2 : Int} {r : St × List Vl} (hs : Sh8 σ a) (h : ((0 ≤ x1 ∧ x1 < 200) ∧ (0 ≤ x2 ∧ x2 < 200)) ∧ (((f (a + 3) ((x1).toNat)) = 0 → (r = ((il σ f g), [vI x1]))) ∧ (¬ (f (a + 3) ((x1).toNat)) = 0 → ((¬ (f (a + 3) ((x2).toNat)) = 1 → (((f (a + 3) ((x1).toNat)) = 1 → (r = ((il σ f g), [vI x2]))) ∧ (¬ (f (a + 3) ((x1).toNat)) = 1 → ((¬ (f (a + 3) ((x2).toNat)) = 0 → ((¬ (((f (a + 3) ((x1).toNat)) = 2 ∨ (f (a + 3) ((x1).toNat)) = 4)) → (∃ (f16 : FI) (g17 : FL) (v19 : Int), Ex mt 1 129 (il σ f g) [vR 9 (some (a + 2)), vI 6, vI x1, vI x2] ((il σ f16 g17), [vI v19]) ∧ (r = ((il σ f16 g17), [vI v19])))) ∧ ((((f (a + 3) ((x1).toNat)) = 2 ∨ (f (a + 3) ((x1).toNat)) = 4)) → ((¬ (((f (a + 3) ((x2).toNat)) = 2 ∨ (f (a + 3) ((x2).toNat)) = 4)) → (∃ (f25 : FI) (g26 : FL) (v28 : Int), Ex mt 1 129 (il σ f g) [vR 9 (some (a + 2)), vI 6, vI x1, vI x2] ((il σ f25 g26), [vI v28]) ∧ (r = ((il σ f25 g26), [vI v28])))) ∧ ((((f (a + 3) ((x2).toNat)) = 2 ∨ (f (a + 3) ((x2).toNat)) = 4)) → ((0 ≤ x1 ∧ x1 < 200) ∧ (0 ≤ x2 ∧ x2 < 200)) ∧ ((¬ (f (a + 4) ((x1).toNat)) = (f (a + 4) ((x2).toNat)) → (∃ (f34 : FI) (g35 : FL) (v37 : Int), Ex mt 1 129 (il σ f g) [vR 9 (some (a + 2)), vI 6, vI x1, vI x2] ((il σ f34 g35), [vI v37]) ∧ (r = ((il σ f34 g35), [vI v37])))) ∧ ((f (a + 4) ((x1).toNat)) = (f (a + 4) ((x2).toNat)) → (∃ (f40 : FI) (g41 : FL) (v43 : Int), Ex mt 2 126 (il σ f g) [vR 8 (some a), vI x1, vI x2] ((il σ f40 g41), [vI v43]) ∧ ((¬ v43 = (-1) → (r = ((il σ f40 g41), [vI v43]))) ∧ (v43 = (-1) → (∃ (f47 : FI) (g48 : FL) (v50 : Int), Ex mt 1 129 (il σ f40 g41) [vR 9 (some (a + 2)), vI 6, vI x1, vI x2] ((il σ f47 g48), [vI v50]) ∧ (r = ((il σ f47 g48), [vI v50]))))))))))))) ∧ ((f (a + 3) ((x2).toNat)) = 0 → (r = ((il σ f g), [vI x2]))))))) ∧ ((f (a + 3) ((x2).toNat)) = 1 → (r = ((il σ f g), [vI x1]))))))) : Ex mt 3 124 (il σ f g) [vR 8 (some a), vI x1, vI x2] r := Ex.mk mt_124 (show Gx mt 3 cd_X8_shortThen (il σ f g) b_X8_shortThen_0 [some (vR 8 (some a)), some (vI x1), some (vI x2), none, none, none, none] [] r from (go_loadA rfl (gi_getR (Sh8.r2 hs) (gi_getR (Sh9.r0 (Sh8.o2 hs)) (go_loadI rfl (gi_iald (inl_ (Sh9.l0 (Sh8.o2 hs)) h.1.1) (go_stoI rfl rfl (go_loadA rfl (gi_getR (Sh8.r2 hs) (gi_getR (Sh9.r0 (Sh8.o2 hs)) (go_loadI rfl (gi_iald (inl_ (Sh9.l0 (Sh8.o2 hs)) h.1.2) (go_stoI rfl rfl (go_loadI rfl (gq_if_eq (fun e3 => have h1 := h.2.1 e3; (go_loadI rfl (h1 ▸ gq_retI))) (fun e3 => have h2 := h.2.2 e3; (go_loadI rfl (go_pushI rfl (gq_icmp_ne (fun e6 => have h4 := h2.1 e6; (go_loadI rfl (go_pushI rfl (gq_icmp_eq (fun e9 => have h7 := h4.1 e9; (go_loadI rfl (h7 ▸ gq_retI))) (fun e9 => have h8 := h4.2 e9; (go_loadI rfl (gq_if_ne (fun e12 => have h10 := h8.1 e12; (go_loadI rfl (go_callS rfl rfl rfl (pu_isPlain) (go_ifb_eq (fun e15 => have h13 := h10.1 e15; (go_pushI rfl (go_fall (go_stoI rfl rfl (go_loadI rfl (gq_if_eq (fun _ => (go_pushI rfl (go_fall (go_stoI rfl rfl (go_loadI rfl (go_pushI rfl (gq_icmp_ne (fun h => absurd h (by decide)) (fun _ => (go_loadA rfl (gi_getR (Sh8.r2 hs) (go_pushI rfl (go_loadI rfl (go_loadI rfl (Exists.elim h13 fun f16 w20 => Exists.elim w20 fun g17 w21 => Exists.elim w21 fun v19 h18 => (go_callV rfl rfl rfl h18.1 (go_goto (h18.2 ▸ gq_retI))))))))))))))))) (fun h => absurd (by decide) h))))))) (fun e15 => have h14 := h10.2 e15; (go_loadI rfl (go_callS rfl rfl rfl (pu_isPlain) (go_ifb_eq (fun e24 => have h22 := h14.1 e24; (go_pushI rfl (go_fall (go_stoI rfl rfl (go_loadI rfl (gq_if_eq (fun _ => (go_pushI rfl (go_fall (go_stoI rfl rfl (go_loadI rfl (go_pushI rfl (gq_icmp_ne (fun h => absurd h (by decide)) (fun _ => (go_loadA rfl (gi_getR (Sh8.r2 hs) (go_pushI rfl (go_loadI rfl (go_loadI rfl (Exists.elim h22 fun f25 w29 => Exists.elim w29 fun g26 w30 => Exists.elim w30 fun v28 h27 => (go_callV rfl rfl rfl h27.1 (go_goto (h27.2 ▸ gq_retI))))))))))))))))) (fun h => absurd (by decide) h))))))) (fun e24 => have h23 := h14.2 e24; (go_loadA rfl (gi_getR (Sh8.r2 hs) (gi_getR (Sh9.r1 (Sh8.o2 hs)) (go_loadI rfl (gi_iald (inl_ (Sh9.l1 (Sh8.o2 hs)) h23.1.1) (go_loadA rfl (gi_getR (Sh8.r2 hs) (gi_getR (Sh9.r1 (Sh8.o2 hs)) (go_loadI rfl (gi_iald (inl_ (Sh9.l1 (Sh8.o2 hs)) h23.1.2) (gq_icmp_ne (fun e33 => have h31 := h23.2.1 e33; (go_pushI rfl (go_fall (go_stoI rfl rfl (go_loadI rfl (gq_if_eq (fun _ => (go_pushI rfl (go_fall (go_stoI rfl rfl (go_loadI rfl (go_pushI rfl (gq_icmp_ne (fun h => absurd h (by decide)) (fun _ => (go_loadA rfl (gi_getR (Sh8.r2 hs) (go_pushI rfl (go_loadI rfl (go_loadI rfl (Exists.elim h31 fun f34 w38 => Exists.elim w38 fun g35 w39 => Exists.elim w39 fun v37 h36 => (go_callV rfl rfl rfl h36.1 (go_goto (h36.2 ▸ gq_retI))))))))))))))))) (fun h => absurd (by decide) h))))))) (fun e33 => have h32 := h23.2.2 e33; (go_pushI rfl (go_goto (go_stoI rfl rfl (go_loadI rfl (gq_if_eq (fun h => absurd h (by decide)) (fun _ => (go_loadA rfl (go_loadI rfl (go_loadI rfl (Exists.elim h32 fun f40 w53 => Exists.elim w53 fun g41 w54 => Exists.elim w54 fun v43 h42 => (go_callV rfl rfl rfl h42.1 (go_goto (go_stoI rfl rfl (go_loadI rfl (go_pushI rfl (gq_icmp_ne (fun e46 => have h44 := h42.2.1 e46; (go_loadI rfl (go_fall (h44 ▸ gq_retI)))) (fun e46 => have h45 := h42.2.2 e46; (go_loadA rfl (gi_getR (Sh8.r2 hs) (go_pushI rfl (go_loadI rfl (go_loadI rfl (Exists.elim h45 fun f47 w51 => Exists.elim w51 fun g48 w52 => Exists.elim w52 fun v50 h49 => (go_callV rfl rfl rfl h49.1 (go_goto (h49.2 ▸ gq_retI))))))))))))))))))))))))))))))))))))))))))))))) (fun e12 => have h11 := h8.2 e12; (go_fall (go_loadI rfl (h11 ▸ gq_retI))))))))))) (fun e6 => have h5 := h2.2 e6; (go_fall (go_loadI rfl (h5 ▸ gq_retI)))))))))))))))))))))))
def A_X8_shorten_10 (σ : St) (f : FI) (g : FL) (a : Nat) (x1 : Nat) (x2 : Int) (r : St × List Vl) : Prop := ∀ (y3 : Option Vl) (y4 : Option Vl) (y5 : Option Vl), Gx mt 4 cd_X8_shorten (il σ f g) (cd_X8_shorten 10) [some (vR 8 (some a)), some (vR 9 (some x1)), some (vI x2), y3, y4, y5] [] r
theorem bk_X8_shorten_0 {σ : St} {f : FI} {g : FL} {a : Nat} {x1 : Nat} {r : St × List Vl} (hs : Sh8 σ a) {c1 : Nat} (hs1 : Sh9 σ x1 c1) (h : (A_X8_shorten_10 σ (up2 f (a + 2) 3 0) g a x1 0 r)) : Ex mt 4 121 (il σ f g) [vR 8 (some a), vR 9 (some x1)] r := Ex.mk mt_121 (show Gx mt 4 cd_X8_shorten (il σ f g) b_X8_shorten_0 [some (vR 8 (some a)), some (vR 9 (some x1)), none, none, none, none] [] r from (go_loadA rfl (gi_getR (Sh8.r2 hs) (go_pushI rfl (gi_putI (go_pushI rfl (go_stoI rfl rfl (go_fall (h _ _ _)))))))))
theorem bk_X8_shorten_10 {σ : St} {f : FI} {g : FL} {a : Nat} {x1 : Nat} {x2 : Int} {r : St × List Vl} (hs : Sh8 σ a) {c1 : Nat} (hs1 : Sh9 σ x1 c1) (h : (((f x1 3) ≤ x2 → (((f x1 3) ≤ 0 → (r = ((il σ f g), [vI (-1)]))) ∧ (¬ (f x1 3) ≤ 0 → ((-2147483648 ≤ ((f x1 3) - 1) ∧ ((f x1 3) - 1) ≤ 2147483647) ∧ (0 ≤ ((f x1 3) - 1) ∧ ((f x1 3) - 1) < 200)) ∧ (r = ((il σ f g), [vI (f (a + 6) ((((f x1 3) - 1)).toNat))]))))) ∧ (¬ (f x1 3) ≤ x2 → ((200 ≤ x2 → (((f x1 3) ≤ 0 → (r = ((il σ f g), [vI (-1)]))) ∧ (¬ (f x1 3) ≤ 0 → ((-2147483648 ≤ ((f x1 3) - 1) ∧ ((f x1 3) - 1) ≤ 2147483647) ∧ (0 ≤ ((f x1 3) - 1) ∧ ((f x1 3) - 1) < 200)) ∧ (r = ((il σ f g), [vI (f (a + 6) ((((f x1 3) - 1)).toNat))]))))) ∧ (¬ 200 ≤ x2 → ((0 ≤ x2 ∧ x2 < (c1 : Int))) ∧ ((¬ (f (x1 + 1) ((x2).toNat)) = 5 → ((¬ (f (x1 + 1) ((x2).toNat)) = 7 → ((¬ (f (x1 + 1) ((x2).toNat)) = 6 → (∃ (f22 : FI) (g23 : FL) (v25 : Int), Ex mt 1 129 (il σ f g) [vR 9 (some (a + 2)), vI (f (x1 + 1) ((x2).toNat)), vI (f (x1 + 2) ((x2).toNat)), vI (f (x1 + 3) ((x2).toNat))] ((il σ f22 g23), [vI v25]) ∧ ((0 ≤ x2 ∧ x2 < 200)) ∧ ((-2147483648 ≤ (x2 + 1) ∧ (x2 + 1) ≤ 2147483647)) ∧ (A_X8_shorten_10 σ (up2 f22 (a + 6) ((x2).toNat) v25) g23 a x1 (x2 + 1) r))) ∧ ((f (x1 + 1) ((x2).toNat)) = 6 → ((0 ≤ (f (x1 + 2) ((x2).toNat)) ∧ (f (x1 + 2) ((x2).toNat)) < 200) ∧ (0 ≤ (f (x1 + 3) ((x2).toNat)) ∧ (f (x1 + 3) ((x2).toNat)) < 200)) ∧ (∃ (f28 : FI) (g29 : FL) (v31 : Int), Ex mt 3 124 (il σ f g) [vR 8 (some a), vI (f (a + 6) (((f (x1 + 2) ((x2).toNat))).toNat)), vI (f (a + 6) (((f (x1 + 3) ((x2).toNat))).toNat))] ((il σ f28 g29), [vI v31]) ∧ ((0 ≤ x2 ∧ x2 < 200)) ∧ ((-2147483648 ≤ (x2 + 1) ∧ (x2 + 1) ≤ 2147483647)) ∧ (A_X8_shorten_10 σ (up2 f28 (a + 6) ((x2).toNat) v31) g29 a x1 (x2 + 1) r))))) ∧ ((f (x1 + 1) ((x2).toNat)) = 7 → ((0 ≤ (f (x1 + 2) ((x2).toNat)) ∧ (f (x1 + 2) ((x2).toNat)) < 200) ∧ (0 ≤ (f (x1 + 3) ((x2).toNat)) ∧ (f (x1 + 3) ((x2).toNat)) < 200)) ∧ (∃ (f34 : FI) (g35 : FL) (v37 : Int), Ex mt 2 123 (il σ f g) [vR 8 (some a), vI (f (a + 6) (((f (x1 + 2) ((x2).toNat))).toNat)), vI (f (a + 6) (((f (x1 + 3) ((x2).toNat))).toNat))] ((il σ f34 g35), [vI v37]) ∧ ((0 ≤ x2 ∧ x2 < 200)) ∧ ((-2147483648 ≤ (x2 + 1) ∧ (x2 + 1) ≤ 2147483647)) ∧ (A_X8_shorten_10 σ (up2 f34 (a + 6) ((x2).toNat) v37) g35 a x1 (x2 + 1) r))))) ∧ ((f (x1 + 1) ((x2).toNat)) = 5 → ((0 ≤ (f (x1 + 2) ((x2).toNat)) ∧ (f (x1 + 2) ((x2).toNat)) < 200)) ∧ (∃ (f40 : FI) (g41 : FL) (v43 : Int), Ex mt 2 122 (il σ f g) [vR 8 (some a), vI (f (a + 6) (((f (x1 + 2) ((x2).toNat))).toNat))] ((il σ f40 g41), [vI v43]) ∧ ((0 ≤ x2 ∧ x2 < 200)) ∧ ((-2147483648 ≤ (x2 + 1) ∧ (x2 + 1) ≤ 2147483647)) ∧ (A_X8_shorten_10 σ (up2 f40 (a + 6) ((x2).toNat) v43) g41 a x1 (x2 + 1) r))))))))) : A_X8_shorten_10 σ f g a x1 x2 r := fun y3 y4 y5 => (show Gx mt 4 cd_X8_shorten (il σ f g) b_X8_shorten_10 [some (vR 8 (some a)), some (vR 9 (some x1)), some (vI x2), y3, y4, y5] [] r from (go_loadI rfl (go_loadA rfl (gi_getI (gq_icmp_ge (fun e3 => have h1 := h.1 e3; (go_loadA rfl (gi_getI (gq_if_le (fun e6 => have h4 := h1.1 e6; (go_pushI rfl (go_fall (h4 ▸ gq_retI)))) (fun e6 => have h5 := h1.2 e6; (go_loadA rfl (gi_getR (Sh8.r3 hs) (go_loadA rfl (gi_getI (go_pushI rfl (go_isub h5.1.1 (gi_iald (inl_ (Sh8.l3 hs) h5.1.2) (go_goto (h5.2 ▸ gq_retI)))))))))))))) (fun e3 => have h2 := h.2 e3; (go_loadI rfl (go_pushI rfl (gq_icmp_ge (fun e9 => have h7 := h2.1 e9; (go_loadA rfl (gi_getI (gq_if_le (fun e12 => have h10 := h7.1 e12; (go_pushI rfl (go_fall (h10 ▸ gq_retI)))) (fun e12 => have h11 := h7.2 e12; (go_loadA rfl (gi_getR (Sh8.r3 hs) (go_loadA rfl (gi_getI (go_pushI rfl (go_isub h11.1.1 (gi_iald (inl_ (Sh8.l3 hs) h11.1.2) (go_goto (h11.2 ▸ gq_retI)))))))))))))) (fun e9 => have h8 := h2.2 e9; (go_loadA rfl (gi_getR (Sh9.r0 hs1) (go_loadI rfl (gi_iald (inl_ (Sh9.l0 hs1) h8.1) (go_stoI rfl rfl (go_loadA rfl (gi_getR (Sh9.r1 hs1) (go_loadI rfl (gi_iald (inl_ (Sh9.l1 hs1) h8.1) (go_stoI rfl rfl (go_loadA rfl (gi_getR (Sh9.r2 hs1) (go_loadI rfl (gi_iald (inl_ (Sh9.l2 hs1) h8.1) (go_stoI rfl rfl (go_loadI rfl (go_pushI rfl (gq_icmp_ne (fun e15 => have h13 := h8.2.1 e15; (go_loadI rfl (go_pushI rfl (gq_icmp_ne (fun e18 => have h16 := h13.1 e18; (go_loadI rfl (go_pushI rfl (gq_icmp_ne (fun e21 => have h19 := h16.1 e21; (go_loadA rfl (gi_getR (Sh8.r3 hs) (go_loadI rfl (go_loadA rfl (gi_getR (Sh8.r2 hs) (go_loadI rfl (go_loadI rfl (go_loadI rfl (Exists.elim h19 fun f22 w26 => Exists.elim w26 fun g23 w27 => Exists.elim w27 fun v25 h24 => (go_callV rfl rfl rfl h24.1 (gi_iast (inl_ (Sh8.l3 hs) h24.2.1) (go_fall (go_iinc rfl h24.2.2.1 rfl (go_goto (h24.2.2.2 _ _ _)))))))))))))))) (fun e21 => have h20 := h16.2 e21; (go_loadA rfl (gi_getR (Sh8.r3 hs) (go_loadI rfl (go_loadA rfl (go_loadA rfl (gi_getR (Sh8.r3 hs) (go_loadI rfl (gi_iald (inl_ (Sh8.l3 hs) h20.1.1) (go_loadA rfl (gi_getR (Sh8.r3 hs) (go_loadI rfl (gi_iald (inl_ (Sh8.l3 hs) h20.1.2) (Exists.elim h20.2 fun f28 w32 => Exists.elim w32 fun g29 w33 => Exists.elim w33 fun v31 h30 => (go_callV rfl rfl rfl h30.1 (gi_iast (inl_ (Sh8.l3 hs) h30.2.1) (go_goto (go_iinc rfl h30.2.2.1 rfl (go_goto (h30.2.2.2 _ _ _)))))))))))))))))))))))) (fun e18 => have h17 := h13.2 e18; (go_loadA rfl (gi_getR (Sh8.r3 hs) (go_loadI rfl (go_loadA rfl (go_loadA rfl (gi_getR (Sh8.r3 hs) (go_loadI rfl (gi_iald (inl_ (Sh8.l3 hs) h17.1.1) (go_loadA rfl (gi_getR (Sh8.r3 hs) (go_loadI rfl (gi_iald (inl_ (Sh8.l3 hs) h17.1.2) (Exists.elim h17.2 fun f34 w38 => Exists.elim w38 fun g35 w39 => Exists.elim w39 fun v37 h36 => (go_callV rfl rfl rfl h36.1 (gi_iast (inl_ (Sh8.l3 hs) h36.2.1) (go_goto (go_iinc rfl h36.2.2.1 rfl (go_goto (h36.2.2.2 _ _ _)))))))))))))))))))))))) (fun e15 => have h14 := h8.2.2 e15; (go_loadA rfl (gi_getR (Sh8.r3 hs) (go_loadI rfl (go_loadA rfl (go_loadA rfl (gi_getR (Sh8.r3 hs) (go_loadI rfl (gi_iald (inl_ (Sh8.l3 hs) h14.1) (Exists.elim h14.2 fun f40 w44 => Exists.elim w44 fun g41 w45 => Exists.elim w45 fun v43 h42 => (go_callV rfl rfl rfl h42.1 (gi_iast (inl_ (Sh8.l3 hs) h42.2.1) (go_goto (go_iinc rfl h42.2.2.1 rfl (go_goto (h42.2.2.2 _ _ _))))))))))))))))))))))))))))))))))))))))))))
theorem fnd_is {z : TS} {k l r : Int} {n i : Nat} (h1 : ∀ j, j < i → ¬ mch z k l r j) (h2 : mch z k l r i) (hi : i < n) : fnd z k l r n = i := by
  obtain ⟨a1, a2, a3⟩ := fnd_spec z k l r n
  rcases Nat.lt_trichotomy (fnd z k l r n) i with y | y | y
  · exact absurd (a3 (by omega)) (h1 _ y)
  · exact y
  · exact absurd h2 (a2 i y)
theorem fnd_no {z : TS} {k l r : Int} {n : Nat} (h1 : ∀ j, j < n → ¬ mch z k l r j) : fnd z k l r n = n := by
  obtain ⟨a1, a2, a3⟩ := fnd_spec z k l r n
  by_cases y : fnd z k l r n < n
  · exact absurd (a3 y) (h1 _ y)
  · omega
/-- a tree's cells hold these rows -/
def HZ (f : FI) (x : Nat) (z : TS) : Prop := f x 3 = (z.1 : Int) ∧ Hld f x z.1 z.2.1 z.2.2.1 z.2.2.2
theorem fa_new {z : TS} {k l r : Int} (h : ∀ j, j < z.1 → ¬ mch z k l r j) : fa z k l r = ((z.1 + 1, upN z.2.1 z.1 k, upN z.2.2.1 z.1 l, upN z.2.2.2 z.1 r), z.1) := by
  unfold fa
  rw [fnd_no h, if_neg (Nat.lt_irrefl _)]
theorem fa_old {z : TS} {k l r : Int} {i : Nat} (h1 : ∀ j, j < i → ¬ mch z k l r j) (h2 : mch z k l r i) (hi : i < z.1) : fa z k l r = (z, i) := by
  unfold fa
  rw [fnd_is h1 h2 hi, if_pos hi]
theorem x_findOrAdd {σ : St} {f : FI} {g : FL} {x c : Nat} {z : TS} {k l r : Int} (hs : Sh9 σ x c) (hc : c < 100000) (hz : HZ f x z) (hn : z.1 < c) : ∃ f' : FI, Ex mt 1 129 (il σ f g) [vR 9 (some x), vI k, vI l, vI r] (il σ f' g, [vI ((fa z k l r).2 : Int)]) ∧ HZ f' x (fa z k l r).1 ∧ ∀ b j, (b < x ∨ x + 3 < b) → f' b j = f b j := by
  obtain ⟨h3, hH⟩ := hz
  have loop : ∀ q i : Nat, i + q = z.1 → (∀ j, j < i → ¬ mch z k l r j) → ∃ f' : FI, A_X9_findOrAdd_3 σ f g x k l r (i : Int) (il σ f' g, [vI ((fa z k l r).2 : Int)]) ∧ HZ f' x (fa z k l r).1 ∧ ∀ b j, (b < x ∨ x + 3 < b) → f' b j = f b j := by
    intro q
    induction q with
    | zero =>
      intro i hi hj
      obtain rfl : i = z.1 := by omega
      rw [fa_new hj]
      have E : Ex mt 0 128 (il σ f g) [vR 9 (some x), vI k, vI l, vI r] (il σ (up2 (up2 (up2 (up2 f (x + 1) z.1 k) (x + 2) z.1 l) (x + 3) z.1 r) x 3 ((z.1 + 1 : Nat) : Int)) g, [vI (z.1 : Int)]) := by
        refine bk_X9_add_0 hs ⟨by omega, fun _ => ?_, fun y => absurd (by rw [h3]; omega) y⟩
        rw [h3]
        refine ⟨⟨by omega, by omega, by omega⟩, ?_⟩
        rw [show (z.1 : Int) + 1 - 1 = (z.1 : Int) by omega, show (z.1 : Int) + 1 = ((z.1 + 1 : Nat) : Int) by omega]
        rfl
      refine ⟨_, bk_X9_findOrAdd_3 hs ⟨fun _ => ⟨_, g, _, E, rfl⟩, fun y => absurd (by rw [h3]; omega) y⟩, ⟨u2_s, fun j hj2 => ?_⟩, fun b j hb => ?_⟩
      · have base : up2 (up2 (up2 f (x + 1) z.1 k) (x + 2) z.1 l) (x + 3) z.1 r (x + 1) j = upN z.2.1 z.1 k j ∧ up2 (up2 (up2 f (x + 1) z.1 k) (x + 2) z.1 l) (x + 3) z.1 r (x + 2) j = upN z.2.2.1 z.1 l j ∧ up2 (up2 (up2 f (x + 1) z.1 k) (x + 2) z.1 l) (x + 3) z.1 r (x + 3) j = upN z.2.2.2 z.1 r j := by
          unfold upN
          have hj2 : j < z.1 + 1 := hj2
          by_cases y : j = z.1
          · subst y
            rw [if_pos rfl, if_pos rfl, if_pos rfl]
            exact up3_at (by omega) (by omega) (by omega)
          · rw [if_neg y, if_neg y, if_neg y]
            obtain ⟨a1, a2, a3⟩ := up3_ne (f := f) (a := x + 1) (b := x + 2) (c := x + 3) (i := z.1) (j := j) (x := k) (y := l) (z := r) (by omega) (by omega) (by omega) y
            rw [a1, a2, a3]
            exact hH j (by omega)
        exact ⟨(u2_a (by omega)).trans base.1, (u2_a (by omega)).trans base.2.1, (u2_a (by omega)).trans base.2.2⟩
      · rw [u2_a (by omega), u2_a (by omega), u2_a (by omega), u2_a (by omega)]
    | succ q ih =>
      intro i hi hj
      obtain ⟨e1, e2, e3⟩ := hH i (by omega)
      have nge : ¬ f x 3 ≤ (i : Int) := by rw [h3]; omega
      by_cases m : mch z k l r i
      · rw [fa_old hj m (by omega)]
        obtain ⟨m1, m2, m3⟩ := m
        refine ⟨f, bk_X9_findOrAdd_3 hs ⟨fun y => absurd y nge, fun _ => ⟨by omega, fun y => absurd (show f (x + 1) i = k by rw [e1]; exact m1) y, fun _ => ⟨by omega, fun y => absurd (show f (x + 2) i = l by rw [e2]; exact m2) y, fun _ => ⟨by omega, fun y => absurd (show f (x + 3) i = r by rw [e3]; exact m3) y, fun _ => rfl⟩⟩⟩⟩, ⟨h3, hH⟩, fun _ _ _ => rfl⟩
      · obtain ⟨f', A, rr⟩ := ih (i + 1) (by omega) (fun j hj2 => by
          by_cases y : j = i
          · subst y; exact m
          · exact hj j (by omega))
        exact ⟨f', bk_X9_findOrAdd_3 hs ⟨fun y => absurd y nge, fun _ => ⟨by omega, fun _ => ⟨by omega, A⟩, fun y1 => ⟨by omega, fun _ => ⟨by omega, A⟩, fun y2 => ⟨by omega, fun _ => ⟨by omega, A⟩, fun y3 => absurd ⟨(show f (x + 1) i = k from y1) ▸ e1.symm, (show f (x + 2) i = l from y2) ▸ e2.symm, (show f (x + 3) i = r from y3) ▸ e3.symm⟩ m⟩⟩⟩⟩, rr⟩
  obtain ⟨f', A, rr⟩ := loop z.1 0 (by omega) (fun j hj => absurd hj (Nat.not_lt_zero j))
  exact ⟨f', bk_X9_findOrAdd_0 hs A, rr⟩
/-- what a step of the shortening leaves -/
def OutC (f f' : FI) (a : Nat) (z' : TS) : Prop := HZ f' (a + 2) z' ∧ ∀ b j, (b < a + 2 ∨ a + 5 < b) → f' b j = f b j
theorem x_fa8 {σ : St} {f : FI} {g : FL} {a : Nat} {z : TS} {k l r : Int} (hs : Sh8 σ a) (hz : HZ f (a + 2) z) (hn : z.1 < 200) : ∃ f' : FI, Ex mt 1 129 (il σ f g) [vR 9 (some (a + 2)), vI k, vI l, vI r] (il σ f' g, [vI ((fa z k l r).2 : Int)]) ∧ OutC f f' a (fa z k l r).1 := by
  obtain ⟨f', E, h1, h2⟩ := x_findOrAdd (g := g) (k := k) (l := l) (r := r) hs.o2 (by decide) hz hn
  exact ⟨f', E, h1, fun b j hb => h2 b j (by omega)⟩
theorem x_shortStar {σ : St} {f : FI} {g : FL} {a s : Nat} {z : TS} (hs : Sh8 σ a) (hz : HZ f (a + 2) z) (hn : z.1 < 200) (h1 : s < z.1) : ∃ f' : FI, Ex mt 2 122 (il σ f g) [vR 8 (some a), vI (s : Int)] (il σ f' g, [vI ((tStar true z s).2 : Int)]) ∧ OutC f f' a (tStar true z s).1 := by
  have e1 : f (a + 3) s = z.2.1 s := (hz.2 s h1).1
  unfold tStar
  by_cases c1 : z.2.1 s = 0 ∨ z.2.1 s = 1
  · rw [if_pos ⟨rfl, c1⟩]
    obtain ⟨f', E, O⟩ := x_fa8 (g := g) (k := 1) (l := 0) (r := 0) hs hz hn
    refine ⟨f', bk_X8_shortStar_0 hs ?_, O⟩
    rw [show f (a + 3) ((s : Int)).toNat = z.2.1 s from e1]
    exact ⟨by omega, fun _ => ⟨f', g, _, E, rfl⟩, fun y => ⟨fun w => absurd (c1.resolve_left y) w, fun _ => ⟨f', g, _, E, rfl⟩⟩⟩
  · rw [if_neg (fun q => c1 q.2)]
    by_cases c2 : z.2.1 s = 5
    · rw [if_pos ⟨rfl, c2⟩]
      refine ⟨f, bk_X8_shortStar_0 hs ?_, hz, fun _ _ _ => rfl⟩
      rw [show f (a + 3) ((s : Int)).toNat = z.2.1 s from e1]
      exact ⟨by omega, fun y => absurd (Or.inl y) c1, fun _ => ⟨fun _ => ⟨fun y => absurd c2 y, fun _ => rfl⟩, fun y => absurd (Or.inr y) c1⟩⟩
    · rw [if_neg (fun q => c2 q.2)]
      obtain ⟨f', E, O⟩ := x_fa8 (g := g) (k := 5) (l := (s : Int)) (r := 0) hs hz hn
      refine ⟨f', bk_X8_shortStar_0 hs ?_, O⟩
      rw [show f (a + 3) ((s : Int)).toNat = z.2.1 s from e1]
      exact ⟨by omega, fun y => absurd (Or.inl y) c1, fun _ => ⟨fun _ => ⟨fun _ => ⟨f', g, _, E, rfl⟩, fun y => absurd y c2⟩, fun y => absurd (Or.inr y) c1⟩⟩
theorem x_shortEither {σ : St} {f : FI} {g : FL} {a s t : Nat} {z : TS} (hs : Sh8 σ a) (hz : HZ f (a + 2) z) (hn : z.1 < 200) (h1 : s < z.1) (h2 : t < z.1) : ∃ f' : FI, Ex mt 2 123 (il σ f g) [vR 8 (some a), vI (s : Int), vI (t : Int)] (il σ f' g, [vI ((tEither true z s t).2 : Int)]) ∧ OutC f f' a (tEither true z s t).1 := by
  have e1 : f (a + 3) s = z.2.1 s := (hz.2 s h1).1
  have e2 : f (a + 3) t = z.2.1 t := (hz.2 t h2).1
  unfold tEither
  by_cases c1 : s = t ∨ z.2.1 t = 0
  · rw [if_pos ⟨rfl, c1⟩]
    refine ⟨f, bk_X8_shortEither_0 hs ?_, hz, fun _ _ _ => rfl⟩
    rw [show f (a + 3) ((s : Int)).toNat = z.2.1 s from e1, show f (a + 3) ((t : Int)).toNat = z.2.1 t from e2]
    exact ⟨fun _ => rfl, fun y => ⟨by omega, fun w => absurd (c1.resolve_left (fun q => y (by rw [q]))) w, fun _ => rfl⟩⟩
  · rw [if_neg (fun q => c1 q.2)]
    by_cases c2 : z.2.1 s = 0
    · rw [if_pos ⟨rfl, c2⟩]
      refine ⟨f, bk_X8_shortEither_0 hs ?_, hz, fun _ _ _ => rfl⟩
      rw [show f (a + 3) ((s : Int)).toNat = z.2.1 s from e1, show f (a + 3) ((t : Int)).toNat = z.2.1 t from e2]
      exact ⟨fun y => absurd (Or.inl (by omega)) c1, fun _ => ⟨by omega, fun _ => ⟨by omega, fun y => absurd c2 y, fun _ => rfl⟩, fun y => absurd (Or.inr y) c1⟩⟩
    · rw [if_neg (fun q => c2 q.2)]
      obtain ⟨f', E, O⟩ := x_fa8 (g := g) (k := 7) (l := (s : Int)) (r := (t : Int)) hs hz hn
      refine ⟨f', bk_X8_shortEither_0 hs ?_, O⟩
      rw [show f (a + 3) ((s : Int)).toNat = z.2.1 s from e1, show f (a + 3) ((t : Int)).toNat = z.2.1 t from e2]
      exact ⟨fun y => absurd (Or.inl (by omega)) c1, fun _ => ⟨by omega, fun _ => ⟨by omega, fun _ => ⟨f', g, _, E, rfl⟩, fun y => absurd y c2⟩, fun y => absurd (Or.inr y) c1⟩⟩
theorem x_shortThen {σ : St} {f : FI} {g : FL} {a s t : Nat} {z : TS} (hs : Sh8 σ a) (hz : HZ f (a + 2) z) (hn : z.1 < 200) (h1 : s < z.1) (h2 : t < z.1) : ∃ f' : FI, Ex mt 3 124 (il σ f g) [vR 8 (some a), vI (s : Int), vI (t : Int)] (il σ f' g, [vI ((tThen true z s t).2 : Int)]) ∧ OutC f f' a (tThen true z s t).1 := by
  obtain ⟨e1, l1, r1⟩ := hz.2 s h1
  obtain ⟨e2, l2, r2⟩ := hz.2 t h2
  have e1 : f (a + 3) s = z.2.1 s := e1
  have e2 : f (a + 3) t = z.2.1 t := e2
  have l1 : f (a + 4) s = z.2.2.1 s := l1
  have l2 : f (a + 4) t = z.2.2.1 t := l2
  have r1 : f (a + 5) s = z.2.2.2 s := r1
  have r2 : f (a + 5) t = z.2.2.2 t := r2
  obtain ⟨f6, E6, O6⟩ := x_fa8 (g := g) (k := 6) (l := (s : Int)) (r := (t : Int)) hs hz hn
  unfold tThen
  rw [if_neg (by decide)]
  by_cases c1 : z.2.1 s = 0 ∨ z.2.1 t = 1
  · rw [if_pos c1]
    refine ⟨f, bk_X8_shortThen_0 hs ?_, hz, fun _ _ _ => rfl⟩
    rw [show f (a + 3) ((s : Int)).toNat = z.2.1 s from e1, show f (a + 3) ((t : Int)).toNat = z.2.1 t from e2]
    exact ⟨⟨by omega, by omega⟩, fun _ => rfl, fun y => ⟨fun w => absurd (c1.resolve_left y) w, fun _ => rfl⟩⟩
  · rw [if_neg c1]
    have s0 : ¬ z.2.1 s = 0 := fun q => c1 (Or.inl q)
    have t1 : ¬ z.2.1 t = 1 := fun q => c1 (Or.inr q)
    by_cases c2 : z.2.1 s = 1 ∨ z.2.1 t = 0
    · rw [if_pos c2]
      refine ⟨f, bk_X8_shortThen_0 hs ?_, hz, fun _ _ _ => rfl⟩
      rw [show f (a + 3) ((s : Int)).toNat = z.2.1 s from e1, show f (a + 3) ((t : Int)).toNat = z.2.1 t from e2]
      exact ⟨⟨by omega, by omega⟩, fun y => absurd y s0, fun _ => ⟨fun _ => ⟨fun _ => rfl, fun y => ⟨fun w => absurd (c2.resolve_left y) w, fun _ => rfl⟩⟩, fun y => absurd y t1⟩⟩
    · rw [if_neg c2]
      have s1 : ¬ z.2.1 s = 1 := fun q => c2 (Or.inl q)
      have t0 : ¬ z.2.1 t = 0 := fun q => c2 (Or.inr q)
      by_cases p1 : z.2.1 s = 2 ∨ z.2.1 s = 4
      · by_cases p2' : z.2.1 t = 2 ∨ z.2.1 t = 4
        · by_cases p3 : z.2.2.1 s = z.2.2.1 t
          · rw [if_pos ⟨p1, p2', p3⟩]
            -- one field
            have go : ∀ (f' : FI) (v : Int), Ex mt 2 126 (il σ f g) [vR 8 (some a), vI (s : Int), vI (t : Int)] (il σ f' g, [vI v]) → ¬ v = -1 → Ex mt 3 124 (il σ f g) [vR 8 (some a), vI (s : Int), vI (t : Int)] (il σ f' g, [vI v]) := fun f' v E hv => by
              refine bk_X8_shortThen_0 hs ?_
              rw [show f (a + 3) ((s : Int)).toNat = z.2.1 s from e1, show f (a + 3) ((t : Int)).toNat = z.2.1 t from e2, show f (a + 4) ((s : Int)).toNat = z.2.2.1 s from l1, show f (a + 4) ((t : Int)).toNat = z.2.2.1 t from l2]
              exact ⟨⟨by omega, by omega⟩, fun y => absurd y s0, fun _ => ⟨fun _ => ⟨fun y => absurd y s1, fun _ => ⟨fun _ => ⟨fun y => absurd p1 y, fun _ => ⟨fun y => absurd p2' y, fun _ => ⟨⟨by omega, by omega⟩, fun y => absurd p3 y, fun _ => ⟨f', g, v, E, fun _ => rfl, fun y => absurd y hv⟩⟩⟩⟩, fun y => absurd y t0⟩⟩, fun y => absurd y t1⟩⟩
            have fld : ∀ r : St × List Vl, ((¬ z.2.2.2 s = z.2.2.2 t → ((¬ z.2.1 t = 2 → ((¬ z.2.1 s = 4 → r = (il σ f g, [vI (-1)])) ∧ (z.2.1 s = 4 → r = (il σ f g, [vI (t : Int)])))) ∧ (z.2.1 t = 2 → ∃ (f10 : FI) (g11 : FL) (v13 : Int), Ex mt 1 129 (il σ f g) [vR 9 (some (a + 2)), vI 0, vI 0, vI 0] (il σ f10 g11, [vI v13]) ∧ r = (il σ f10 g11, [vI v13])))) ∧ (z.2.2.2 s = z.2.2.2 t → ((¬ z.2.1 t = 2 → ((¬ z.2.1 s = 4 → r = (il σ f g, [vI (s : Int)])) ∧ (z.2.1 s = 4 → r = (il σ f g, [vI (t : Int)])))) ∧ (z.2.1 t = 2 → r = (il σ f g, [vI (s : Int)]))))) → Ex mt 2 126 (il σ f g) [vR 8 (some a), vI (s : Int), vI (t : Int)] r := fun r h => by
              refine bk_X8_shortField_0 hs ?_
              rw [show f (a + 3) ((s : Int)).toNat = z.2.1 s from e1, show f (a + 3) ((t : Int)).toNat = z.2.1 t from e2, show f (a + 5) ((s : Int)).toNat = z.2.2.2 s from r1, show f (a + 5) ((t : Int)).toNat = z.2.2.2 t from r2]
              exact ⟨⟨by omega, by omega⟩, fun y => ⟨by omega, fun w => ⟨by omega, ((h.1 y).1 w).1, ((h.1 y).1 w).2⟩, (h.1 y).2⟩, fun y => ⟨by omega, fun w => ⟨by omega, ((h.2 y).1 w).1, ((h.2 y).1 w).2⟩, (h.2 y).2⟩⟩
            by_cases k2 : z.2.1 t = 2
            · rw [if_pos k2]
              by_cases al : z.2.2.2 s = z.2.2.2 t
              · rw [if_pos al]
                exact ⟨f, go f (s : Int) (fld _ ⟨fun y => absurd al y, fun _ => ⟨fun y => absurd k2 y, fun _ => rfl⟩⟩) (by omega), hz, fun _ _ _ => rfl⟩
              · rw [if_neg al]
                obtain ⟨f', E, O⟩ := x_fa8 (g := g) (k := 0) (l := 0) (r := 0) hs hz hn
                exact ⟨f', go f' _ (fld _ ⟨fun _ => ⟨fun y => absurd k2 y, fun _ => ⟨f', g, _, E, rfl⟩⟩, fun y => absurd y al⟩) (by omega), O⟩
            · rw [if_neg k2]
              by_cases k4 : z.2.1 s = 4
              · rw [if_pos k4]
                exact ⟨f, go f (t : Int) (fld _ ⟨fun _ => ⟨fun _ => ⟨fun y => absurd k4 y, fun _ => rfl⟩, fun y => absurd y k2⟩, fun _ => ⟨fun _ => ⟨fun y => absurd k4 y, fun _ => rfl⟩, fun y => absurd y k2⟩⟩) (by omega), hz, fun _ _ _ => rfl⟩
              · rw [if_neg k4]
                by_cases al : z.2.2.2 s = z.2.2.2 t
                · rw [if_pos al]
                  exact ⟨f, go f (s : Int) (fld _ ⟨fun y => absurd al y, fun _ => ⟨fun _ => ⟨fun _ => rfl, fun y => absurd y k4⟩, fun y => absurd y k2⟩⟩) (by omega), hz, fun _ _ _ => rfl⟩
                · rw [if_neg al]
                  have E := fld (il σ f g, [vI (-1)]) ⟨fun _ => ⟨fun _ => ⟨fun _ => rfl, fun y => absurd y k4⟩, fun y => absurd y k2⟩, fun y => absurd y al⟩
                  refine ⟨f6, bk_X8_shortThen_0 hs ?_, O6⟩
                  rw [show f (a + 3) ((s : Int)).toNat = z.2.1 s from e1, show f (a + 3) ((t : Int)).toNat = z.2.1 t from e2, show f (a + 4) ((s : Int)).toNat = z.2.2.1 s from l1, show f (a + 4) ((t : Int)).toNat = z.2.2.1 t from l2]
                  exact ⟨⟨by omega, by omega⟩, fun y => absurd y s0, fun _ => ⟨fun _ => ⟨fun y => absurd y s1, fun _ => ⟨fun _ => ⟨fun y => absurd p1 y, fun _ => ⟨fun y => absurd p2' y, fun _ => ⟨⟨by omega, by omega⟩, fun y => absurd p3 y, fun _ => ⟨f, g, -1, E, fun y => absurd rfl y, fun _ => ⟨f6, g, _, E6, rfl⟩⟩⟩⟩⟩, fun y => absurd y t0⟩⟩, fun y => absurd y t1⟩⟩
          · rw [if_neg (fun q => p3 q.2.2)]
            refine ⟨f6, bk_X8_shortThen_0 hs ?_, O6⟩
            rw [show f (a + 3) ((s : Int)).toNat = z.2.1 s from e1, show f (a + 3) ((t : Int)).toNat = z.2.1 t from e2, show f (a + 4) ((s : Int)).toNat = z.2.2.1 s from l1, show f (a + 4) ((t : Int)).toNat = z.2.2.1 t from l2]
            exact ⟨⟨by omega, by omega⟩, fun y => absurd y s0, fun _ => ⟨fun _ => ⟨fun y => absurd y s1, fun _ => ⟨fun _ => ⟨fun y => absurd p1 y, fun _ => ⟨fun y => absurd p2' y, fun _ => ⟨⟨by omega, by omega⟩, fun _ => ⟨f6, g, _, E6, rfl⟩, fun y => absurd y p3⟩⟩⟩, fun y => absurd y t0⟩⟩, fun y => absurd y t1⟩⟩
        · rw [if_neg (fun q => p2' q.2.1)]
          refine ⟨f6, bk_X8_shortThen_0 hs ?_, O6⟩
          rw [show f (a + 3) ((s : Int)).toNat = z.2.1 s from e1, show f (a + 3) ((t : Int)).toNat = z.2.1 t from e2]
          exact ⟨⟨by omega, by omega⟩, fun y => absurd y s0, fun _ => ⟨fun _ => ⟨fun y => absurd y s1, fun _ => ⟨fun _ => ⟨fun y => absurd p1 y, fun _ => ⟨fun _ => ⟨f6, g, _, E6, rfl⟩, fun y => absurd y p2'⟩⟩, fun y => absurd y t0⟩⟩, fun y => absurd y t1⟩⟩
      · rw [if_neg (fun q => p1 q.1)]
        refine ⟨f6, bk_X8_shortThen_0 hs ?_, O6⟩
        rw [show f (a + 3) ((s : Int)).toNat = z.2.1 s from e1, show f (a + 3) ((t : Int)).toNat = z.2.1 t from e2]
        exact ⟨⟨by omega, by omega⟩, fun y => absurd y s0, fun _ => ⟨fun _ => ⟨fun y => absurd y s1, fun _ => ⟨fun _ => ⟨fun _ => ⟨f6, g, _, E6, rfl⟩, fun y => absurd y p1⟩, fun y => absurd y t0⟩⟩, fun y => absurd y t1⟩⟩
theorem x_shorten {σ : St} {f : FI} {g : FL} {a x c N : Nat} {K L R : FN} (hs : Sh8 σ a) (hx : Sh9 σ x c) (hxa : x + 3 < a + 2 ∨ a + 6 < x) (hN : N ≤ c) (hw : Wf K L R N) (h1 : 1 ≤ N ∧ N ≤ 200) (h3 : f x 3 = (N : Int)) (hH : Hld f x N K L R) : ∃ f' : FI, Ex mt 4 121 (il σ f g) [vR 8 (some a), vR 9 (some x)] (il σ f' g, [vI ((tRun true K L R N).2 (N - 1) : Nat)]) ∧ HZ f' (a + 2) (tRun true K L R N).1 ∧ ∀ b j, (b < a + 2 ∨ a + 6 < b) → f' b j = f b j := by
  have loop : ∀ q i : Nat, i + q = N → ∀ fi : FI, HZ fi (a + 2) (tRun true K L R i).1 → (∀ j, j < i → fi (a + 6) j = ((tRun true K L R i).2 j : Nat)) → (∀ b j, (b < a + 2 ∨ a + 6 < b) → fi b j = f b j) → ∃ f' : FI, A_X8_shorten_10 σ fi g a x (i : Int) (il σ f' g, [vI ((tRun true K L R N).2 (N - 1) : Nat)]) ∧ HZ f' (a + 2) (tRun true K L R N).1 ∧ ∀ b j, (b < a + 2 ∨ a + 6 < b) → f' b j = f b j := by
    intro q
    induction q with
    | zero =>
      intro i hi fi hz hm hF
      obtain rfl : i = N := by omega
      have e3 : fi x 3 = (i : Int) := by rw [hF x 3 (by omega)]; exact h3
      refine ⟨fi, bk_X8_shorten_10 hs hx ⟨fun _ => ⟨fun y => absurd y (by rw [e3]; omega), fun _ => ?_⟩, fun y => absurd (by rw [e3]; omega) y⟩, hz, hF⟩
      rw [e3]
      refine ⟨⟨by omega, by omega⟩, ?_⟩
      rw [show ((i : Int) - 1).toNat = i - 1 by omega, hm (i - 1) (by omega)]
    | succ q ih =>
      intro i hi fi hz hm hF
      obtain ⟨w, n, b⟩ := tRun_bd hw i (by omega)
      have e3 : fi x 3 = (N : Int) := by rw [hF x 3 (by omega)]; exact h3
      obtain ⟨k1, k2, k3⟩ := hH i (by omega)
      have ek : fi (x + 1) i = K i := by rw [hF _ _ (by omega)]; exact k1
      have el : fi (x + 2) i = L i := by rw [hF _ _ (by omega)]; exact k2
      have er : fi (x + 3) i = R i := by rw [hF _ _ (by omega)]; exact k3
      have wi := hw i (by omega)
      unfold Wf1 at wi
      -- on to the next node
      have nxt : ∀ (f2 : FI), OutC fi f2 a (tNode true (tRun true K L R i).1 (tRun true K L R i).2 (K i) (L i) (R i)).1 → ∃ f' : FI, A_X8_shorten_10 σ (up2 f2 (a + 6) i ((tNode true (tRun true K L R i).1 (tRun true K L R i).2 (K i) (L i) (R i)).2 : Nat)) g a x ((i : Int) + 1) (il σ f' g, [vI ((tRun true K L R N).2 (N - 1) : Nat)]) ∧ HZ f' (a + 2) (tRun true K L R N).1 ∧ ∀ b j, (b < a + 2 ∨ a + 6 < b) → f' b j = f b j := fun f2 O => ih (i + 1) (by omega) _ (by
        rw [tRun_s]
        refine ⟨?_, fun j hj => ?_⟩
        · rw [u2_a (by omega)]
          exact O.1.1
        · rw [u2_a (by omega), u2_a (by omega), u2_a (by omega)]
          exact O.1.2 j hj) (fun j hj => by
        rw [tRun_s]
        show _ = ((if j = i then _ else _ : Nat) : Int)
        by_cases y : j = i
        · subst y
          rw [u2_s, if_pos rfl]
        · rw [u2_i y, if_neg y, O.2 _ _ (by omega)]
          exact hm j (by omega)) (fun b j hb => by rw [u2_a (by omega), O.2 _ _ (by omega)]; exact hF b j hb)
      have ng : ¬ fi x 3 ≤ (i : Int) := by rw [e3]; omega
      have sub : ∀ c : Int, 0 ≤ c → c < i → fi (a + 6) c.toNat = ((tRun true K L R i).2 c.toNat : Nat) ∧ (tRun true K L R i).2 c.toNat < (tRun true K L R i).1.1 := fun c h5 h6 => ⟨hm _ (by omega), (b _ (by omega)).1⟩
      by_cases h5 : K i = 5
      · obtain ⟨s1, s2⟩ := sub (L i) (by omega) (by omega)
        obtain ⟨f2, E, O⟩ := x_shortStar (g := g) hs hz (by omega) s2
        have eN : tNode true (tRun true K L R i).1 (tRun true K L R i).2 (K i) (L i) (R i) = tStar true (tRun true K L R i).1 ((tRun true K L R i).2 (L i).toNat) := if_pos h5
        rw [← eN] at E O
        obtain ⟨f', A, rr⟩ := nxt f2 O
        refine ⟨f', bk_X8_shorten_10 hs hx ⟨fun y => absurd y ng, fun _ => ⟨fun y => absurd y (by omega), fun _ => ?_⟩⟩, rr⟩
        rw [show fi (x + 1) ((i : Int)).toNat = K i from ek, show fi (x + 2) ((i : Int)).toNat = L i from el, show fi (x + 3) ((i : Int)).toNat = R i from er, s1]
        exact ⟨by omega, fun y => absurd h5 y, fun _ => ⟨by omega, f2, g, _, E, by omega, by omega, A⟩⟩
      · by_cases h7 : K i = 7
        · obtain ⟨s1, s2⟩ := sub (L i) (by omega) (by omega)
          obtain ⟨s3, s4⟩ := sub (R i) (by omega) (by omega)
          obtain ⟨f2, E, O⟩ := x_shortEither (g := g) hs hz (by omega) s2 s4
          have eN : tNode true (tRun true K L R i).1 (tRun true K L R i).2 (K i) (L i) (R i) = tEither true (tRun true K L R i).1 ((tRun true K L R i).2 (L i).toNat) ((tRun true K L R i).2 (R i).toNat) := (if_neg h5).trans (if_pos h7)
          rw [← eN] at E O
          obtain ⟨f', A, rr⟩ := nxt f2 O
          refine ⟨f', bk_X8_shorten_10 hs hx ⟨fun y => absurd y ng, fun _ => ⟨fun y => absurd y (by omega), fun _ => ?_⟩⟩, rr⟩
          rw [show fi (x + 1) ((i : Int)).toNat = K i from ek, show fi (x + 2) ((i : Int)).toNat = L i from el, show fi (x + 3) ((i : Int)).toNat = R i from er, s1, s3]
          exact ⟨by omega, fun _ => ⟨fun y => absurd h7 y, fun _ => ⟨⟨by omega, by omega⟩, f2, g, _, E, by omega, by omega, A⟩⟩, fun y => absurd y h5⟩
        · by_cases h6 : K i = 6
          · obtain ⟨s1, s2⟩ := sub (L i) (by omega) (by omega)
            obtain ⟨s3, s4⟩ := sub (R i) (by omega) (by omega)
            obtain ⟨f2, E, O⟩ := x_shortThen (g := g) hs hz (by omega) s2 s4
            have eN : tNode true (tRun true K L R i).1 (tRun true K L R i).2 (K i) (L i) (R i) = tThen true (tRun true K L R i).1 ((tRun true K L R i).2 (L i).toNat) ((tRun true K L R i).2 (R i).toNat) := (if_neg h5).trans ((if_neg h7).trans (if_pos h6))
            rw [← eN] at E O
            obtain ⟨f', A, rr⟩ := nxt f2 O
            refine ⟨f', bk_X8_shorten_10 hs hx ⟨fun y => absurd y ng, fun _ => ⟨fun y => absurd y (by omega), fun _ => ?_⟩⟩, rr⟩
            rw [show fi (x + 1) ((i : Int)).toNat = K i from ek, show fi (x + 2) ((i : Int)).toNat = L i from el, show fi (x + 3) ((i : Int)).toNat = R i from er, s1, s3]
            exact ⟨by omega, fun _ => ⟨fun _ => ⟨fun y => absurd h6 y, fun _ => ⟨⟨by omega, by omega⟩, f2, g, _, E, by omega, by omega, A⟩⟩, fun y => absurd y h7⟩, fun y => absurd y h5⟩
          · obtain ⟨f2, E, O⟩ := x_fa8 (g := g) (k := K i) (l := L i) (r := R i) hs hz (by omega)
            have eN : tNode true (tRun true K L R i).1 (tRun true K L R i).2 (K i) (L i) (R i) = fa (tRun true K L R i).1 (K i) (L i) (R i) := (if_neg h5).trans ((if_neg h7).trans (if_neg h6))
            rw [← eN] at E O
            obtain ⟨f', A, rr⟩ := nxt f2 O
            refine ⟨f', bk_X8_shorten_10 hs hx ⟨fun y => absurd y ng, fun _ => ⟨fun y => absurd y (by omega), fun _ => ?_⟩⟩, rr⟩
            rw [show fi (x + 1) ((i : Int)).toNat = K i from ek, show fi (x + 2) ((i : Int)).toNat = L i from el, show fi (x + 3) ((i : Int)).toNat = R i from er]
            exact ⟨by omega, fun _ => ⟨fun _ => ⟨fun _ => ⟨f2, g, _, E, by omega, by omega, A⟩, fun y => absurd y h6⟩, fun y => absurd y h7⟩, fun y => absurd y h5⟩
  obtain ⟨f', A, r1, r2⟩ := loop N 0 (by omega) (up2 f (a + 2) 3 0) ⟨u2_s, fun j hj => absurd hj (Nat.not_lt_zero j)⟩ (fun j hj => absurd hj (Nat.not_lt_zero j)) (fun b j hb => u2_a (by omega))
  exact ⟨f', bk_X8_shorten_0 hs hx A, r1, r2⟩
