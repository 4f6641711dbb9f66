/-! tell: the model lays trees together -/
theorem bk_X12_isOfField_0 {σ : St} {f : FI} {g : FL} {a : Nat} {x1 : Int} {x2 : Int} {r : St × List Vl} (hs : Sh12 σ a) (h : ((0 ≤ x1 ∧ x1 < 600)) ∧ ((¬ (f (a + 41) ((x1).toNat)) = x2 → (r = ((il σ f g), [vI 0]))) ∧ ((f (a + 41) ((x1).toNat)) = x2 → (r = ((il σ f g), [vI 1]))))) : Ex mt 0 281 (il σ f g) [vR 12 (some a), vI x1, vI x2] r := Ex.mk mt_281 (show Gx mt 0 cd_X12_isOfField (il σ f g) b_X12_isOfField_0 [some (vR 12 (some a)), some (vI x1), some (vI x2)] [] r from (go_loadA rfl (gi_getR (Sh12.r60 hs) (go_loadI rfl (gi_iald (inl_ (Sh12.l60 hs) h.1) (go_loadI rfl (gq_icmp_ne (fun e3 => have h1 := h.2.1 e3; (go_pushI rfl (go_fall (h1 ▸ (gq_retZ ⟨by decide, by decide⟩))))) (fun e3 => have h2 := h.2.2 e3; (go_pushI rfl (go_goto (h2 ▸ (gq_retZ ⟨by decide, by decide⟩))))))))))))
theorem pu_isOfField {σ : St} {f : FI} {g : FL} {a : Nat} {n k : Int} (hs : Sh12 σ a) (h : 0 ≤ n ∧ n < 600) : Ex mt 0 281 (il σ f g) [vR 12 (some a), vI n, vI k] (il σ f g, [vI (bI (f (a + 41) n.toNat = k))]) := by
  by_cases z : f (a + 41) n.toNat = k
  · rw [bI_t z]
    exact bk_X12_isOfField_0 hs ⟨h, fun y => absurd z y, fun _ => rfl⟩
  · rw [bI_f z]
    exact bk_X12_isOfField_0 hs ⟨h, fun _ => rfl, fun y => absurd y z⟩
def A_X12_alike_3 (σ : St) (f : FI) (g : FL) (a : Nat) (x1 : Int) (x2 : Int) (x3 : Int) (x4 : Int) (r : St × List Vl) : Prop := Gx mt 0 cd_X12_alike (il σ f g) (cd_X12_alike 3) [some (vR 12 (some a)), some (vI x1), some (vI x2), some (vI x3), some (vI x4)] [] r
theorem bk_X12_alike_0 {σ : St} {f : FI} {g : FL} {a : Nat} {x1 : Int} {x2 : Int} {x3 : Int} {r : St × List Vl} (hs : Sh12 σ a) (h : (A_X12_alike_3 σ f g a x1 x2 x3 0 r)) : Ex mt 0 280 (il σ f g) [vR 12 (some a), vI x1, vI x2, vI x3] r := Ex.mk mt_280 (show Gx mt 0 cd_X12_alike (il σ f g) b_X12_alike_0 [some (vR 12 (some a)), some (vI x1), some (vI x2), some (vI x3), none] [] r from (go_pushI rfl (go_stoI rfl rfl (go_fall (h)))))
theorem bk_X12_alike_3 {σ : St} {f : FI} {g : FL} {a : Nat} {x1 : Int} {x2 : Int} {x3 : Int} {x4 : Int} {r : St × List Vl} (hs : Sh12 σ a) (h : (((f a 64) ≤ x4 → ((¬ x4 = (f a 64) → (r = ((il σ f g), [vI x4]))) ∧ (x4 = (f a 64) → ((0 ≤ x4 ∧ x4 < 600) ∧ (-2147483648 ≤ ((f a 64) + 1) ∧ ((f a 64) + 1) ≤ 2147483647)) ∧ (r = ((il σ (up2 (up2 (up2 (up2 f (a + 41) ((x4).toNat) x1) (a + 42) ((x4).toNat) x2) (a + 43) ((x4).toNat) x3) a 64 ((f a 64) + 1)) g), [vI x4]))))) ∧ (¬ (f a 64) ≤ x4 → ((0 ≤ x4 ∧ x4 < 600)) ∧ ((¬ (f (a + 41) ((x4).toNat)) = x1 → ((-2147483648 ≤ (x4 + 1) ∧ (x4 + 1) ≤ 2147483647)) ∧ (A_X12_alike_3 σ f g a x1 x2 x3 (x4 + 1) r)) ∧ ((f (a + 41) ((x4).toNat)) = x1 → ((0 ≤ x4 ∧ x4 < 600)) ∧ ((¬ (f (a + 42) ((x4).toNat)) = x2 → ((-2147483648 ≤ (x4 + 1) ∧ (x4 + 1) ≤ 2147483647)) ∧ (A_X12_alike_3 σ f g a x1 x2 x3 (x4 + 1) r)) ∧ ((f (a + 42) ((x4).toNat)) = x2 → ((0 ≤ x4 ∧ x4 < 600)) ∧ (((f (a + 43) ((x4).toNat)) = x3 → ((¬ x4 = (f a 64) → (r = ((il σ f g), [vI x4]))) ∧ (x4 = (f a 64) → ((0 ≤ x4 ∧ x4 < 600) ∧ (-2147483648 ≤ ((f a 64) + 1) ∧ ((f a 64) + 1) ≤ 2147483647)) ∧ (r = ((il σ (up2 (up2 (up2 (up2 f (a + 41) ((x4).toNat) x1) (a + 42) ((x4).toNat) x2) (a + 43) ((x4).toNat) x3) a 64 ((f a 64) + 1)) g), [vI x4]))))) ∧ (¬ (f (a + 43) ((x4).toNat)) = x3 → ((-2147483648 ≤ (x4 + 1) ∧ (x4 + 1) ≤ 2147483647)) ∧ (A_X12_alike_3 σ f g a x1 x2 x3 (x4 + 1) r)))))))))) : A_X12_alike_3 σ f g a x1 x2 x3 x4 r := (show Gx mt 0 cd_X12_alike (il σ f g) b_X12_alike_3 [some (vR 12 (some a)), some (vI x1), some (vI x2), some (vI x3), some (vI x4)] [] r from (go_loadI rfl (go_loadA rfl (gi_getI (gq_icmp_ge (fun e3 => have h1 := h.1 e3; (go_loadI rfl (go_loadA rfl (gi_getI (gq_icmp_ne (fun e6 => have h4 := h1.1 e6; (go_loadI rfl (h4 ▸ gq_retI))) (fun e6 => have h5 := h1.2 e6; (go_loadA rfl (gi_getR (Sh12.r60 hs) (go_loadI rfl (go_loadI rfl (gi_iast (inl_ (Sh12.l60 hs) h5.1.1) (go_loadA rfl (gi_getR (Sh12.r61 hs) (go_loadI rfl (go_loadI rfl (gi_iast (inl_ (Sh12.l61 hs) h5.1.1) (go_loadA rfl (gi_getR (Sh12.r62 hs) (go_loadI rfl (go_loadI rfl (gi_iast (inl_ (Sh12.l62 hs) h5.1.1) (go_loadA rfl (go_dupA (gi_getIe (Eq.trans (u2_a (by omega)) (Eq.trans (u2_a (by omega)) (u2_a (by omega)))) (go_pushI rfl (go_iadd h5.1.2 (gi_putI (go_fall (go_loadI rfl (h5.2 ▸ gq_retI)))))))))))))))))))))))))))))) (fun e3 => have h2 := h.2 e3; (go_loadA rfl (gi_getR (Sh12.r60 hs) (go_loadI rfl (gi_iald (inl_ (Sh12.l60 hs) h2.1) (go_loadI rfl (gq_icmp_ne (fun e9 => have h7 := h2.2.1 e9; (go_iinc rfl h7.1 rfl (go_goto (h7.2)))) (fun e9 => have h8 := h2.2.2 e9; (go_loadA rfl (gi_getR (Sh12.r61 hs) (go_loadI rfl (gi_iald (inl_ (Sh12.l61 hs) h8.1) (go_loadI rfl (gq_icmp_ne (fun e12 => have h10 := h8.2.1 e12; (go_iinc rfl h10.1 rfl (go_goto (h10.2)))) (fun e12 => have h11 := h8.2.2 e12; (go_loadA rfl (gi_getR (Sh12.r62 hs) (go_loadI rfl (gi_iald (inl_ (Sh12.l62 hs) h11.1) (go_loadI rfl (gq_icmp_eq (fun e15 => have h13 := h11.2.1 e15; (go_loadI rfl (go_loadA rfl (gi_getI (gq_icmp_ne (fun e18 => have h16 := h13.1 e18; (go_loadI rfl (h16 ▸ gq_retI))) (fun e18 => have h17 := h13.2 e18; (go_loadA rfl (gi_getR (Sh12.r60 hs) (go_loadI rfl (go_loadI rfl (gi_iast (inl_ (Sh12.l60 hs) h17.1.1) (go_loadA rfl (gi_getR (Sh12.r61 hs) (go_loadI rfl (go_loadI rfl (gi_iast (inl_ (Sh12.l61 hs) h17.1.1) (go_loadA rfl (gi_getR (Sh12.r62 hs) (go_loadI rfl (go_loadI rfl (gi_iast (inl_ (Sh12.l62 hs) h17.1.1) (go_loadA rfl (go_dupA (gi_getIe (Eq.trans (u2_a (by omega)) (Eq.trans (u2_a (by omega)) (u2_a (by omega)))) (go_pushI rfl (go_iadd h17.1.2 (gi_putI (go_fall (go_loadI rfl (h17.2 ▸ gq_retI)))))))))))))))))))))))))))))) (fun e15 => have h14 := h11.2.2 e15; (go_fall (go_iinc rfl h14.1 rfl (go_goto (h14.2)))))))))))))))))))))))))))))))
theorem bk_X12_plus_0 {σ : St} {f : FI} {g : FL} {a : Nat} {x1 : Int} {x2 : Int} {x3 : Int} {r : St × List Vl} (hs : Sh12 σ a) (h : ((x3 = 0 → ((x3 = 0 → (∃ (f7 : FI) (g8 : FL) (v10 : Int), Ex mt 0 280 (il σ f g) [vR 12 (some a), vI 6, vI x1, vI x2] ((il σ f7 g8), [vI v10]) ∧ (r = ((il σ f7 g8), [vI v10])))) ∧ (¬ x3 = 0 → ((0 ≤ x1 ∧ x1 < 600)) ∧ ((¬ (f (a + 41) ((x1).toNat)) = 0 → (∃ (f16 : FI) (g17 : FL) (v19 : Int), Ex mt 0 280 (il σ f g) [vR 12 (some a), vI 6, vI x1, vI x2] ((il σ f16 g17), [vI v19]) ∧ (r = ((il σ f16 g17), [vI v19])))) ∧ ((f (a + 41) ((x1).toNat)) = 0 → (r = ((il σ f g), [vI x2]))))))) ∧ (¬ x3 = 0 → ((0 ≤ x2 ∧ x2 < 600)) ∧ (((f (a + 41) ((x2).toNat)) = 0 → (r = ((il σ f g), [vI x1]))) ∧ (¬ (f (a + 41) ((x2).toNat)) = 0 → ((¬ x1 = x2 → ((x3 = 0 → (∃ (f31 : FI) (g32 : FL) (v34 : Int), Ex mt 0 280 (il σ f g) [vR 12 (some a), vI 6, vI x1, vI x2] ((il σ f31 g32), [vI v34]) ∧ (r = ((il σ f31 g32), [vI v34])))) ∧ (¬ x3 = 0 → ((0 ≤ x1 ∧ x1 < 600)) ∧ ((¬ (f (a + 41) ((x1).toNat)) = 0 → (∃ (f40 : FI) (g41 : FL) (v43 : Int), Ex mt 0 280 (il σ f g) [vR 12 (some a), vI 6, vI x1, vI x2] ((il σ f40 g41), [vI v43]) ∧ (r = ((il σ f40 g41), [vI v43])))) ∧ ((f (a + 41) ((x1).toNat)) = 0 → (r = ((il σ f g), [vI x2]))))))) ∧ (x1 = x2 → (r = ((il σ f g), [vI x1]))))))))) : Ex mt 1 282 (il σ f g) [vR 12 (some a), vI x1, vI x2, vI x3] r := Ex.mk mt_282 (show Gx mt 1 cd_X12_plus (il σ f g) b_X12_plus_0 [some (vR 12 (some a)), some (vI x1), some (vI x2), some (vI x3)] [] r from (go_loadI rfl (gq_if_eq (fun e3 => have h1 := h.1 e3; (go_loadI rfl (gq_if_eq (fun e6 => have h4 := h1.1 e6; (go_loadA rfl (go_pushI rfl (go_loadI rfl (go_loadI rfl (Exists.elim h4 fun f7 w11 => Exists.elim w11 fun g8 w12 => Exists.elim w12 fun v10 h9 => (go_callV rfl rfl rfl h9.1 (go_fall (h9.2 ▸ gq_retI))))))))) (fun e6 => have h5 := h1.2 e6; (go_loadA rfl (gi_getR (Sh12.r60 hs) (go_loadI rfl (gi_iald (inl_ (Sh12.l60 hs) h5.1) (gq_if_ne (fun e15 => have h13 := h5.2.1 e15; (go_loadA rfl (go_pushI rfl (go_loadI rfl (go_loadI rfl (Exists.elim h13 fun f16 w20 => Exists.elim w20 fun g17 w21 => Exists.elim w21 fun v19 h18 => (go_callV rfl rfl rfl h18.1 (go_fall (h18.2 ▸ gq_retI))))))))) (fun e15 => have h14 := h5.2.2 e15; (go_loadI rfl (go_goto (h14 ▸ gq_retI))))))))))))) (fun e3 => have h2 := h.2 e3; (go_loadA rfl (gi_getR (Sh12.r60 hs) (go_loadI rfl (gi_iald (inl_ (Sh12.l60 hs) h2.1) (gq_if_eq (fun e24 => have h22 := h2.2.1 e24; (go_loadI rfl (h22 ▸ gq_retI))) (fun e24 => have h23 := h2.2.2 e24; (go_loadI rfl (go_loadI rfl (gq_icmp_ne (fun e27 => have h25 := h23.1 e27; (go_loadI rfl (gq_if_eq (fun e30 => have h28 := h25.1 e30; (go_loadA rfl (go_pushI rfl (go_loadI rfl (go_loadI rfl (Exists.elim h28 fun f31 w35 => Exists.elim w35 fun g32 w36 => Exists.elim w36 fun v34 h33 => (go_callV rfl rfl rfl h33.1 (go_fall (h33.2 ▸ gq_retI))))))))) (fun e30 => have h29 := h25.2 e30; (go_loadA rfl (gi_getR (Sh12.r60 hs) (go_loadI rfl (gi_iald (inl_ (Sh12.l60 hs) h29.1) (gq_if_ne (fun e39 => have h37 := h29.2.1 e39; (go_loadA rfl (go_pushI rfl (go_loadI rfl (go_loadI rfl (Exists.elim h37 fun f40 w44 => Exists.elim w44 fun g41 w45 => Exists.elim w45 fun v43 h42 => (go_callV rfl rfl rfl h42.1 (go_fall (h42.2 ▸ gq_retI))))))))) (fun e39 => have h38 := h29.2.2 e39; (go_loadI rfl (go_goto (h38 ▸ gq_retI))))))))))))) (fun e27 => have h26 := h23.2 e27; (go_fall (go_loadI rfl (h26 ▸ gq_retI)))))))))))))))))
theorem bk_X12_star_0 {σ : St} {f : FI} {g : FL} {a : Nat} {x1 : Int} {x2 : Int} {r : St × List Vl} (hs : Sh12 σ a) (h : ((x2 = 0 → ((x2 = 0 → (∃ (f7 : FI) (g8 : FL) (v10 : Int), Ex mt 0 280 (il σ f g) [vR 12 (some a), vI 5, vI x1, vI 0] ((il σ f7 g8), [vI v10]) ∧ (r = ((il σ f7 g8), [vI v10])))) ∧ (¬ x2 = 0 → ((0 ≤ x1 ∧ x1 < 600)) ∧ ((¬ (f (a + 41) ((x1).toNat)) = 5 → (∃ (f16 : FI) (g17 : FL) (v19 : Int), Ex mt 0 280 (il σ f g) [vR 12 (some a), vI 5, vI x1, vI 0] ((il σ f16 g17), [vI v19]) ∧ (r = ((il σ f16 g17), [vI v19])))) ∧ ((f (a + 41) ((x1).toNat)) = 5 → (r = ((il σ f g), [vI x1]))))))) ∧ (¬ x2 = 0 → ((0 ≤ x1 ∧ x1 < 600)) ∧ (((f (a + 41) ((x1).toNat)) = 0 → (∃ (f25 : FI) (g26 : FL) (v28 : Int), Ex mt 0 280 (il σ f g) [vR 12 (some a), vI 1, vI 0, vI 0] ((il σ f25 g26), [vI v28]) ∧ (r = ((il σ f25 g26), [vI v28])))) ∧ (¬ (f (a + 41) ((x1).toNat)) = 0 → ((0 ≤ x1 ∧ x1 < 600)) ∧ ((¬ (f (a + 41) ((x1).toNat)) = 1 → ((x2 = 0 → (∃ (f37 : FI) (g38 : FL) (v40 : Int), Ex mt 0 280 (il σ f g) [vR 12 (some a), vI 5, vI x1, vI 0] ((il σ f37 g38), [vI v40]) ∧ (r = ((il σ f37 g38), [vI v40])))) ∧ (¬ x2 = 0 → ((0 ≤ x1 ∧ x1 < 600)) ∧ ((¬ (f (a + 41) ((x1).toNat)) = 5 → (∃ (f46 : FI) (g47 : FL) (v49 : Int), Ex mt 0 280 (il σ f g) [vR 12 (some a), vI 5, vI x1, vI 0] ((il σ f46 g47), [vI v49]) ∧ (r = ((il σ f46 g47), [vI v49])))) ∧ ((f (a + 41) ((x1).toNat)) = 5 → (r = ((il σ f g), [vI x1]))))))) ∧ ((f (a + 41) ((x1).toNat)) = 1 → (∃ (f52 : FI) (g53 : FL) (v55 : Int), Ex mt 0 280 (il σ f g) [vR 12 (some a), vI 1, vI 0, vI 0] ((il σ f52 g53), [vI v55]) ∧ (r = ((il σ f52 g53), [vI v55])))))))))) : Ex mt 1 284 (il σ f g) [vR 12 (some a), vI x1, vI x2] r := Ex.mk mt_284 (show Gx mt 1 cd_X12_star (il σ f g) b_X12_star_0 [some (vR 12 (some a)), some (vI x1), some (vI x2)] [] r from (go_loadI rfl (gq_if_eq (fun e3 => have h1 := h.1 e3; (go_loadI rfl (gq_if_eq (fun e6 => have h4 := h1.1 e6; (go_loadA rfl (go_pushI rfl (go_loadI rfl (go_pushI rfl (Exists.elim h4 fun f7 w11 => Exists.elim w11 fun g8 w12 => Exists.elim w12 fun v10 h9 => (go_callV rfl rfl rfl h9.1 (go_fall (h9.2 ▸ gq_retI))))))))) (fun e6 => have h5 := h1.2 e6; (go_loadA rfl (gi_getR (Sh12.r60 hs) (go_loadI rfl (gi_iald (inl_ (Sh12.l60 hs) h5.1) (go_pushI rfl (gq_icmp_ne (fun e15 => have h13 := h5.2.1 e15; (go_loadA rfl (go_pushI rfl (go_loadI rfl (go_pushI rfl (Exists.elim h13 fun f16 w20 => Exists.elim w20 fun g17 w21 => Exists.elim w21 fun v19 h18 => (go_callV rfl rfl rfl h18.1 (go_fall (h18.2 ▸ gq_retI))))))))) (fun e15 => have h14 := h5.2.2 e15; (go_loadI rfl (go_goto (h14 ▸ gq_retI)))))))))))))) (fun e3 => have h2 := h.2 e3; (go_loadA rfl (gi_getR (Sh12.r60 hs) (go_loadI rfl (gi_iald (inl_ (Sh12.l60 hs) h2.1) (gq_if_eq (fun e24 => have h22 := h2.2.1 e24; (go_loadA rfl (go_pushI rfl (go_pushI rfl (go_pushI rfl (Exists.elim h22 fun f25 w29 => Exists.elim w29 fun g26 w30 => Exists.elim w30 fun v28 h27 => (go_callV rfl rfl rfl h27.1 (h27.2 ▸ gq_retI)))))))) (fun e24 => have h23 := h2.2.2 e24; (go_loadA rfl (gi_getR (Sh12.r60 hs) (go_loadI rfl (gi_iald (inl_ (Sh12.l60 hs) h23.1) (go_pushI rfl (gq_icmp_ne (fun e33 => have h31 := h23.2.1 e33; (go_loadI rfl (gq_if_eq (fun e36 => have h34 := h31.1 e36; (go_loadA rfl (go_pushI rfl (go_loadI rfl (go_pushI rfl (Exists.elim h34 fun f37 w41 => Exists.elim w41 fun g38 w42 => Exists.elim w42 fun v40 h39 => (go_callV rfl rfl rfl h39.1 (go_fall (h39.2 ▸ gq_retI))))))))) (fun e36 => have h35 := h31.2 e36; (go_loadA rfl (gi_getR (Sh12.r60 hs) (go_loadI rfl (gi_iald (inl_ (Sh12.l60 hs) h35.1) (go_pushI rfl (gq_icmp_ne (fun e45 => have h43 := h35.2.1 e45; (go_loadA rfl (go_pushI rfl (go_loadI rfl (go_pushI rfl (Exists.elim h43 fun f46 w50 => Exists.elim w50 fun g47 w51 => Exists.elim w51 fun v49 h48 => (go_callV rfl rfl rfl h48.1 (go_fall (h48.2 ▸ gq_retI))))))))) (fun e45 => have h44 := h35.2.2 e45; (go_loadI rfl (go_goto (h44 ▸ gq_retI)))))))))))))) (fun e33 => have h32 := h23.2.2 e33; (go_fall (go_loadA rfl (go_pushI rfl (go_pushI rfl (go_pushI rfl (Exists.elim h32 fun f52 w56 => Exists.elim w56 fun g53 w57 => Exists.elim w57 fun v55 h54 => (go_callV rfl rfl rfl h54.1 (h54.2 ▸ gq_retI)))))))))))))))))))))))))
def A_X12_root_7 (σ : St) (f : FI) (g : FL) (a : Nat) (x1 : Int) (x2 : Int) (x3 : Int) (r : St × List Vl) : Prop := ∀ (y4 : Option Vl) (y5 : Option Vl), Gx mt 2 cd_X12_root (il σ f g) (cd_X12_root 7) [some (vR 12 (some a)), some (vI x1), some (vI x2), some (vI x3), y4, y5] [] r
theorem bk_X12_root_0 {σ : St} {f : FI} {g : FL} {a : Nat} {x1 : Int} {x2 : Int} {r : St × List Vl} (hs : Sh12 σ a) (h : (A_X12_root_7 σ (up2 f a 64 0) g a x1 x2 0 r)) : Ex mt 2 285 (il σ f g) [vR 12 (some a), vI x1, vI x2] r := Ex.mk mt_285 (show Gx mt 2 cd_X12_root (il σ f g) b_X12_root_0 [some (vR 12 (some a)), some (vI x1), some (vI x2), none, none, none] [] r from (go_loadA rfl (go_pushI rfl (gi_putI (go_pushI rfl (go_stoI rfl rfl (go_fall (h _ _))))))))
theorem bk_X12_root_7 {σ : St} {f : FI} {g : FL} {a : Nat} {x1 : Int} {x2 : Int} {x3 : Int} {r : St × List Vl} (hs : Sh12 σ a) (h : ((0 ≤ x1 ∧ x1 < 12)) ∧ (((f (a + 5) ((x1).toNat)) ≤ x3 → ((0 ≤ x1 ∧ x1 < 12) ∧ (-2147483648 ≤ ((f (a + 5) ((x1).toNat)) - 1) ∧ ((f (a + 5) ((x1).toNat)) - 1) ≤ 2147483647) ∧ (0 ≤ ((f (a + 5) ((x1).toNat)) - 1) ∧ ((f (a + 5) ((x1).toNat)) - 1) < 300)) ∧ (r = ((il σ f g), [vI (f (a + 44) ((((f (a + 5) ((x1).toNat)) - 1)).toNat))]))) ∧ (¬ (f (a + 5) ((x1).toNat)) ≤ x3 → ((-2147483648 ≤ (300 * x1) ∧ (300 * x1) ≤ 2147483647) ∧ (-2147483648 ≤ ((300 * x1) + x3) ∧ ((300 * x1) + x3) ≤ 2147483647) ∧ (0 ≤ ((300 * x1) + x3) ∧ ((300 * x1) + x3) < 3600)) ∧ ((¬ (f (a + 2) ((((300 * x1) + x3)).toNat)) = 6 → ((¬ (f (a + 2) ((((300 * x1) + x3)).toNat)) = 7 → ((¬ (f (a + 2) ((((300 * x1) + x3)).toNat)) = 5 → ((0 ≤ ((300 * x1) + x3) ∧ ((300 * x1) + x3) < 3600)) ∧ (∃ (f13 : FI) (g14 : FL) (v16 : Int), Ex mt 0 280 (il σ f g) [vR 12 (some a), vI (f (a + 2) ((((300 * x1) + x3)).toNat)), vI (f (a + 3) ((((300 * x1) + x3)).toNat)), vI (f (a + 4) ((((300 * x1) + x3)).toNat))] ((il σ f13 g14), [vI v16]) ∧ ((0 ≤ x3 ∧ x3 < 300) ∧ (-2147483648 ≤ (x3 + 1) ∧ (x3 + 1) ≤ 2147483647)) ∧ (A_X12_root_7 σ (up2 f13 (a + 44) ((x3).toNat) v16) g14 a x1 x2 (x3 + 1) r))) ∧ ((f (a + 2) ((((300 * x1) + x3)).toNat)) = 5 → ((0 ≤ ((300 * x1) + x3) ∧ ((300 * x1) + x3) < 3600) ∧ (0 ≤ (f (a + 3) ((((300 * x1) + x3)).toNat)) ∧ (f (a + 3) ((((300 * x1) + x3)).toNat)) < 300)) ∧ (∃ (f19 : FI) (g20 : FL) (v22 : Int), Ex mt 1 284 (il σ f g) [vR 12 (some a), vI (f (a + 44) (((f (a + 3) ((((300 * x1) + x3)).toNat))).toNat)), vI x2] ((il σ f19 g20), [vI v22]) ∧ ((0 ≤ x3 ∧ x3 < 300) ∧ (-2147483648 ≤ (x3 + 1) ∧ (x3 + 1) ≤ 2147483647)) ∧ (A_X12_root_7 σ (up2 f19 (a + 44) ((x3).toNat) v22) g20 a x1 x2 (x3 + 1) r))))) ∧ ((f (a + 2) ((((300 * x1) + x3)).toNat)) = 7 → ((0 ≤ ((300 * x1) + x3) ∧ ((300 * x1) + x3) < 3600) ∧ (0 ≤ (f (a + 3) ((((300 * x1) + x3)).toNat)) ∧ (f (a + 3) ((((300 * x1) + x3)).toNat)) < 300) ∧ (0 ≤ (f (a + 4) ((((300 * x1) + x3)).toNat)) ∧ (f (a + 4) ((((300 * x1) + x3)).toNat)) < 300)) ∧ (∃ (f25 : FI) (g26 : FL) (v28 : Int), Ex mt 1 283 (il σ f g) [vR 12 (some a), vI (f (a + 44) (((f (a + 3) ((((300 * x1) + x3)).toNat))).toNat)), vI (f (a + 44) (((f (a + 4) ((((300 * x1) + x3)).toNat))).toNat)), vI x2] ((il σ f25 g26), [vI v28]) ∧ ((0 ≤ x3 ∧ x3 < 300) ∧ (-2147483648 ≤ (x3 + 1) ∧ (x3 + 1) ≤ 2147483647)) ∧ (A_X12_root_7 σ (up2 f25 (a + 44) ((x3).toNat) v28) g26 a x1 x2 (x3 + 1) r))))) ∧ ((f (a + 2) ((((300 * x1) + x3)).toNat)) = 6 → ((0 ≤ ((300 * x1) + x3) ∧ ((300 * x1) + x3) < 3600) ∧ (0 ≤ (f (a + 3) ((((300 * x1) + x3)).toNat)) ∧ (f (a + 3) ((((300 * x1) + x3)).toNat)) < 300) ∧ (0 ≤ (f (a + 4) ((((300 * x1) + x3)).toNat)) ∧ (f (a + 4) ((((300 * x1) + x3)).toNat)) < 300)) ∧ (∃ (f31 : FI) (g32 : FL) (v34 : Int), Ex mt 1 282 (il σ f g) [vR 12 (some a), vI (f (a + 44) (((f (a + 3) ((((300 * x1) + x3)).toNat))).toNat)), vI (f (a + 44) (((f (a + 4) ((((300 * x1) + x3)).toNat))).toNat)), vI x2] ((il σ f31 g32), [vI v34]) ∧ ((0 ≤ x3 ∧ x3 < 300) ∧ (-2147483648 ≤ (x3 + 1) ∧ (x3 + 1) ≤ 2147483647)) ∧ (A_X12_root_7 σ (up2 f31 (a + 44) ((x3).toNat) v34) g32 a x1 x2 (x3 + 1) r))))))) : A_X12_root_7 σ f g a x1 x2 x3 r := fun y4 y5 => (show Gx mt 2 cd_X12_root (il σ f g) b_X12_root_7 [some (vR 12 (some a)), some (vI x1), some (vI x2), some (vI x3), y4, y5] [] r from (go_loadI rfl (go_loadA rfl (gi_getR (Sh12.r13 hs) (go_loadI rfl (gi_iald (inl_ (Sh12.l13 hs) h.1) (gq_icmp_ge (fun e3 => have h1 := h.2.1 e3; (go_loadA rfl (gi_getR (Sh12.r63 hs) (go_loadA rfl (gi_getR (Sh12.r13 hs) (go_loadI rfl (gi_iald (inl_ (Sh12.l13 hs) h1.1.1) (go_pushI rfl (go_isub h1.1.2.1 (gi_iald (inl_ (Sh12.l63 hs) h1.1.2.2) (h1.2 ▸ gq_retI))))))))))) (fun e3 => have h2 := h.2.2 e3; (go_pushI rfl (go_loadI rfl (go_imul h2.1.1 (go_loadI rfl (go_iadd h2.1.2.1 (go_stoI rfl rfl (go_loadA rfl (gi_getR (Sh12.r10 hs) (go_loadI rfl (gi_iald (inl_ (Sh12.l10 hs) h2.1.2.2) (go_stoI rfl rfl (go_loadA rfl (gi_getR (Sh12.r63 hs) (go_loadI rfl (go_loadI rfl (go_pushI rfl (gq_icmp_ne (fun e6 => have h4 := h2.2.1 e6; (go_loadI rfl (go_pushI rfl (gq_icmp_ne (fun e9 => have h7 := h4.1 e9; (go_loadI rfl (go_pushI rfl (gq_icmp_ne (fun e12 => have h10 := h7.1 e12; (go_loadA rfl (go_loadI rfl (go_loadA rfl (gi_getR (Sh12.r11 hs) (go_loadI rfl (gi_iald (inl_ (Sh12.l11 hs) h10.1) (go_loadA rfl (gi_getR (Sh12.r12 hs) (go_loadI rfl (gi_iald (inl_ (Sh12.l12 hs) h10.1) (Exists.elim h10.2 fun f13 w17 => Exists.elim w17 fun g14 w18 => Exists.elim w18 fun v16 h15 => (go_callV rfl rfl rfl h15.1 (go_fall (gi_iast (inl_ (Sh12.l63 hs) h15.2.1.1) (go_iinc rfl h15.2.1.2 rfl (go_goto (h15.2.2 _ _)))))))))))))))))) (fun e12 => have h11 := h7.2 e12; (go_loadA rfl (go_loadA rfl (gi_getR (Sh12.r63 hs) (go_loadA rfl (gi_getR (Sh12.r11 hs) (go_loadI rfl (gi_iald (inl_ (Sh12.l11 hs) h11.1.1) (gi_iald (inl_ (Sh12.l63 hs) h11.1.2) (go_loadI rfl (Exists.elim h11.2 fun f19 w23 => Exists.elim w23 fun g20 w24 => Exists.elim w24 fun v22 h21 => (go_callV rfl rfl rfl h21.1 (go_goto (gi_iast (inl_ (Sh12.l63 hs) h21.2.1.1) (go_iinc rfl h21.2.1.2 rfl (go_goto (h21.2.2 _ _))))))))))))))))))))) (fun e9 => have h8 := h4.2 e9; (go_loadA rfl (go_loadA rfl (gi_getR (Sh12.r63 hs) (go_loadA rfl (gi_getR (Sh12.r11 hs) (go_loadI rfl (gi_iald (inl_ (Sh12.l11 hs) h8.1.1) (gi_iald (inl_ (Sh12.l63 hs) h8.1.2.1) (go_loadA rfl (gi_getR (Sh12.r63 hs) (go_loadA rfl (gi_getR (Sh12.r12 hs) (go_loadI rfl (gi_iald (inl_ (Sh12.l12 hs) h8.1.1) (gi_iald (inl_ (Sh12.l63 hs) h8.1.2.2) (go_loadI rfl (Exists.elim h8.2 fun f25 w29 => Exists.elim w29 fun g26 w30 => Exists.elim w30 fun v28 h27 => (go_callV rfl rfl rfl h27.1 (go_goto (gi_iast (inl_ (Sh12.l63 hs) h27.2.1.1) (go_iinc rfl h27.2.1.2 rfl (go_goto (h27.2.2 _ _)))))))))))))))))))))))))))) (fun e6 => have h5 := h2.2.2 e6; (go_loadA rfl (go_loadA rfl (gi_getR (Sh12.r63 hs) (go_loadA rfl (gi_getR (Sh12.r11 hs) (go_loadI rfl (gi_iald (inl_ (Sh12.l11 hs) h5.1.1) (gi_iald (inl_ (Sh12.l63 hs) h5.1.2.1) (go_loadA rfl (gi_getR (Sh12.r63 hs) (go_loadA rfl (gi_getR (Sh12.r12 hs) (go_loadI rfl (gi_iald (inl_ (Sh12.l12 hs) h5.1.1) (gi_iald (inl_ (Sh12.l63 hs) h5.1.2.2) (go_loadI rfl (Exists.elim h5.2 fun f31 w35 => Exists.elim w35 fun g32 w36 => Exists.elim w36 fun v34 h33 => (go_callV rfl rfl rfl h33.1 (go_goto (gi_iast (inl_ (Sh12.l63 hs) h33.2.1.1) (go_iinc rfl h33.2.1.2 rfl (go_goto (h33.2.2 _ _)))))))))))))))))))))))))))))))))))))))))))))))))
def A_X12_then_13 (σ : St) (f : FI) (g : FL) (a : Nat) (x1 : Int) (x2 : Int) (r : St × List Vl) : Prop := ∀ (y3 : Int) (y4 : Option Vl) (y5 : Option Vl), Gx mt 1 cd_X12_then (il σ f g) (cd_X12_then 13) [some (vR 12 (some a)), some (vI x1), some (vI x2), some (vI y3), y4, y5] [] r
def A_X12_then_55 (σ : St) (f : FI) (g : FL) (a : Nat) (x1 : Int) (x2 : Int) (r : St × List Vl) : Prop := ∀ (y3 : Int) (y4 : Option Vl) (y5 : Option Vl), Gx mt 1 cd_X12_then (il σ f g) (cd_X12_then 55) [some (vR 12 (some a)), some (vI x1), some (vI x2), some (vI y3), y4, y5] [] r
def A_X12_then_73 (σ : St) (f : FI) (g : FL) (a : Nat) (x1 : Int) (x2 : Int) (r : St × List Vl) : Prop := ∀ (y3 : Int) (y4 : Option Vl) (y5 : Option Vl), Gx mt 1 cd_X12_then (il σ f g) (cd_X12_then 73) [some (vR 12 (some a)), some (vI x1), some (vI x2), some (vI y3), y4, y5] [] r
def A_X12_then_111 (σ : St) (f : FI) (g : FL) (a : Nat) (x1 : Int) (x2 : Int) (s0 : Int) (r : St × List Vl) : Prop := ∀ (y3 : Int) (y4 : Option Vl) (y5 : Option Vl), Gx mt 1 cd_X12_then (il σ f g) (cd_X12_then 111) [some (vR 12 (some a)), some (vI x1), some (vI x2), some (vI y3), y4, y5] [vI s0] r
def A_X12_then_127 (σ : St) (f : FI) (g : FL) (a : Nat) (x1 : Int) (x2 : Int) (r : St × List Vl) : Prop := ∀ (y3 : Int) (y4 : Int) (y5 : Option Vl), Gx mt 1 cd_X12_then (il σ f g) (cd_X12_then 127) [some (vR 12 (some a)), some (vI x1), some (vI x2), some (vI y3), some (vI y4), y5] [] r
def A_X12_then_147 (σ : St) (f : FI) (g : FL) (a : Nat) (x1 : Int) (x2 : Int) (s0 : Int) (r : St × List Vl) : Prop := ∀ (y3 : Int) (y4 : Int) (y5 : Option Vl), Gx mt 1 cd_X12_then (il σ f g) (cd_X12_then 147) [some (vR 12 (some a)), some (vI x1), some (vI x2), some (vI y3), some (vI y4), y5] [vI s0] r
def A_X12_then_175 (σ : St) (f : FI) (g : FL) (a : Nat) (x1 : Int) (x2 : Int) (x5 : Int) (r : St × List Vl) : Prop := ∀ (y3 : Int) (y4 : Int), Gx mt 1 cd_X12_then (il σ f g) (cd_X12_then 175) [some (vR 12 (some a)), some (vI x1), some (vI x2), some (vI y3), some (vI y4), some (vI x5)] [] r
theorem bk_X12_then_0 {σ : St} {f : FI} {g : FL} {a : Nat} {x1 : Int} {x2 : Int} {x3 : Int} {r : St × List Vl} (hs : Sh12 σ a) (h : ((¬ x3 = 0 → (A_X12_then_13 σ f g a x1 x2 r)) ∧ (x3 = 0 → (∃ (f4 : FI) (g5 : FL) (v7 : Int), Ex mt 0 280 (il σ f g) [vR 12 (some a), vI 7, vI x1, vI x2] ((il σ f4 g5), [vI v7]) ∧ (r = ((il σ f4 g5), [vI v7])))))) : Ex mt 1 283 (il σ f g) [vR 12 (some a), vI x1, vI x2, vI x3] r := Ex.mk mt_283 (show Gx mt 1 cd_X12_then (il σ f g) b_X12_then_0 [some (vR 12 (some a)), some (vI x1), some (vI x2), some (vI x3), none, none] [] r from (go_loadI rfl (gq_if_ne (fun e3 => have h1 := h.1 e3; (h1 _ _ _)) (fun e3 => have h2 := h.2 e3; (go_loadA rfl (go_pushI rfl (go_loadI rfl (go_loadI rfl (Exists.elim h2 fun f4 w8 => Exists.elim w8 fun g5 w9 => Exists.elim w9 fun v7 h6 => (go_callV rfl rfl rfl h6.1 (h6.2 ▸ gq_retI)))))))))))
theorem bk_X12_then_13 {σ : St} {f : FI} {g : FL} {a : Nat} {x1 : Int} {x2 : Int} {r : St × List Vl} (hs : Sh12 σ a) (h : ((0 ≤ x1 ∧ x1 < 600)) ∧ (((f (a + 41) ((x1).toNat)) = 0 → (r = ((il σ f g), [vI x1]))) ∧ (¬ (f (a + 41) ((x1).toNat)) = 0 → ((0 ≤ x2 ∧ x2 < 600)) ∧ ((¬ (f (a + 41) ((x2).toNat)) = 1 → ((0 ≤ x2 ∧ x2 < 600)) ∧ (((f (a + 41) ((x2).toNat)) = 0 → (r = ((il σ f g), [vI x2]))) ∧ (¬ (f (a + 41) ((x2).toNat)) = 0 → ((0 ≤ x1 ∧ x1 < 600)) ∧ ((¬ (f (a + 41) ((x1).toNat)) = 1 → (A_X12_then_55 σ f g a x1 x2 r)) ∧ ((f (a + 41) ((x1).toNat)) = 1 → (r = ((il σ f g), [vI x2]))))))) ∧ ((f (a + 41) ((x2).toNat)) = 1 → (r = ((il σ f g), [vI x1]))))))) : A_X12_then_13 σ f g a x1 x2 r := fun y3 y4 y5 => (show Gx mt 1 cd_X12_then (il σ f g) b_X12_then_13 [some (vR 12 (some a)), some (vI x1), some (vI x2), some (vI y3), y4, y5] [] r from (go_loadA rfl (gi_getR (Sh12.r60 hs) (go_loadI rfl (gi_iald (inl_ (Sh12.l60 hs) h.1) (gq_if_eq (fun e3 => have h1 := h.2.1 e3; (go_loadI rfl (h1 ▸ gq_retI))) (fun e3 => have h2 := h.2.2 e3; (go_loadA rfl (gi_getR (Sh12.r60 hs) (go_loadI rfl (gi_iald (inl_ (Sh12.l60 hs) h2.1) (go_pushI rfl (gq_icmp_ne (fun e6 => have h4 := h2.2.1 e6; (go_loadA rfl (gi_getR (Sh12.r60 hs) (go_loadI rfl (gi_iald (inl_ (Sh12.l60 hs) h4.1) (gq_if_eq (fun e9 => have h7 := h4.2.1 e9; (go_loadI rfl (h7 ▸ gq_retI))) (fun e9 => have h8 := h4.2.2 e9; (go_loadA rfl (gi_getR (Sh12.r60 hs) (go_loadI rfl (gi_iald (inl_ (Sh12.l60 hs) h8.1) (go_pushI rfl (gq_icmp_ne (fun e12 => have h10 := h8.2.1 e12; (h10 _ _ _)) (fun e12 => have h11 := h8.2.2 e12; (go_fall (go_loadI rfl (h11 ▸ gq_retI))))))))))))))))) (fun e6 => have h5 := h2.2.2 e6; (go_fall (go_loadI rfl (h5 ▸ gq_retI)))))))))))))))))
theorem bk_X12_then_55 {σ : St} {f : FI} {g : FL} {a : Nat} {x1 : Int} {x2 : Int} {r : St × List Vl} (hs : Sh12 σ a) (h : ((0 ≤ x1 ∧ x1 < 600)) ∧ ((((f (a + 41) ((x1).toNat) = 2)) → (A_X12_then_73 σ f g a x1 x2 r)) ∧ (¬ ((f (a + 41) ((x1).toNat) = 2)) → ((0 ≤ x1 ∧ x1 < 600)) ∧ ((¬ ((f (a + 41) ((x1).toNat) = 4)) → (A_X12_then_111 σ f g a x1 x2 0 r)) ∧ (((f (a + 41) ((x1).toNat) = 4)) → (A_X12_then_73 σ f g a x1 x2 r)))))) : A_X12_then_55 σ f g a x1 x2 r := fun y3 y4 y5 => (show Gx mt 1 cd_X12_then (il σ f g) b_X12_then_55 [some (vR 12 (some a)), some (vI x1), some (vI x2), some (vI y3), y4, y5] [] r from (go_loadA rfl (go_loadI rfl (go_pushI rfl (go_callV rfl rfl rfl (pu_isOfField hs h.1) (go_ifb_ne (fun e3 => have h1 := h.2.1 e3; (h1 _ _ _)) (fun e3 => have h2 := h.2.2 e3; (go_loadA rfl (go_loadI rfl (go_pushI rfl (go_callV rfl rfl rfl (pu_isOfField hs h2.1) (go_ifb_eq (fun e6 => have h4 := h2.2.1 e6; (go_pushI rfl (go_fall (h4 _ _ _)))) (fun e6 => have h5 := h2.2.2 e6; (go_fall (h5 _ _ _)))))))))))))))
theorem bk_X12_then_73 {σ : St} {f : FI} {g : FL} {a : Nat} {x1 : Int} {x2 : Int} {r : St × List Vl} (hs : Sh12 σ a) (h : ((0 ≤ x2 ∧ x2 < 600)) ∧ ((((f (a + 41) ((x2).toNat) = 2)) → ((0 ≤ x1 ∧ x1 < 600) ∧ (0 ≤ x2 ∧ x2 < 600)) ∧ ((¬ (f (a + 42) ((x1).toNat)) = (f (a + 42) ((x2).toNat)) → (A_X12_then_111 σ f g a x1 x2 0 r)) ∧ ((f (a + 42) ((x1).toNat)) = (f (a + 42) ((x2).toNat)) → (A_X12_then_111 σ f g a x1 x2 1 r)))) ∧ (¬ ((f (a + 41) ((x2).toNat) = 2)) → ((0 ≤ x2 ∧ x2 < 600)) ∧ ((¬ ((f (a + 41) ((x2).toNat) = 4)) → (A_X12_then_111 σ f g a x1 x2 0 r)) ∧ (((f (a + 41) ((x2).toNat) = 4)) → ((0 ≤ x1 ∧ x1 < 600) ∧ (0 ≤ x2 ∧ x2 < 600)) ∧ ((¬ (f (a + 42) ((x1).toNat)) = (f (a + 42) ((x2).toNat)) → (A_X12_then_111 σ f g a x1 x2 0 r)) ∧ ((f (a + 42) ((x1).toNat)) = (f (a + 42) ((x2).toNat)) → (A_X12_then_111 σ f g a x1 x2 1 r)))))))) : A_X12_then_73 σ f g a x1 x2 r := fun y3 y4 y5 => (show Gx mt 1 cd_X12_then (il σ f g) b_X12_then_73 [some (vR 12 (some a)), some (vI x1), some (vI x2), some (vI y3), y4, y5] [] r from (go_loadA rfl (go_loadI rfl (go_pushI rfl (go_callV rfl rfl rfl (pu_isOfField hs h.1) (go_ifb_ne (fun e3 => have h1 := h.2.1 e3; (go_loadA rfl (gi_getR (Sh12.r61 hs) (go_loadI rfl (gi_iald (inl_ (Sh12.l61 hs) h1.1.1) (go_loadA rfl (gi_getR (Sh12.r61 hs) (go_loadI rfl (gi_iald (inl_ (Sh12.l61 hs) h1.1.2) (gq_icmp_ne (fun e6 => have h4 := h1.2.1 e6; (go_pushI rfl (go_fall (h4 _ _ _)))) (fun e6 => have h5 := h1.2.2 e6; (go_pushI rfl (go_goto (h5 _ _ _)))))))))))))) (fun e3 => have h2 := h.2.2 e3; (go_loadA rfl (go_loadI rfl (go_pushI rfl (go_callV rfl rfl rfl (pu_isOfField hs h2.1) (go_ifb_eq (fun e9 => have h7 := h2.2.1 e9; (go_pushI rfl (go_fall (h7 _ _ _)))) (fun e9 => have h8 := h2.2.2 e9; (go_fall (go_loadA rfl (gi_getR (Sh12.r61 hs) (go_loadI rfl (gi_iald (inl_ (Sh12.l61 hs) h8.1.1) (go_loadA rfl (gi_getR (Sh12.r61 hs) (go_loadI rfl (gi_iald (inl_ (Sh12.l61 hs) h8.1.2) (gq_icmp_ne (fun e12 => have h10 := h8.2.1 e12; (go_pushI rfl (go_fall (h10 _ _ _)))) (fun e12 => have h11 := h8.2.2 e12; (go_pushI rfl (go_goto (h11 _ _ _)))))))))))))))))))))))))))
theorem bk_X12_then_111 {σ : St} {f : FI} {g : FL} {a : Nat} {x1 : Int} {x2 : Int} {s0 : Int} {r : St × List Vl} (hs : Sh12 σ a) (h : ((¬ s0 = 0 → (A_X12_then_127 σ f g a x1 x2 r)) ∧ (s0 = 0 → (∃ (f4 : FI) (g5 : FL) (v7 : Int), Ex mt 0 280 (il σ f g) [vR 12 (some a), vI 7, vI x1, vI x2] ((il σ f4 g5), [vI v7]) ∧ (r = ((il σ f4 g5), [vI v7])))))) : A_X12_then_111 σ f g a x1 x2 s0 r := fun y3 y4 y5 => (show Gx mt 1 cd_X12_then (il σ f g) b_X12_then_111 [some (vR 12 (some a)), some (vI x1), some (vI x2), some (vI y3), y4, y5] [vI s0] r from (go_stoI rfl rfl (go_loadI rfl (gq_if_ne (fun e3 => have h1 := h.1 e3; (h1 _ _ _)) (fun e3 => have h2 := h.2 e3; (go_loadA rfl (go_pushI rfl (go_loadI rfl (go_loadI rfl (Exists.elim h2 fun f4 w8 => Exists.elim w8 fun g5 w9 => Exists.elim w9 fun v7 h6 => (go_callV rfl rfl rfl h6.1 (h6.2 ▸ gq_retI))))))))))))
theorem bk_X12_then_127 {σ : St} {f : FI} {g : FL} {a : Nat} {x1 : Int} {x2 : Int} {r : St × List Vl} (hs : Sh12 σ a) (h : ((0 ≤ x1 ∧ x1 < 600) ∧ (0 ≤ x2 ∧ x2 < 600)) ∧ ((¬ (f (a + 43) ((x1).toNat)) = (f (a + 43) ((x2).toNat)) → (A_X12_then_147 σ f g a x1 x2 0 r)) ∧ ((f (a + 43) ((x1).toNat)) = (f (a + 43) ((x2).toNat)) → (A_X12_then_147 σ f g a x1 x2 1 r)))) : A_X12_then_127 σ f g a x1 x2 r := fun y3 y4 y5 => (show Gx mt 1 cd_X12_then (il σ f g) b_X12_then_127 [some (vR 12 (some a)), some (vI x1), some (vI x2), some (vI y3), some (vI y4), y5] [] r from (go_loadA rfl (gi_getR (Sh12.r62 hs) (go_loadI rfl (gi_iald (inl_ (Sh12.l62 hs) h.1.1) (go_loadA rfl (gi_getR (Sh12.r62 hs) (go_loadI rfl (gi_iald (inl_ (Sh12.l62 hs) h.1.2) (gq_icmp_ne (fun e3 => have h1 := h.2.1 e3; (go_pushI rfl (go_fall (h1 _ _ _)))) (fun e3 => have h2 := h.2.2 e3; (go_pushI rfl (go_goto (h2 _ _ _))))))))))))))
theorem bk_X12_then_147 {σ : St} {f : FI} {g : FL} {a : Nat} {x1 : Int} {x2 : Int} {s0 : Int} {r : St × List Vl} (hs : Sh12 σ a) (h : ((0 ≤ x2 ∧ x2 < 600)) ∧ ((¬ ((f (a + 41) ((x2).toNat) = 2)) → (A_X12_then_175 σ f g a x1 x2 s0 r)) ∧ (((f (a + 41) ((x2).toNat) = 2)) → ((s0 = 0 → (∃ (f7 : FI) (g8 : FL) (v10 : Int), Ex mt 0 280 (il σ f g) [vR 12 (some a), vI 0, vI 0, vI 0] ((il σ f7 g8), [vI v10]) ∧ (r = ((il σ f7 g8), [vI v10])))) ∧ (¬ s0 = 0 → (r = ((il σ f g), [vI x1]))))))) : A_X12_then_147 σ f g a x1 x2 s0 r := fun y3 y4 y5 => (show Gx mt 1 cd_X12_then (il σ f g) b_X12_then_147 [some (vR 12 (some a)), some (vI x1), some (vI x2), some (vI y3), some (vI y4), y5] [vI s0] r from (go_stoI rfl rfl (go_loadA rfl (go_loadI rfl (go_pushI rfl (go_callV rfl rfl rfl (pu_isOfField hs h.1) (go_ifb_eq (fun e3 => have h1 := h.2.1 e3; (h1 _ _)) (fun e3 => have h2 := h.2.2 e3; (go_loadI rfl (gq_if_eq (fun e6 => have h4 := h2.1 e6; (go_loadA rfl (go_pushI rfl (go_pushI rfl (go_pushI rfl (Exists.elim h4 fun f7 w11 => Exists.elim w11 fun g8 w12 => Exists.elim w12 fun v10 h9 => (go_callV rfl rfl rfl h9.1 (go_fall (h9.2 ▸ gq_retI))))))))) (fun e6 => have h5 := h2.2 e6; (go_loadI rfl (go_goto (h5 ▸ gq_retI))))))))))))))
theorem bk_X12_then_175 {σ : St} {f : FI} {g : FL} {a : Nat} {x1 : Int} {x2 : Int} {x5 : Int} {r : St × List Vl} (hs : Sh12 σ a) (h : ((0 ≤ x1 ∧ x1 < 600)) ∧ ((¬ ((f (a + 41) ((x1).toNat) = 4)) → ((x5 = 0 → (∃ (f7 : FI) (g8 : FL) (v10 : Int), Ex mt 0 280 (il σ f g) [vR 12 (some a), vI 7, vI x1, vI x2] ((il σ f7 g8), [vI v10]) ∧ (r = ((il σ f7 g8), [vI v10])))) ∧ (¬ x5 = 0 → (r = ((il σ f g), [vI x1]))))) ∧ (((f (a + 41) ((x1).toNat) = 4)) → (r = ((il σ f g), [vI x2]))))) : A_X12_then_175 σ f g a x1 x2 x5 r := fun y3 y4 => (show Gx mt 1 cd_X12_then (il σ f g) b_X12_then_175 [some (vR 12 (some a)), some (vI x1), some (vI x2), some (vI y3), some (vI y4), some (vI x5)] [] r from (go_loadA rfl (go_loadI rfl (go_pushI rfl (go_callV rfl rfl rfl (pu_isOfField hs h.1) (go_ifb_eq (fun e3 => have h1 := h.2.1 e3; (go_loadI rfl (gq_if_eq (fun e6 => have h4 := h1.1 e6; (go_loadA rfl (go_pushI rfl (go_loadI rfl (go_loadI rfl (Exists.elim h4 fun f7 w11 => Exists.elim w11 fun g8 w12 => Exists.elim w12 fun v10 h9 => (go_callV rfl rfl rfl h9.1 (go_fall (h9.2 ▸ gq_retI))))))))) (fun e6 => have h5 := h1.2 e6; (go_loadI rfl (go_goto (h5 ▸ gq_retI))))))) (fun e3 => have h2 := h.2.2 e3; (go_loadI rfl (h2 ▸ gq_retI)))))))))
/-- the model numbers then and either the other way round -/
def swp (k : Int) : Int := if k = 6 then 7 else if k = 7 then 6 else k
theorem swp_0 {k c : Int} (hc : c ≠ 6) (hc7 : c ≠ 7) : swp k = c ↔ k = c := by
  unfold swp
  split
  · omega
  · split
    · omega
    · exact Iff.rfl
theorem swp_i {k c : Int} : swp k = swp c ↔ k = c := by
  unfold swp
  split <;> split <;> (try split) <;> (try split) <;> omega
/-- the model's new nodes hold these rows -/
def HM (f : FI) (M : Nat) (z : TS) : Prop := f M 64 = (z.1 : Int) ∧ ∀ i, i < z.1 → f (M + 41) i = swp (z.2.1 i) ∧ f (M + 42) i = z.2.2.1 i ∧ f (M + 43) i = z.2.2.2 i
abbrev ScN (M : Nat) : Nat → Nat → Prop := fun a k => (a = M ∧ k = 64) ∨ (M + 41 ≤ a ∧ a ≤ M + 43)
theorem x_alike {σ : St} {f : FI} {g : FL} {M : Nat} {z : TS} {k l r : Int} (hm : Sh12 σ M) (hz : HM f M z) (hn : z.1 < 600) : ∃ f' : FI, Ex mt 0 280 (il σ f g) [vR 12 (some M), vI (swp k), vI l, vI r] (il σ f' g, [vI ((fa z k l r).2 : Int)]) ∧ HM f' M (fa z k l r).1 ∧ Fr (ScN M) f f' := by
  obtain ⟨h3, hH⟩ := hz
  have loop : ∀ q i : Nat, i + q = z.1 → (∀ j, j < i → ¬ mch z k l r j) → ∃ f' : FI, A_X12_alike_3 σ f g M (swp k) l r (i : Int) (il σ f' g, [vI ((fa z k l r).2 : Int)]) ∧ HM f' M (fa z k l r).1 ∧ Fr (ScN M) f f' := by
    intro q
    induction q with
    | zero =>
      intro i hi hj
      obtain rfl : i = z.1 := by omega
      rw [fa_new hj]
      refine ⟨up2 (up2 (up2 (up2 f (M + 41) z.1 (swp k)) (M + 42) z.1 l) (M + 43) z.1 r) M 64 ((z.1 + 1 : Nat) : Int), bk_X12_alike_3 hm ⟨fun _ => ⟨fun y => absurd h3.symm y, fun _ => ?_⟩, fun y => absurd (by rw [h3]; omega) y⟩, ⟨u2_s, fun j hj2 => ?_⟩, (((Fr.rfl'.up (Or.inr ⟨by omega, by omega⟩)).up (Or.inr ⟨by omega, by omega⟩)).up (Or.inr ⟨by omega, by omega⟩)).up (Or.inl ⟨rfl, rfl⟩)⟩
      · rw [h3]
        refine ⟨⟨by omega, by omega⟩, ?_⟩
        rw [show (z.1 : Int) + 1 = ((z.1 + 1 : Nat) : Int) by omega]
        rfl
      · have base : up2 (up2 (up2 f (M + 41) z.1 (swp k)) (M + 42) z.1 l) (M + 43) z.1 r (M + 41) j = swp (upN z.2.1 z.1 k j) ∧ up2 (up2 (up2 f (M + 41) z.1 (swp k)) (M + 42) z.1 l) (M + 43) z.1 r (M + 42) j = upN z.2.2.1 z.1 l j ∧ up2 (up2 (up2 f (M + 41) z.1 (swp k)) (M + 42) z.1 l) (M + 43) z.1 r (M + 43) j = upN z.2.2.2 z.1 r j := by
          unfold upN
          have hj2 : j < z.1 + 1 := hj2
          by_cases y : j = z.1
          · subst y
            rw [if_pos rfl, if_pos rfl, if_pos rfl]
            exact up3_at (by omega) (by omega) (by omega)
          · rw [if_neg y, if_neg y, if_neg y]
            obtain ⟨a1, a2, a3⟩ := up3_ne (f := f) (a := M + 41) (b := M + 42) (c := M + 43) (i := z.1) (j := j) (x := swp k) (y := l) (z := r) (by omega) (by omega) (by omega) y
            rw [a1, a2, a3]
            exact hH j (by omega)
        exact ⟨(u2_a (by omega)).trans base.1, (u2_a (by omega)).trans base.2.1, (u2_a (by omega)).trans base.2.2⟩
    | succ q ih =>
      intro i hi hj
      obtain ⟨e1, e2, e3⟩ := hH i (by omega)
      have nge : ¬ f M 64 ≤ (i : Int) := by rw [h3]; omega
      have nne : ¬ (i : Int) = f M 64 := by rw [h3]; omega
      by_cases m : mch z k l r i
      · rw [fa_old hj m (by omega)]
        obtain ⟨m1, m2, m3⟩ := m
        exact ⟨f, bk_X12_alike_3 hm ⟨fun y => absurd y nge, fun _ => ⟨by omega, fun y => absurd (show f (M + 41) i = swp k by rw [e1, m1]) y, fun _ => ⟨by omega, fun y => absurd (show f (M + 42) i = l by rw [e2]; exact m2) y, fun _ => ⟨by omega, fun _ => ⟨fun _ => rfl, fun y => absurd y nne⟩, fun y => absurd (show f (M + 43) i = r by rw [e3]; exact m3) y⟩⟩⟩⟩, ⟨h3, hH⟩, Fr.rfl'⟩
      · obtain ⟨f', A, rr⟩ := ih (i + 1) (by omega) (fun j hj2 => by
          by_cases y : j = i
          · subst y; exact m
          · exact hj j (by omega))
        exact ⟨f', bk_X12_alike_3 hm ⟨fun y => absurd y nge, fun _ => ⟨by omega, fun _ => ⟨by omega, A⟩, fun y1 => ⟨by omega, fun _ => ⟨by omega, A⟩, fun y2 => ⟨by omega, fun y3 => absurd ⟨swp_i.mp (e1.symm.trans (show f (M + 41) i = swp k from y1)), e2.symm.trans (show f (M + 42) i = l from y2), e3.symm.trans (show f (M + 43) i = r from y3)⟩ m, fun _ => ⟨by omega, A⟩⟩⟩⟩⟩, rr⟩
  obtain ⟨f', A, rr⟩ := loop z.1 0 (by omega) (fun j hj => absurd hj (Nat.not_lt_zero j))
  exact ⟨f', bk_X12_alike_0 hm A, rr⟩
def fl (b : Bool) : Int := if b then 1 else 0
theorem x_plusM {σ : St} {f : FI} {g : FL} {M s t : Nat} {z : TS} (b : Bool) (hm : Sh12 σ M) (hz : HM f M z) (hn : z.1 < 600) (h1 : s < z.1) (h2 : t < z.1) : ∃ f' : FI, Ex mt 1 282 (il σ f g) [vR 12 (some M), vI (s : Int), vI (t : Int), vI (fl b)] (il σ f' g, [vI ((tEither b z s t).2 : Int)]) ∧ HM f' M (tEither b z s t).1 ∧ Fr (ScN M) f f' := by
  have e1 : f (M + 41) s = swp (z.2.1 s) := (hz.2 s h1).1
  have e2 : f (M + 41) t = swp (z.2.1 t) := (hz.2 t h2).1
  have q1 : f (M + 41) ((s : Int)).toNat = 0 ↔ z.2.1 s = 0 := by rw [show f (M + 41) ((s : Int)).toNat = swp (z.2.1 s) from e1]; exact swp_0 (by decide) (by decide)
  have q2 : f (M + 41) ((t : Int)).toNat = 0 ↔ z.2.1 t = 0 := by rw [show f (M + 41) ((t : Int)).toNat = swp (z.2.1 t) from e2]; exact swp_0 (by decide) (by decide)
  obtain ⟨f7, E7, O7⟩ := x_alike (g := g) (k := 7) (l := (s : Int)) (r := (t : Int)) hm hz hn
  have E7 : Ex mt 0 280 (il σ f g) [vR 12 (some M), vI 6, vI (s : Int), vI (t : Int)] (il σ f7 g, [vI ((fa z 7 s t).2 : Int)]) := E7
  unfold tEither
  cases b
  · rw [if_neg (fun q => absurd q.1 (by decide)), if_neg (fun q => absurd q.1 (by decide))]
    exact ⟨f7, bk_X12_plus_0 hm ⟨fun _ => ⟨fun _ => ⟨f7, g, _, E7, rfl⟩, fun y => absurd rfl y⟩, fun y => absurd rfl y⟩, O7⟩
  · by_cases c1 : s = t ∨ z.2.1 t = 0
    · rw [if_pos ⟨rfl, c1⟩]
      exact ⟨f, bk_X12_plus_0 hm ⟨fun y => absurd y (by decide), fun _ => ⟨by omega, fun _ => rfl, fun y => ⟨fun w => absurd (show (s : Int) = (t : Int) by rw [c1.resolve_right fun q => y (q2.mpr q)]) w, fun _ => rfl⟩⟩⟩, hz, Fr.rfl'⟩
    · rw [if_neg (fun q => c1 q.2)]
      have nt : ¬ f (M + 41) ((t : Int)).toNat = 0 := fun q => c1 (Or.inr (q2.mp q))
      have nst : ¬ (s : Int) = (t : Int) := fun q => c1 (Or.inl (by omega))
      by_cases c2 : z.2.1 s = 0
      · rw [if_pos ⟨rfl, c2⟩]
        exact ⟨f, bk_X12_plus_0 hm ⟨fun y => absurd y (by decide), fun _ => ⟨by omega, fun y => absurd y nt, fun _ => ⟨fun _ => ⟨fun y => absurd y (by decide), fun _ => ⟨by omega, fun y => absurd (q1.mpr c2) y, fun _ => rfl⟩⟩, fun y => absurd y nst⟩⟩⟩, hz, Fr.rfl'⟩
      · rw [if_neg (fun q => c2 q.2)]
        exact ⟨f7, bk_X12_plus_0 hm ⟨fun y => absurd y (by decide), fun _ => ⟨by omega, fun y => absurd y nt, fun _ => ⟨fun _ => ⟨fun y => absurd y (by decide), fun _ => ⟨by omega, fun _ => ⟨f7, g, _, E7, rfl⟩, fun y => absurd (q1.mp y) c2⟩⟩, fun y => absurd y nst⟩⟩⟩, O7⟩
theorem x_starM {σ : St} {f : FI} {g : FL} {M s : Nat} {z : TS} (b : Bool) (hm : Sh12 σ M) (hz : HM f M z) (hn : z.1 < 600) (h1 : s < z.1) : ∃ f' : FI, Ex mt 1 284 (il σ f g) [vR 12 (some M), vI (s : Int), vI (fl b)] (il σ f' g, [vI ((tStar b z s).2 : Int)]) ∧ HM f' M (tStar b z s).1 ∧ Fr (ScN M) f f' := by
  have e1 : f (M + 41) ((s : Int)).toNat = swp (z.2.1 s) := (hz.2 s h1).1
  have q0 : f (M + 41) ((s : Int)).toNat = 0 ↔ z.2.1 s = 0 := by rw [e1]; exact swp_0 (by decide) (by decide)
  have q1 : f (M + 41) ((s : Int)).toNat = 1 ↔ z.2.1 s = 1 := by rw [e1]; exact swp_0 (by decide) (by decide)
  have q5 : f (M + 41) ((s : Int)).toNat = 5 ↔ z.2.1 s = 5 := by rw [e1]; exact swp_0 (by decide) (by decide)
  obtain ⟨f5, E5, O5⟩ := x_alike (g := g) (k := 5) (l := (s : Int)) (r := 0) hm hz hn
  have E5 : Ex mt 0 280 (il σ f g) [vR 12 (some M), vI 5, vI (s : Int), vI 0] (il σ f5 g, [vI ((fa z 5 s 0).2 : Int)]) := E5
  unfold tStar
  cases b
  · rw [if_neg (fun q => absurd q.1 (by decide)), if_neg (fun q => absurd q.1 (by decide))]
    exact ⟨f5, bk_X12_star_0 hm ⟨fun _ => ⟨fun _ => ⟨f5, g, _, E5, rfl⟩, fun y => absurd rfl y⟩, fun y => absurd rfl y⟩, O5⟩
  · by_cases c1 : z.2.1 s = 0 ∨ z.2.1 s = 1
    · rw [if_pos ⟨rfl, c1⟩]
      obtain ⟨f1, E1, O1⟩ := x_alike (g := g) (k := 1) (l := 0) (r := 0) hm hz hn
      have E1 : Ex mt 0 280 (il σ f g) [vR 12 (some M), vI 1, vI 0, vI 0] (il σ f1 g, [vI ((fa z 1 0 0).2 : Int)]) := E1
      exact ⟨f1, bk_X12_star_0 hm ⟨fun y => absurd y (by decide), fun _ => ⟨by omega, fun _ => ⟨f1, g, _, E1, rfl⟩, fun y => ⟨by omega, fun w => absurd (q1.mpr (c1.resolve_left fun q => y (q0.mpr q))) w, fun _ => ⟨f1, g, _, E1, rfl⟩⟩⟩⟩, O1⟩
    · rw [if_neg (fun q => c1 q.2)]
      have n0 : ¬ f (M + 41) ((s : Int)).toNat = 0 := fun q => c1 (Or.inl (q0.mp q))
      have n1 : ¬ f (M + 41) ((s : Int)).toNat = 1 := fun q => c1 (Or.inr (q1.mp q))
      by_cases c2 : z.2.1 s = 5
      · rw [if_pos ⟨rfl, c2⟩]
        exact ⟨f, bk_X12_star_0 hm ⟨fun y => absurd y (by decide), fun _ => ⟨by omega, fun y => absurd y n0, fun _ => ⟨by omega, fun _ => ⟨fun y => absurd y (by decide), fun _ => ⟨by omega, fun y => absurd (q5.mpr c2) y, fun _ => rfl⟩⟩, fun y => absurd y n1⟩⟩⟩, hz, Fr.rfl'⟩
      · rw [if_neg (fun q => c2 q.2)]
        exact ⟨f5, bk_X12_star_0 hm ⟨fun y => absurd y (by decide), fun _ => ⟨by omega, fun y => absurd y n0, fun _ => ⟨by omega, fun _ => ⟨fun y => absurd y (by decide), fun _ => ⟨by omega, fun _ => ⟨f5, g, _, E5, rfl⟩, fun y => absurd (q5.mp y) c2⟩⟩, fun y => absurd y n1⟩⟩⟩, O5⟩
theorem x_thenM {σ : St} {f : FI} {g : FL} {M s t : Nat} {z : TS} (b : Bool) (hm : Sh12 σ M) (hz : HM f M z) (hn : z.1 < 600) (h1 : s < z.1) (h2 : t < z.1) : ∃ f' : FI, Ex mt 1 283 (il σ f g) [vR 12 (some M), vI (s : Int), vI (t : Int), vI (fl b)] (il σ f' g, [vI ((tThen b z s t).2 : Int)]) ∧ HM f' M (tThen b z s t).1 ∧ Fr (ScN M) f f' := by
  obtain ⟨e1, l1, r1⟩ := hz.2 s h1
  obtain ⟨e2, l2, r2⟩ := hz.2 t h2
  have e1 : f (M + 41) ((s : Int)).toNat = swp (z.2.1 s) := e1
  have e2 : f (M + 41) ((t : Int)).toNat = swp (z.2.1 t) := e2
  have l1 : f (M + 42) ((s : Int)).toNat = z.2.2.1 s := l1
  have l2 : f (M + 42) ((t : Int)).toNat = z.2.2.1 t := l2
  have r1 : f (M + 43) ((s : Int)).toNat = z.2.2.2 s := r1
  have r2 : f (M + 43) ((t : Int)).toNat = z.2.2.2 t := r2
  have qs : ∀ c : Int, c ≠ 6 → c ≠ 7 → (f (M + 41) ((s : Int)).toNat = c ↔ z.2.1 s = c) := fun c hc hc7 => by rw [e1]; exact swp_0 hc hc7
  have qt : ∀ c : Int, c ≠ 6 → c ≠ 7 → (f (M + 41) ((t : Int)).toNat = c ↔ z.2.1 t = c) := fun c hc hc7 => by rw [e2]; exact swp_0 hc hc7
  have s0' := qs 0 (by decide) (by decide)
  have s1' := qs 1 (by decide) (by decide)
  have s2' := qs 2 (by decide) (by decide)
  have s4' := qs 4 (by decide) (by decide)
  have t0' := qt 0 (by decide) (by decide)
  have t1' := qt 1 (by decide) (by decide)
  have t2' := qt 2 (by decide) (by decide)
  have t4' := qt 4 (by decide) (by decide)
  obtain ⟨f6, E6, O6⟩ := x_alike (g := g) (k := 6) (l := (s : Int)) (r := (t : Int)) hm hz hn
  have E6 : Ex mt 0 280 (il σ f g) [vR 12 (some M), vI 7, vI (s : Int), vI (t : Int)] (il σ f6 g, [vI ((fa z 6 s t).2 : Int)]) := E6
  have ob1 : (0 : Int) ≤ (s : Int) ∧ (s : Int) < 600 := by omega
  have ob2 : (0 : Int) ≤ (t : Int) ∧ (t : Int) < 600 := by omega
  unfold tThen
  cases b
  · rw [if_pos rfl]
    exact ⟨f6, bk_X12_then_0 hm ⟨fun y => absurd rfl y, fun _ => ⟨f6, g, _, E6, rfl⟩⟩, O6⟩
  · rw [if_neg (by decide)]
    have st : ∀ r : St × List Vl, A_X12_then_13 σ f g M (s : Int) (t : Int) r → Ex mt 1 283 (il σ f g) [vR 12 (some M), vI (s : Int), vI (t : Int), vI (fl true)] r := fun r A => bk_X12_then_0 hm ⟨fun _ => A, fun y => absurd y (by decide)⟩
    by_cases c1 : z.2.1 s = 0 ∨ z.2.1 t = 1
    · rw [if_pos c1]
      exact ⟨f, st _ (bk_X12_then_13 hm ⟨ob1, fun _ => rfl, fun y => ⟨ob2, fun w => absurd (t1'.mpr (c1.resolve_left fun q => y (s0'.mpr q))) w, fun _ => rfl⟩⟩), hz, Fr.rfl'⟩
    · rw [if_neg c1]
      have ns0 : ¬ f (M + 41) ((s : Int)).toNat = 0 := fun q => c1 (Or.inl (s0'.mp q))
      have nt1 : ¬ f (M + 41) ((t : Int)).toNat = 1 := fun q => c1 (Or.inr (t1'.mp q))
      by_cases c2 : z.2.1 s = 1 ∨ z.2.1 t = 0
      · rw [if_pos c2]
        exact ⟨f, st _ (bk_X12_then_13 hm ⟨ob1, fun y => absurd y ns0, fun _ => ⟨ob2, fun _ => ⟨ob2, fun _ => rfl, fun y => ⟨ob1, fun w => absurd (s1'.mpr (c2.resolve_right fun q => y (t0'.mpr q))) w, fun _ => rfl⟩⟩, fun y => absurd y nt1⟩⟩), hz, Fr.rfl'⟩
      · rw [if_neg c2]
        have ns1 : ¬ f (M + 41) ((s : Int)).toNat = 1 := fun q => c2 (Or.inl (s1'.mp q))
        have nt0 : ¬ f (M + 41) ((t : Int)).toNat = 0 := fun q => c2 (Or.inr (t0'.mp q))
        have st2 : ∀ r : St × List Vl, A_X12_then_55 σ f g M (s : Int) (t : Int) r → Ex mt 1 283 (il σ f g) [vR 12 (some M), vI (s : Int), vI (t : Int), vI (fl true)] r := fun r A => st r (bk_X12_then_13 hm ⟨ob1, fun y => absurd y ns0, fun _ => ⟨ob2, fun _ => ⟨ob2, fun y => absurd y nt0, fun _ => ⟨ob1, fun _ => A, fun y => absurd y ns1⟩⟩, fun y => absurd y nt1⟩⟩)
        have A111 : A_X12_then_111 σ f g M (s : Int) (t : Int) 0 (il σ f6 g, [vI ((fa z 6 s t).2 : Int)]) := bk_X12_then_111 hm ⟨fun y => absurd rfl y, fun _ => ⟨f6, g, _, E6, rfl⟩⟩
        by_cases p1 : z.2.1 s = 2 ∨ z.2.1 s = 4
        · have st3 : ∀ r : St × List Vl, A_X12_then_73 σ f g M (s : Int) (t : Int) r → Ex mt 1 283 (il σ f g) [vR 12 (some M), vI (s : Int), vI (t : Int), vI (fl true)] r := fun r A => st2 r (bk_X12_then_55 hm ⟨ob1, fun _ => A, fun y => ⟨ob1, fun w => absurd (s4'.mpr (p1.resolve_left fun q => y (s2'.mpr q))) w, fun _ => A⟩⟩)
          by_cases p2' : z.2.1 t = 2 ∨ z.2.1 t = 4
          · by_cases p3 : z.2.2.1 s = z.2.2.1 t
            · rw [if_pos ⟨p1, p2', p3⟩]
              have p3f : f (M + 42) ((s : Int)).toNat = f (M + 42) ((t : Int)).toNat := by rw [l1, l2]; exact p3
              have st4 : ∀ r : St × List Vl, A_X12_then_127 σ f g M (s : Int) (t : Int) r → Ex mt 1 283 (il σ f g) [vR 12 (some M), vI (s : Int), vI (t : Int), vI (fl true)] r := fun r A => by
                have A1 : A_X12_then_111 σ f g M (s : Int) (t : Int) 1 r := bk_X12_then_111 hm ⟨fun _ => A, fun y => absurd y (by decide)⟩
                exact st3 r (bk_X12_then_73 hm ⟨ob2, fun _ => ⟨⟨ob1, ob2⟩, fun y => absurd p3f y, fun _ => A1⟩, fun y => ⟨ob2, fun w => absurd (t4'.mpr (p2'.resolve_left fun q => y (t2'.mpr q))) w, fun _ => ⟨⟨ob1, ob2⟩, fun w => absurd p3f w, fun _ => A1⟩⟩⟩)
              have al : ∀ {P : Prop}, (f (M + 43) ((s : Int)).toNat = f (M + 43) ((t : Int)).toNat ↔ z.2.2.2 s = z.2.2.2 t) := fun {_} => by rw [r1, r2]
              by_cases k2 : z.2.1 t = 2
              · rw [if_pos k2]
                by_cases ale : z.2.2.2 s = z.2.2.2 t
                · rw [if_pos ale]
                  exact ⟨f, st4 _ (bk_X12_then_127 hm ⟨⟨ob1, ob2⟩, fun y => absurd ((al (P := True)).mpr ale) y, fun _ => bk_X12_then_147 hm ⟨ob2, fun y => absurd (t2'.mpr k2) y, fun _ => ⟨fun y => absurd y (by decide), fun _ => rfl⟩⟩⟩), hz, Fr.rfl'⟩
                · rw [if_neg ale]
                  obtain ⟨f0, E0, O0⟩ := x_alike (g := g) (k := 0) (l := 0) (r := 0) hm hz hn
                  have E0 : Ex mt 0 280 (il σ f g) [vR 12 (some M), vI 0, vI 0, vI 0] (il σ f0 g, [vI ((fa z 0 0 0).2 : Int)]) := E0
                  exact ⟨f0, st4 _ (bk_X12_then_127 hm ⟨⟨ob1, ob2⟩, fun _ => bk_X12_then_147 hm ⟨ob2, fun y => absurd (t2'.mpr k2) y, fun _ => ⟨fun _ => ⟨f0, g, _, E0, rfl⟩, fun y => absurd rfl y⟩⟩, fun y => absurd ((al (P := True)).mp y) ale⟩), O0⟩
              · rw [if_neg k2]
                have nk2 : ¬ f (M + 41) ((t : Int)).toNat = 2 := fun q => k2 (t2'.mp q)
                by_cases k4 : z.2.1 s = 4
                · rw [if_pos k4]
                  have A175 : ∀ u : Int, A_X12_then_175 σ f g M (s : Int) (t : Int) u (il σ f g, [vI (t : Int)]) := fun u => bk_X12_then_175 hm ⟨ob1, fun y => absurd (s4'.mpr k4) y, fun _ => rfl⟩
                  exact ⟨f, st4 _ (bk_X12_then_127 hm ⟨⟨ob1, ob2⟩, fun _ => bk_X12_then_147 hm ⟨ob2, fun _ => A175 0, fun y => absurd y nk2⟩, fun _ => bk_X12_then_147 hm ⟨ob2, fun _ => A175 1, fun y => absurd y nk2⟩⟩), hz, Fr.rfl'⟩
                · rw [if_neg k4]
                  have nk4 : ¬ f (M + 41) ((s : Int)).toNat = 4 := fun q => k4 (s4'.mp q)
                  by_cases ale : z.2.2.2 s = z.2.2.2 t
                  · rw [if_pos ale]
                    exact ⟨f, st4 _ (bk_X12_then_127 hm ⟨⟨ob1, ob2⟩, fun y => absurd ((al (P := True)).mpr ale) y, fun _ => bk_X12_then_147 hm ⟨ob2, fun _ => bk_X12_then_175 hm ⟨ob1, fun _ => ⟨fun y => absurd y (by decide), fun _ => rfl⟩, fun y => absurd y nk4⟩, fun y => absurd y nk2⟩⟩), hz, Fr.rfl'⟩
                  · rw [if_neg ale]
                    exact ⟨f6, st4 _ (bk_X12_then_127 hm ⟨⟨ob1, ob2⟩, fun _ => bk_X12_then_147 hm ⟨ob2, fun _ => bk_X12_then_175 hm ⟨ob1, fun _ => ⟨fun _ => ⟨f6, g, _, E6, rfl⟩, fun y => absurd rfl y⟩, fun y => absurd y nk4⟩, fun y => absurd y nk2⟩, fun y => absurd ((al (P := True)).mp y) ale⟩), O6⟩
            · rw [if_neg (fun q => p3 q.2.2)]
              have p3f : ¬ f (M + 42) ((s : Int)).toNat = f (M + 42) ((t : Int)).toNat := by rw [l1, l2]; exact p3
              exact ⟨f6, st3 _ (bk_X12_then_73 hm ⟨ob2, fun _ => ⟨⟨ob1, ob2⟩, fun _ => A111, fun y => absurd y p3f⟩, fun _ => ⟨ob2, fun _ => A111, fun _ => ⟨⟨ob1, ob2⟩, fun _ => A111, fun y => absurd y p3f⟩⟩⟩), O6⟩
          · rw [if_neg (fun q => p2' q.2.1)]
            exact ⟨f6, st3 _ (bk_X12_then_73 hm ⟨ob2, fun y => absurd (Or.inl (t2'.mp y)) p2', fun _ => ⟨ob2, fun _ => A111, fun y => absurd (Or.inr (t4'.mp y)) p2'⟩⟩), O6⟩
        · rw [if_neg (fun q => p1 q.1)]
          exact ⟨f6, st2 _ (bk_X12_then_55 hm ⟨ob1, fun y => absurd (Or.inl (s2'.mp y)) p1, fun _ => ⟨ob1, fun _ => A111, fun y => absurd (Or.inr (s4'.mp y)) p1⟩⟩), O6⟩
theorem swp_67 {k : Int} : (swp k = 6 ↔ k = 7) ∧ (swp k = 7 ↔ k = 6) := by
  unfold swp
  constructor
  · split
    · omega
    · split <;> omega
  · split
    · omega
    · split <;> omega
theorem x_rootM {σ : St} {f : FI} {g : FL} {M w N : Nat} {K L R : FN} (b : Bool) (hm : Sh12 σ M) (hw12 : w < 12) (hw : Wf K L R N) (h1 : 1 ≤ N ∧ N ≤ 200) (h5 : f (M + 5) w = (N : Int)) (hH : ∀ i, i < N → f (M + 2) (300 * w + i) = swp (K i) ∧ f (M + 3) (300 * w + i) = L i ∧ f (M + 4) (300 * w + i) = R i) : ∃ f' : FI, Ex mt 2 285 (il σ f g) [vR 12 (some M), vI (w : Int), vI (fl b)] (il σ f' g, [vI ((tRun b K L R N).2 (N - 1) : Nat)]) ∧ HM f' M (tRun b K L R N).1 ∧ Fr (fun a k => ScN M a k ∨ a = M + 44) f f' := by
  have wfb : ∀ i, i ≤ N → (tRun b K L R i).1.1 ≤ i ∧ ∀ j, j < i → (tRun b K L R i).2 j < (tRun b K L R i).1.1 := fun i hi => by
    cases b
    · obtain ⟨_, a2, a3⟩ := tRun_eq hw i hi
      exact ⟨a2, fun j hj => (a3 j hj).1⟩
    · obtain ⟨_, a2, a3⟩ := tRun_bd hw i hi
      exact ⟨a2, fun j hj => (a3 j hj).1⟩
  have loop : ∀ q i : Nat, i + q = N → ∀ fi : FI, HM fi M (tRun b K L R i).1 → (∀ j, j < i → fi (M + 44) j = ((tRun b K L R i).2 j : Nat)) → Fr (fun a k => ScN M a k ∨ a = M + 44) f fi → ∃ f' : FI, A_X12_root_7 σ fi g M (w : Int) (fl b) (i : Int) (il σ f' g, [vI ((tRun b K L R N).2 (N - 1) : Nat)]) ∧ HM f' M (tRun b K L R N).1 ∧ Fr (fun a k => ScN M a k ∨ a = M + 44) f f' := by
    intro q
    induction q with
    | zero =>
      intro i hi fi hz hmm hF
      obtain rfl : i = N := by omega
      have e5 : fi (M + 5) ((w : Int)).toNat = (i : Int) := by rw [show ((w : Int)).toNat = w from rfl, hF _ _ (by omega)]; exact h5
      refine ⟨fi, bk_X12_root_7 hm ⟨by omega, fun _ => ?_, fun y => absurd (by rw [e5]; omega) y⟩, hz, hF⟩
      rw [e5]
      refine ⟨⟨by omega, by omega, by omega⟩, ?_⟩
      rw [show ((i : Int) - 1).toNat = i - 1 by omega, hmm (i - 1) (by omega)]
    | succ q ih =>
      intro i hi fi hz hmm hF
      obtain ⟨n, bb⟩ := wfb i (by omega)
      have e5 : fi (M + 5) ((w : Int)).toNat = (N : Int) := by rw [show ((w : Int)).toNat = w from rfl, hF _ _ (by omega)]; exact h5
      obtain ⟨k1, k2, k3⟩ := hH i (by omega)
      have ei : (300 * (w : Int) + (i : Int)).toNat = 300 * w + i := by omega
      have ek : fi (M + 2) (300 * w + i) = swp (K i) := by rw [hF _ _ (by omega)]; exact k1
      have el : fi (M + 3) (300 * w + i) = L i := by rw [hF _ _ (by omega)]; exact k2
      have er : fi (M + 4) (300 * w + i) = R i := by rw [hF _ _ (by omega)]; exact k3
      have wi := hw i (by omega)
      unfold Wf1 at wi
      have s67 := swp_67 (k := K i)
      have s5 : swp (K i) = 5 ↔ K i = 5 := swp_0 (by decide) (by decide)
      have nxt : ∀ (f2 : FI), HM f2 M (tNode b (tRun b K L R i).1 (tRun b K L R i).2 (K i) (L i) (R i)).1 → Fr (ScN M) fi f2 → ∃ f' : FI, A_X12_root_7 σ (up2 f2 (M + 44) i ((tNode b (tRun b K L R i).1 (tRun b K L R i).2 (K i) (L i) (R i)).2 : Nat)) g M (w : Int) (fl b) ((i : Int) + 1) (il σ f' g, [vI ((tRun b K L R N).2 (N - 1) : Nat)]) ∧ HM f' M (tRun b K L R N).1 ∧ Fr (fun a k => ScN M a k ∨ a = M + 44) f f' := fun f2 O F2 => ih (i + 1) (by omega) _ (by
        rw [tRun_s]
        refine ⟨?_, fun j hj => ?_⟩
        · rw [u2_a (by omega)]
          exact O.1
        · rw [u2_a (by omega), u2_a (by omega), u2_a (by omega)]
          exact O.2 j hj) (fun j hj => by
        rw [tRun_s]
        show _ = ((if j = i then _ else _ : Nat) : Int)
        by_cases y : j = i
        · subst y
          rw [u2_s, if_pos rfl]
        · rw [u2_i y, if_neg y, F2 _ _ (by omega)]
          exact hmm j (by omega)) (Fr.up (fun a k hk => by rw [F2 a k (fun y => hk (Or.inl y)), hF a k hk]) (Or.inr rfl))
      have ng : ¬ fi (M + 5) ((w : Int)).toNat ≤ (i : Int) := by rw [e5]; omega
      have sub : ∀ c : Int, 0 ≤ c → c < i → fi (M + 44) c.toNat = ((tRun b K L R i).2 c.toNat : Nat) ∧ (tRun b K L R i).2 c.toNat < (tRun b K L R i).1.1 := fun c h5 h6 => ⟨hmm _ (by omega), bb _ (by omega)⟩
      have ob : (-2147483648 ≤ 300 * (w : Int) ∧ 300 * (w : Int) ≤ 2147483647) ∧ (-2147483648 ≤ 300 * (w : Int) + (i : Int) ∧ 300 * (w : Int) + (i : Int) ≤ 2147483647) ∧ (0 ≤ 300 * (w : Int) + (i : Int) ∧ 300 * (w : Int) + (i : Int) < 3600) := by omega
      by_cases h5' : K i = 5
      · obtain ⟨s1, s2⟩ := sub (L i) (by omega) (by omega)
        obtain ⟨f2, E, O, F2⟩ := x_starM (g := g) b hm hz (by omega) s2
        have eN : tNode b (tRun b K L R i).1 (tRun b K L R i).2 (K i) (L i) (R i) = tStar b (tRun b K L R i).1 ((tRun b K L R i).2 (L i).toNat) := if_pos h5'
        rw [← eN] at E O
        obtain ⟨f', A, rr⟩ := nxt f2 O F2
        refine ⟨f', bk_X12_root_7 hm ⟨by omega, fun y => absurd y ng, fun _ => ⟨ob, ?_⟩⟩, rr⟩
        rw [ei, ek, el, er, s1]
        exact ⟨fun _ => ⟨fun _ => ⟨fun y => absurd (s5.mpr h5') y, fun _ => ⟨⟨by omega, by omega⟩, f2, g, _, E, ⟨by omega, by omega⟩, A⟩⟩, fun y => absurd (s67.2.mp y) (by omega)⟩, fun y => absurd (s67.1.mp y) (by omega)⟩
      · by_cases h7 : K i = 7
        · obtain ⟨s1, s2⟩ := sub (L i) (by omega) (by omega)
          obtain ⟨s3, s4⟩ := sub (R i) (by omega) (by omega)
          obtain ⟨f2, E, O, F2⟩ := x_plusM (g := g) b hm hz (by omega) s2 s4
          have eN : tNode b (tRun b K L R i).1 (tRun b K L R i).2 (K i) (L i) (R i) = tEither b (tRun b K L R i).1 ((tRun b K L R i).2 (L i).toNat) ((tRun b K L R i).2 (R i).toNat) := (if_neg h5').trans (if_pos h7)
          rw [← eN] at E O
          obtain ⟨f', A, rr⟩ := nxt f2 O F2
          refine ⟨f', bk_X12_root_7 hm ⟨by omega, fun y => absurd y ng, fun _ => ⟨ob, ?_⟩⟩, rr⟩
          rw [ei, ek, el, er, s1, s3]
          exact ⟨fun y => absurd (s67.1.mpr h7) y, fun _ => ⟨⟨by omega, by omega, by omega⟩, f2, g, _, E, ⟨by omega, by omega⟩, A⟩⟩
        · by_cases h6 : K i = 6
          · obtain ⟨s1, s2⟩ := sub (L i) (by omega) (by omega)
            obtain ⟨s3, s4⟩ := sub (R i) (by omega) (by omega)
            obtain ⟨f2, E, O, F2⟩ := x_thenM (g := g) b hm hz (by omega) s2 s4
            have eN : tNode b (tRun b K L R i).1 (tRun b K L R i).2 (K i) (L i) (R i) = tThen b (tRun b K L R i).1 ((tRun b K L R i).2 (L i).toNat) ((tRun b K L R i).2 (R i).toNat) := (if_neg h5').trans ((if_neg h7).trans (if_pos h6))
            rw [← eN] at E O
            obtain ⟨f', A, rr⟩ := nxt f2 O F2
            refine ⟨f', bk_X12_root_7 hm ⟨by omega, fun y => absurd y ng, fun _ => ⟨ob, ?_⟩⟩, rr⟩
            rw [ei, ek, el, er, s1, s3]
            exact ⟨fun _ => ⟨fun y => absurd (s67.2.mpr h6) y, fun _ => ⟨⟨by omega, by omega, by omega⟩, f2, g, _, E, ⟨by omega, by omega⟩, A⟩⟩, fun y => absurd (s67.1.mp y) h7⟩
          · obtain ⟨f2, E, O, F2⟩ := x_alike (g := g) (k := K i) (l := L i) (r := R i) hm hz (by omega)
            have eN : tNode b (tRun b K L R i).1 (tRun b K L R i).2 (K i) (L i) (R i) = fa (tRun b K L R i).1 (K i) (L i) (R i) := (if_neg h5').trans ((if_neg h7).trans (if_neg h6))
            rw [← eN] at E O
            obtain ⟨f', A, rr⟩ := nxt f2 O F2
            refine ⟨f', bk_X12_root_7 hm ⟨by omega, fun y => absurd y ng, fun _ => ⟨ob, ?_⟩⟩, rr⟩
            rw [ei, ek, el, er]
            exact ⟨fun _ => ⟨fun _ => ⟨fun _ => ⟨by omega, f2, g, _, E, ⟨by omega, by omega⟩, A⟩, fun y => absurd (s5.mp y) h5'⟩, fun y => absurd (s67.2.mp y) h6⟩, fun y => absurd (s67.1.mp y) h7⟩
  obtain ⟨f', A, r1, r2⟩ := loop N 0 (by omega) (up2 f M 64 0) ⟨u2_s, fun j hj => absurd hj (Nat.not_lt_zero j)⟩ (fun j hj => absurd hj (Nat.not_lt_zero j)) (Fr.rfl'.up (Or.inl (Or.inl ⟨rfl, rfl⟩)))
  exact ⟨f', bk_X12_root_0 hm A, r1, r2⟩
