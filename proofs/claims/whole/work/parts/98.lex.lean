/-! reading signs, on both sides -/
theorem bk_X4_fail_0 {σ : St} {f : FI} {g : FL} {b : Nat} {x1 : Int} {x2 : Int} {r : St × List Vl} (hs : Sh4 σ b) (h : ((¬ (f (b + 5) 10) = 0 → (r = ((il σ f g), []))) ∧ ((f (b + 5) 10) = 0 → ((-2147483648 ≤ (8 * x1) ∧ (8 * x1) ≤ 2147483647) ∧ (-2147483648 ≤ (1 + (8 * x1)) ∧ (1 + (8 * x1)) ≤ 2147483647) ∧ (-2147483648 ≤ ((1 + (8 * x1)) + x2) ∧ ((1 + (8 * x1)) + x2) ≤ 2147483647)) ∧ (r = ((il σ (up2 f (b + 5) 10 ((1 + (8 * x1)) + x2)) g), []))))) : Ex mt 0 64 (il σ f g) [vR 4 (some (b + 5)), vI x1, vI x2] r := Ex.mk mt_64 (show Gx mt 0 cd_X4_fail (il σ f g) b_X4_fail_0 [some (vR 4 (some (b + 5))), some (vI x1), some (vI x2)] [] r from (go_loadA rfl (gi_getI (gq_if_ne (fun e3 => have h1 := h.1 e3; (h1 ▸ gq_retV)) (fun e3 => have h2 := h.2 e3; (go_loadA rfl (go_pushI rfl (go_pushI rfl (go_loadI rfl (go_imul h2.1.1 (go_iadd h2.1.2.1 (go_loadI rfl (go_iadd h2.1.2.2 (gi_putI (go_fall (h2.2 ▸ gq_retV))))))))))))))))
def A_X4_skipBlanks_5 (σ : St) (f : FI) (g : FL) (b : Nat) (x1 : Int) (r : St × List Vl) : Prop := Gx mt 0 cd_X4_skipBlanks (il σ f g) (cd_X4_skipBlanks 5) [some (vR 4 (some (b + 5))), some (vI x1)] [] r
theorem bk_X4_skipBlanks_0 {σ : St} {f : FI} {g : FL} {b : Nat} {r : St × List Vl} (hs : Sh4 σ b) (h : (A_X4_skipBlanks_5 σ f g b (f (b + 5) 5) r)) : Ex mt 0 65 (il σ f g) [vR 4 (some (b + 5))] r := Ex.mk mt_65 (show Gx mt 0 cd_X4_skipBlanks (il σ f g) b_X4_skipBlanks_0 [some (vR 4 (some (b + 5))), none] [] r from (go_loadA rfl (gi_getI (go_stoI rfl rfl (go_fall (h))))))
theorem bk_X4_skipBlanks_5 {σ : St} {f : FI} {g : FL} {b : Nat} {x1 : Int} {r : St × List Vl} (hs : Sh4 σ b) (h : (((f (b + 5) 4) ≤ x1 → (r = ((il σ f g), []))) ∧ (¬ (f (b + 5) 4) ≤ x1 → ((0 ≤ x1 ∧ x1 < 200)) ∧ ((¬ (f (b + 1) ((x1).toNat)) = 32 → (r = ((il σ f g), []))) ∧ ((f (b + 1) ((x1).toNat)) = 32 → ((-2147483648 ≤ (x1 + 1) ∧ (x1 + 1) ≤ 2147483647)) ∧ (A_X4_skipBlanks_5 σ (up2 f (b + 5) 5 (x1 + 1)) g b (x1 + 1) r)))))) : A_X4_skipBlanks_5 σ f g b x1 r := (show Gx mt 0 cd_X4_skipBlanks (il σ f g) b_X4_skipBlanks_5 [some (vR 4 (some (b + 5))), some (vI x1)] [] r from (go_loadI rfl (go_loadA rfl (gi_getI (gq_icmp_ge (fun e3 => have h1 := h.1 e3; (h1 ▸ gq_retV)) (fun e3 => have h2 := h.2 e3; (go_loadA rfl (gi_getR (Sh4.r3 hs) (go_loadI rfl (gi_iald (inl_ (Sh4.l3 hs) h2.1) (go_pushI rfl (gq_icmp_ne (fun e6 => have h4 := h2.2.1 e6; (h4 ▸ gq_retV)) (fun e6 => have h5 := h2.2.2 e6; (go_loadA rfl (go_loadI rfl (go_pushI rfl (go_iadd h5.1 (gi_putI (go_iinc rfl h5.1 rfl (go_goto (h5.2)))))))))))))))))))))
theorem bk_X4_signHere_0 {σ : St} {f : FI} {g : FL} {b : Nat} {r : St × List Vl} (hs : Sh4 σ b) (h : (((f (b + 5) 4) ≤ (f (b + 5) 5) → (r = ((il σ f g), [vI (-1)]))) ∧ (¬ (f (b + 5) 4) ≤ (f (b + 5) 5) → ((0 ≤ (f (b + 5) 5) ∧ (f (b + 5) 5) < 200)) ∧ (r = ((il σ f g), [vI (f (b + 1) (((f (b + 5) 5)).toNat))]))))) : Ex mt 0 66 (il σ f g) [vR 4 (some (b + 5))] r := Ex.mk mt_66 (show Gx mt 0 cd_X4_signHere (il σ f g) b_X4_signHere_0 [some (vR 4 (some (b + 5)))] [] r from (go_loadA rfl (gi_getI (go_loadA rfl (gi_getI (gq_icmp_ge (fun e3 => have h1 := h.1 e3; (go_pushI rfl (go_fall (h1 ▸ gq_retI)))) (fun e3 => have h2 := h.2 e3; (go_loadA rfl (gi_getR (Sh4.r3 hs) (go_loadA rfl (gi_getI (gi_iald (inl_ (Sh4.l3 hs) h2.1) (go_goto (h2.2 ▸ gq_retI))))))))))))))
def A_X4_digitsHere_10 (σ : St) (f : FI) (g : FL) (b : Nat) (x1 : Int) (x2 : Int) (r : St × List Vl) : Prop := Gx mt 1 cd_X4_digitsHere (il σ f g) (cd_X4_digitsHere 10) [some (vR 4 (some (b + 5))), some (vI x1), some (vI x2)] [] r
theorem bk_X4_digitsHere_0 {σ : St} {f : FI} {g : FL} {b : Nat} {r : St × List Vl} (hs : Sh4 σ b) (h : (A_X4_digitsHere_10 σ f g b (f (b + 5) 5) (f (b + 5) 5) r)) : Ex mt 1 69 (il σ f g) [vR 4 (some (b + 5))] r := Ex.mk mt_69 (show Gx mt 1 cd_X4_digitsHere (il σ f g) b_X4_digitsHere_0 [some (vR 4 (some (b + 5))), none, none] [] r from (go_loadA rfl (gi_getI (go_stoI rfl rfl (go_loadA rfl (gi_getI (go_stoI rfl rfl (go_fall (h)))))))))
theorem bk_X4_digitsHere_10 {σ : St} {f : FI} {g : FL} {b : Nat} {x1 : Int} {x2 : Int} {r : St × List Vl} (hs : Sh4 σ b) (h : (((f (b + 5) 4) ≤ x2 → ((-2147483648 ≤ (x1 - (f (b + 5) 5)) ∧ (x1 - (f (b + 5) 5)) ≤ 2147483647)) ∧ (r = ((il σ f g), [vI (x1 - (f (b + 5) 5))]))) ∧ (¬ (f (b + 5) 4) ≤ x2 → ((0 ≤ x2 ∧ x2 < 200)) ∧ ((¬ ((48 ≤ (f (b + 1) ((x2).toNat)) ∧ (f (b + 1) ((x2).toNat)) ≤ 57)) → ((-2147483648 ≤ (x1 - (f (b + 5) 5)) ∧ (x1 - (f (b + 5) 5)) ≤ 2147483647)) ∧ (r = ((il σ f g), [vI (x1 - (f (b + 5) 5))]))) ∧ (((48 ≤ (f (b + 1) ((x2).toNat)) ∧ (f (b + 1) ((x2).toNat)) ≤ 57)) → ((-2147483648 ≤ (x2 + 1) ∧ (x2 + 1) ≤ 2147483647)) ∧ (A_X4_digitsHere_10 σ f g b (x2 + 1) (x2 + 1) r)))))) : A_X4_digitsHere_10 σ f g b x1 x2 r := (show Gx mt 1 cd_X4_digitsHere (il σ f g) b_X4_digitsHere_10 [some (vR 4 (some (b + 5))), some (vI x1), some (vI x2)] [] r from (go_loadI rfl (go_loadA rfl (gi_getI (gq_icmp_ge (fun e3 => have h1 := h.1 e3; (go_loadI rfl (go_loadA rfl (gi_getI (go_isub h1.1 (h1.2 ▸ gq_retI)))))) (fun e3 => have h2 := h.2 e3; (go_loadA rfl (gi_getR (Sh4.r3 hs) (go_loadI rfl (gi_iald (inl_ (Sh4.l3 hs) h2.1) (go_callS rfl rfl rfl (pu_isDigit4) (go_ifb_eq (fun e6 => have h4 := h2.2.1 e6; (go_loadI rfl (go_loadA rfl (gi_getI (go_isub h4.1 (h4.2 ▸ gq_retI)))))) (fun e6 => have h5 := h2.2.2 e6; (go_loadI rfl (go_pushI rfl (go_iadd h5.1 (go_stoI rfl rfl (go_iinc rfl h5.1 rfl (go_goto (h5.2))))))))))))))))))))
def A_X4_wordHere_10 (σ : St) (f : FI) (g : FL) (b : Nat) (x1 : Int) (x2 : Int) (r : St × List Vl) : Prop := Gx mt 1 cd_X4_wordHere (il σ f g) (cd_X4_wordHere 10) [some (vR 4 (some (b + 5))), some (vI x1), some (vI x2)] [] r
theorem bk_X4_wordHere_0 {σ : St} {f : FI} {g : FL} {b : Nat} {r : St × List Vl} (hs : Sh4 σ b) (h : (A_X4_wordHere_10 σ f g b (f (b + 5) 5) (f (b + 5) 5) r)) : Ex mt 1 70 (il σ f g) [vR 4 (some (b + 5))] r := Ex.mk mt_70 (show Gx mt 1 cd_X4_wordHere (il σ f g) b_X4_wordHere_0 [some (vR 4 (some (b + 5))), none, none] [] r from (go_loadA rfl (gi_getI (go_stoI rfl rfl (go_loadA rfl (gi_getI (go_stoI rfl rfl (go_fall (h)))))))))
theorem bk_X4_wordHere_10 {σ : St} {f : FI} {g : FL} {b : Nat} {x1 : Int} {x2 : Int} {r : St × List Vl} (hs : Sh4 σ b) (h : (((f (b + 5) 4) ≤ x2 → ((-2147483648 ≤ (x1 - (f (b + 5) 5)) ∧ (x1 - (f (b + 5) 5)) ≤ 2147483647)) ∧ (r = ((il σ f g), [vI (x1 - (f (b + 5) 5))]))) ∧ (¬ (f (b + 5) 4) ≤ x2 → ((0 ≤ x2 ∧ x2 < 200)) ∧ ((¬ ((97 ≤ (f (b + 1) ((x2).toNat)) ∧ (f (b + 1) ((x2).toNat)) ≤ 122)) → ((-2147483648 ≤ (x1 - (f (b + 5) 5)) ∧ (x1 - (f (b + 5) 5)) ≤ 2147483647)) ∧ (r = ((il σ f g), [vI (x1 - (f (b + 5) 5))]))) ∧ (((97 ≤ (f (b + 1) ((x2).toNat)) ∧ (f (b + 1) ((x2).toNat)) ≤ 122)) → ((-2147483648 ≤ (x2 + 1) ∧ (x2 + 1) ≤ 2147483647)) ∧ (A_X4_wordHere_10 σ f g b (x2 + 1) (x2 + 1) r)))))) : A_X4_wordHere_10 σ f g b x1 x2 r := (show Gx mt 1 cd_X4_wordHere (il σ f g) b_X4_wordHere_10 [some (vR 4 (some (b + 5))), some (vI x1), some (vI x2)] [] r from (go_loadI rfl (go_loadA rfl (gi_getI (gq_icmp_ge (fun e3 => have h1 := h.1 e3; (go_loadI rfl (go_loadA rfl (gi_getI (go_isub h1.1 (h1.2 ▸ gq_retI)))))) (fun e3 => have h2 := h.2 e3; (go_loadA rfl (gi_getR (Sh4.r3 hs) (go_loadI rfl (gi_iald (inl_ (Sh4.l3 hs) h2.1) (go_callS rfl rfl rfl (pu_isLetter4) (go_ifb_eq (fun e6 => have h4 := h2.2.1 e6; (go_loadI rfl (go_loadA rfl (gi_getI (go_isub h4.1 (h4.2 ▸ gq_retI)))))) (fun e6 => have h5 := h2.2.2 e6; (go_loadI rfl (go_pushI rfl (go_iadd h5.1 (go_stoI rfl rfl (go_iinc rfl h5.1 rfl (go_goto (h5.2))))))))))))))))))))
theorem bk_X4_fieldHere_0 {σ : St} {f : FI} {g : FL} {b : Nat} {r : St × List Vl} (hs : Sh4 σ b) (h : (∃ (f1 : FI) (g2 : FL) (v4 : Int), Ex mt 1 70 (il σ f g) [vR 4 (some (b + 5))] ((il σ f1 g2), [vI v4]) ∧ (∃ (f5 : FI) (g6 : FL) (v8 : Int), Ex mt 0 66 (il σ f1 g2) [vR 4 (some (b + 5))] ((il σ f5 g6), [vI v8]) ∧ ((¬ v4 = 1 → ((¬ v4 = 2 → (r = ((il σ f5 g6), [vI (-1)]))) ∧ (v4 = 2 → ((¬ v8 = 97 → (r = ((il σ f5 g6), [vI (-1)]))) ∧ (v8 = 97 → ((-2147483648 ≤ ((f5 (b + 5) 5) + 1) ∧ ((f5 (b + 5) 5) + 1) ≤ 2147483647) ∧ (0 ≤ ((f5 (b + 5) 5) + 1) ∧ ((f5 (b + 5) 5) + 1) < 200)) ∧ ((¬ (f5 (b + 1) ((((f5 (b + 5) 5) + 1)).toNat)) = 116 → (r = ((il σ f5 g6), [vI (-1)]))) ∧ ((f5 (b + 1) ((((f5 (b + 5) 5) + 1)).toNat)) = 116 → (r = ((il σ f5 g6), [vI 3]))))))))) ∧ (v4 = 1 → ((99 < v8 → ((¬ v4 = 2 → (r = ((il σ f5 g6), [vI (-1)]))) ∧ (v4 = 2 → ((¬ v8 = 97 → (r = ((il σ f5 g6), [vI (-1)]))) ∧ (v8 = 97 → ((-2147483648 ≤ ((f5 (b + 5) 5) + 1) ∧ ((f5 (b + 5) 5) + 1) ≤ 2147483647) ∧ (0 ≤ ((f5 (b + 5) 5) + 1) ∧ ((f5 (b + 5) 5) + 1) < 200)) ∧ ((¬ (f5 (b + 1) ((((f5 (b + 5) 5) + 1)).toNat)) = 116 → (r = ((il σ f5 g6), [vI (-1)]))) ∧ ((f5 (b + 1) ((((f5 (b + 5) 5) + 1)).toNat)) = 116 → (r = ((il σ f5 g6), [vI 3]))))))))) ∧ (¬ 99 < v8 → ((-2147483648 ≤ (v8 - 97) ∧ (v8 - 97) ≤ 2147483647)) ∧ (r = ((il σ f5 g6), [vI (v8 - 97)]))))))))) : Ex mt 2 71 (il σ f g) [vR 4 (some (b + 5))] r := Ex.mk mt_71 (show Gx mt 2 cd_X4_fieldHere (il σ f g) b_X4_fieldHere_0 [some (vR 4 (some (b + 5))), none, none] [] r from (go_loadA rfl (Exists.elim h fun f1 w35 => Exists.elim w35 fun g2 w36 => Exists.elim w36 fun v4 h3 => (go_callV rfl rfl rfl h3.1 (go_stoI rfl rfl (go_loadA rfl (Exists.elim h3.2 fun f5 w33 => Exists.elim w33 fun g6 w34 => Exists.elim w34 fun v8 h7 => (go_callV rfl rfl rfl h7.1 (go_stoI rfl rfl (go_loadI rfl (go_pushI rfl (gq_icmp_ne (fun e11 => have h9 := h7.2.1 e11; (go_loadI rfl (go_pushI rfl (gq_icmp_ne (fun e14 => have h12 := h9.1 e14; (go_pushI rfl (go_fall (h12 ▸ gq_retI)))) (fun e14 => have h13 := h9.2 e14; (go_loadI rfl (go_pushI rfl (gq_icmp_ne (fun e17 => have h15 := h13.1 e17; (go_pushI rfl (go_fall (h15 ▸ gq_retI)))) (fun e17 => have h16 := h13.2 e17; (go_loadA rfl (gi_getR (Sh4.r3 hs) (go_loadA rfl (gi_getI (go_pushI rfl (go_iadd h16.1.1 (gi_iald (inl_ (Sh4.l3 hs) h16.1.2) (go_pushI rfl (gq_icmp_ne (fun e20 => have h18 := h16.2.1 e20; (go_pushI rfl (go_fall (h18 ▸ gq_retI)))) (fun e20 => have h19 := h16.2.2 e20; (go_pushI rfl (go_goto (h19 ▸ gq_retI)))))))))))))))))))))) (fun e11 => have h10 := h7.2.2 e11; (go_loadI rfl (go_pushI rfl (gq_icmp_gt (fun e23 => have h21 := h10.1 e23; (go_loadI rfl (go_pushI rfl (gq_icmp_ne (fun e26 => have h24 := h21.1 e26; (go_pushI rfl (go_fall (h24 ▸ gq_retI)))) (fun e26 => have h25 := h21.2 e26; (go_loadI rfl (go_pushI rfl (gq_icmp_ne (fun e29 => have h27 := h25.1 e29; (go_pushI rfl (go_fall (h27 ▸ gq_retI)))) (fun e29 => have h28 := h25.2 e29; (go_loadA rfl (gi_getR (Sh4.r3 hs) (go_loadA rfl (gi_getI (go_pushI rfl (go_iadd h28.1.1 (gi_iald (inl_ (Sh4.l3 hs) h28.1.2) (go_pushI rfl (gq_icmp_ne (fun e32 => have h30 := h28.2.1 e32; (go_pushI rfl (go_fall (h30 ▸ gq_retI)))) (fun e32 => have h31 := h28.2.2 e32; (go_pushI rfl (go_goto (h31 ▸ gq_retI)))))))))))))))))))))) (fun e23 => have h22 := h10.2 e23; (go_loadI rfl (go_pushI rfl (go_isub h22.1 (h22.2 ▸ gq_retI)))))))))))))))))))))
theorem bk_X4_countAtom_0 {σ : St} {f : FI} {g : FL} {b : Nat} {x1 : Int} {r : St × List Vl} (hs : Sh4 σ b) (h : ((-2147483648 ≤ ((f (b + 5) 9) + 1) ∧ ((f (b + 5) 9) + 1) ≤ 2147483647)) ∧ ((((f (b + 5) 9) + 1) ≤ 40 → (r = ((il σ (up2 f (b + 5) 9 ((f (b + 5) 9) + 1)) g), []))) ∧ (¬ ((f (b + 5) 9) + 1) ≤ 40 → (∃ (f4 : FI) (g5 : FL), Ex mt 0 64 (il σ (up2 f (b + 5) 9 ((f (b + 5) 9) + 1)) g) [vR 4 (some (b + 5)), vI x1, vI 3] ((il σ f4 g5), []) ∧ (r = ((il σ f4 g5), [])))))) : Ex mt 1 63 (il σ f g) [vR 4 (some (b + 5)), vI x1] r := Ex.mk mt_63 (show Gx mt 1 cd_X4_countAtom (il σ f g) b_X4_countAtom_0 [some (vR 4 (some (b + 5))), some (vI x1)] [] r from (go_loadA rfl (go_dupA (gi_getI (go_pushI rfl (go_iadd h.1 (gi_putI (go_loadA rfl (gi_getIe u2_s (go_pushI rfl (gq_icmp_le (fun e3 => have h1 := h.2.1 e3; (h1 ▸ gq_retV)) (fun e3 => have h2 := h.2.2 e3; (go_loadA rfl (go_loadI rfl (go_pushI rfl (Exists.elim h2 fun f4 w7 => Exists.elim w7 fun g5 h6 => (go_callV rfl rfl rfl h6.1 (go_fall (h6.2 ▸ gq_retV)))))))))))))))))))
theorem bk_X12_fails_0 {σ : St} {f : FI} {g : FL} {a : Nat} {x1 : Int} {x2 : Int} {r : St × List Vl} (hs : Sh12 σ a) (h : ((¬ (f a 3) = 0 → (r = ((il σ (up2 f a 3 (f a 3)) g), []))) ∧ ((f a 3) = 0 → ((-2147483648 ≤ (8 * x2) ∧ (8 * x2) ≤ 2147483647) ∧ (-2147483648 ≤ (1 + (8 * x2)) ∧ (1 + (8 * x2)) ≤ 2147483647) ∧ (-2147483648 ≤ ((1 + (8 * x2)) + x1) ∧ ((1 + (8 * x2)) + x1) ≤ 2147483647)) ∧ (r = ((il σ (up2 f a 3 ((1 + (8 * x2)) + x1)) g), []))))) : Ex mt 0 207 (il σ f g) [vR 12 (some a), vI x1, vI x2] r := Ex.mk mt_207 (show Gx mt 0 cd_X12_fails (il σ f g) b_X12_fails_0 [some (vR 12 (some a)), some (vI x1), some (vI x2)] [] r from (go_loadA rfl (go_loadA rfl (gi_getI (gq_if_ne (fun e3 => have h1 := h.1 e3; (go_loadA rfl (gi_getI (go_fall (gi_putI (h1 ▸ gq_retV)))))) (fun e3 => have h2 := h.2 e3; (go_pushI rfl (go_pushI rfl (go_loadI rfl (go_imul h2.1.1 (go_iadd h2.1.2.1 (go_loadI rfl (go_iadd h2.1.2.2 (go_goto (gi_putI (h2.2 ▸ gq_retV))))))))))))))))
theorem bk_X12_sign_0 {σ : St} {f : FI} {g : FL} {a : Nat} {r : St × List Vl} (hs : Sh12 σ a) (h : (((f a 1) ≤ (f a 2) → (r = ((il σ f g), [vI (-1)]))) ∧ (¬ (f a 1) ≤ (f a 2) → ((0 ≤ (f a 2) ∧ (f a 2) < 200)) ∧ (r = ((il σ f g), [vI ((f (a + 1) (((f a 2)).toNat)) % 256)]))))) : Ex mt 0 208 (il σ f g) [vR 12 (some a)] r := Ex.mk mt_208 (show Gx mt 0 cd_X12_sign (il σ f g) b_X12_sign_0 [some (vR 12 (some a))] [] r from (go_loadA rfl (gi_getI (go_loadA rfl (gi_getI (gq_icmp_ge (fun e3 => have h1 := h.1 e3; (go_pushI rfl (go_fall (h1 ▸ gq_retI)))) (fun e3 => have h2 := h.2 e3; (go_loadA rfl (gi_getR (Sh12.r9 hs) (go_loadA rfl (gi_getI (gi_bald (inl_ (Sh12.l9 hs) h2.1) (go_pushI rfl (go_iand (iAnd_m255 _) (go_goto (h2.2 ▸ gq_retI))))))))))))))))
def A_X12_blanks_0 (σ : St) (f : FI) (g : FL) (a : Nat) (r : St × List Vl) : Prop := Gx mt 1 cd_X12_blanks (il σ f g) (cd_X12_blanks 0) [some (vR 12 (some a))] [] r
theorem bk_X12_blanks_0 {σ : St} {f : FI} {g : FL} {a : Nat} {r : St × List Vl} (hs : Sh12 σ a) (h : (∃ (f1 : FI) (g2 : FL) (v4 : Int), Ex mt 0 208 (il σ f g) [vR 12 (some a)] ((il σ f1 g2), [vI v4]) ∧ ((¬ v4 = 32 → (r = ((il σ f1 g2), []))) ∧ (v4 = 32 → ((-2147483648 ≤ ((f1 a 2) + 1) ∧ ((f1 a 2) + 1) ≤ 2147483647)) ∧ (A_X12_blanks_0 σ (up2 f1 a 2 ((f1 a 2) + 1)) g2 a r))))) : A_X12_blanks_0 σ f g a r := (show Gx mt 1 cd_X12_blanks (il σ f g) b_X12_blanks_0 [some (vR 12 (some a))] [] r from (go_loadA rfl (Exists.elim h fun f1 w8 => Exists.elim w8 fun g2 w9 => Exists.elim w9 fun v4 h3 => (go_callV rfl rfl rfl h3.1 (go_pushI rfl (gq_icmp_ne (fun e7 => have h5 := h3.2.1 e7; (h5 ▸ gq_retV)) (fun e7 => have h6 := h3.2.2 e7; (go_loadA rfl (go_dupA (gi_getI (go_pushI rfl (go_iadd h6.1 (gi_putI (go_goto (h6.2)))))))))))))))
theorem bk_X12_blanks_e {σ : St} {f : FI} {g : FL} {a : Nat} {r : St × List Vl} (h : A_X12_blanks_0 σ f g a r) : Ex mt 1 209 (il σ f g) [vR 12 (some a)] r := Ex.mk mt_209 h
theorem bk_X12_isDigit_0 {σ : St} {f : FI} {g : FL} {a : Nat} {r : St × List Vl} (hs : Sh12 σ a) (h : (∃ (f1 : FI) (g2 : FL) (v4 : Int), Ex mt 0 208 (il σ f g) [vR 12 (some a)] ((il σ f1 g2), [vI v4]) ∧ ((-2147483648 ≤ v4 ∧ v4 ≤ 2147483647)) ∧ (r = ((il σ f1 g2), [vI (bI (48 ≤ v4 ∧ v4 ≤ 57))])))) : Ex mt 1 210 (il σ f g) [vR 12 (some a)] r := Ex.mk mt_210 (show Gx mt 1 cd_X12_isDigit (il σ f g) b_X12_isDigit_0 [some (vR 12 (some a))] [] r from (go_loadA rfl (Exists.elim h fun f1 w5 => Exists.elim w5 fun g2 w6 => Exists.elim w6 fun v4 h3 => (go_callV rfl rfl rfl h3.1 (go_i2l (go_pushL rfl (go_pushL rfl (go_callS rfl rfl rfl (pu_in h3.2.1 ⟨by decide, by decide⟩ ⟨by decide, by decide⟩ (v := v4) (lo := 48) (hi := 57)) (h3.2.2 ▸ (gq_retZ (bI_01 _)))))))))))
theorem bk_X12_isLetter_0 {σ : St} {f : FI} {g : FL} {a : Nat} {r : St × List Vl} (hs : Sh12 σ a) (h : (∃ (f1 : FI) (g2 : FL) (v4 : Int), Ex mt 0 208 (il σ f g) [vR 12 (some a)] ((il σ f1 g2), [vI v4]) ∧ ((-2147483648 ≤ v4 ∧ v4 ≤ 2147483647)) ∧ (r = ((il σ f1 g2), [vI (bI (97 ≤ v4 ∧ v4 ≤ 122))])))) : Ex mt 1 211 (il σ f g) [vR 12 (some a)] r := Ex.mk mt_211 (show Gx mt 1 cd_X12_isLetter (il σ f g) b_X12_isLetter_0 [some (vR 12 (some a))] [] r from (go_loadA rfl (Exists.elim h fun f1 w5 => Exists.elim w5 fun g2 w6 => Exists.elim w6 fun v4 h3 => (go_callV rfl rfl rfl h3.1 (go_i2l (go_pushL rfl (go_pushL rfl (go_callS rfl rfl rfl (pu_in h3.2.1 ⟨by decide, by decide⟩ ⟨by decide, by decide⟩ (v := v4) (lo := 97) (hi := 122)) (h3.2.2 ▸ (gq_retZ (bI_01 _)))))))))))
theorem bk_X12_counts_0 {σ : St} {f : FI} {g : FL} {a : Nat} {x1 : Int} {r : St × List Vl} (hs : Sh12 σ a) (h : ((¬ (f a 6) = 40 → ((-2147483648 ≤ ((f a 6) + 1) ∧ ((f a 6) + 1) ≤ 2147483647)) ∧ (r = ((il σ (up2 f a 6 ((f a 6) + 1)) g), []))) ∧ ((f a 6) = 40 → (∃ (f4 : FI) (g5 : FL), Ex mt 0 207 (il σ f g) [vR 12 (some a), vI 3, vI x1] ((il σ f4 g5), []) ∧ ((-2147483648 ≤ ((f4 a 6) + 1) ∧ ((f4 a 6) + 1) ≤ 2147483647)) ∧ (r = ((il σ (up2 f4 a 6 ((f4 a 6) + 1)) g5), [])))))) : Ex mt 1 215 (il σ f g) [vR 12 (some a), vI x1] r := Ex.mk mt_215 (show Gx mt 1 cd_X12_counts (il σ f g) b_X12_counts_0 [some (vR 12 (some a)), some (vI x1)] [] r from (go_loadA rfl (gi_getI (go_pushI rfl (gq_icmp_ne (fun e3 => have h1 := h.1 e3; (go_loadA rfl (go_dupA (gi_getI (go_pushI rfl (go_iadd h1.1 (gi_putI (h1.2 ▸ gq_retV)))))))) (fun e3 => have h2 := h.2 e3; (go_loadA rfl (go_pushI rfl (go_loadI rfl (Exists.elim h2 fun f4 w7 => Exists.elim w7 fun g5 h6 => (go_callV rfl rfl rfl h6.1 (go_fall (go_loadA rfl (go_dupA (gi_getI (go_pushI rfl (go_iadd h6.2.1 (gi_putI (h6.2.2 ▸ gq_retV)))))))))))))))))))
def A_X12_field_5 (σ : St) (f : FI) (g : FL) (a : Nat) (x1 : Int) (r : St × List Vl) : Prop := ∀ (y2 : Option Vl) (y3 : Option Vl), Gx mt 0 cd_X12_field (il σ f g) (cd_X12_field 5) [some (vR 12 (some a)), some (vI x1), y2, y3] [] r
def A_X12_field_41 (σ : St) (f : FI) (g : FL) (a : Nat) (x1 : Int) (r : St × List Vl) : Prop := ∀ (y2 : Option Vl) (y3 : Option Vl), Gx mt 0 cd_X12_field (il σ f g) (cd_X12_field 41) [some (vR 12 (some a)), some (vI x1), y2, y3] [] r
def A_X12_field_108 (σ : St) (f : FI) (g : FL) (a : Nat) (x2 : Int) (s0 : Int) (r : St × List Vl) : Prop := ∀ (y1 : Int) (y3 : Option Vl), Gx mt 0 cd_X12_field (il σ f g) (cd_X12_field 108) [some (vR 12 (some a)), some (vI y1), some (vI x2), y3] [vI s0] r
def A_X12_field_125 (σ : St) (f : FI) (g : FL) (a : Nat) (x2 : Int) (x3 : Int) (r : St × List Vl) : Prop := ∀ (y1 : Int), Gx mt 0 cd_X12_field (il σ f g) (cd_X12_field 125) [some (vR 12 (some a)), some (vI y1), some (vI x2), some (vI x3)] [] r
theorem bk_X12_field_0 {σ : St} {f : FI} {g : FL} {a : Nat} {r : St × List Vl} (hs : Sh12 σ a) (h : (A_X12_field_5 σ f g a (f a 2) r)) : Ex mt 0 216 (il σ f g) [vR 12 (some a)] r := Ex.mk mt_216 (show Gx mt 0 cd_X12_field (il σ f g) b_X12_field_0 [some (vR 12 (some a)), none, none, none] [] r from (go_loadA rfl (gi_getI (go_stoI rfl rfl (go_fall (h _ _))))))
theorem bk_X12_field_5 {σ : St} {f : FI} {g : FL} {a : Nat} {x1 : Int} {r : St × List Vl} (hs : Sh12 σ a) (h : (((f a 1) ≤ x1 → (A_X12_field_41 σ f g a x1 r)) ∧ (¬ (f a 1) ≤ x1 → ((0 ≤ x1 ∧ x1 < 200)) ∧ (((f (a + 1) ((x1).toNat)) < 97 → (A_X12_field_41 σ f g a x1 r)) ∧ (¬ (f (a + 1) ((x1).toNat)) < 97 → ((0 ≤ x1 ∧ x1 < 200)) ∧ ((122 < (f (a + 1) ((x1).toNat)) → (A_X12_field_41 σ f g a x1 r)) ∧ (¬ 122 < (f (a + 1) ((x1).toNat)) → ((-2147483648 ≤ (x1 + 1) ∧ (x1 + 1) ≤ 2147483647)) ∧ (A_X12_field_5 σ f g a (x1 + 1) r)))))))) : A_X12_field_5 σ f g a x1 r := fun y2 y3 => (show Gx mt 0 cd_X12_field (il σ f g) b_X12_field_5 [some (vR 12 (some a)), some (vI x1), y2, y3] [] r from (go_loadI rfl (go_loadA rfl (gi_getI (gq_icmp_ge (fun e3 => have h1 := h.1 e3; (h1 _ _)) (fun e3 => have h2 := h.2 e3; (go_loadA rfl (gi_getR (Sh12.r9 hs) (go_loadI rfl (gi_bald (inl_ (Sh12.l9 hs) h2.1) (go_pushI rfl (gq_icmp_lt (fun e6 => have h4 := h2.2.1 e6; (h4 _ _)) (fun e6 => have h5 := h2.2.2 e6; (go_loadA rfl (gi_getR (Sh12.r9 hs) (go_loadI rfl (gi_bald (inl_ (Sh12.l9 hs) h5.1) (go_pushI rfl (gq_icmp_gt (fun e9 => have h7 := h5.2.1 e9; (h7 _ _)) (fun e9 => have h8 := h5.2.2 e9; (go_iinc rfl h8.1 rfl (go_goto (h8.2 _ _)))))))))))))))))))))))
theorem bk_X12_field_41 {σ : St} {f : FI} {g : FL} {a : Nat} {x1 : Int} {r : St × List Vl} (hs : Sh12 σ a) (h : ((-2147483648 ≤ (x1 - (f a 2)) ∧ (x1 - (f a 2)) ≤ 2147483647)) ∧ ((¬ (x1 - (f a 2)) = 1 → ((¬ (x1 - (f a 2)) = 2 → (A_X12_field_108 σ f g a (x1 - (f a 2)) (-1) r)) ∧ ((x1 - (f a 2)) = 2 → ((0 ≤ (f a 2) ∧ (f a 2) < 200)) ∧ ((¬ (f (a + 1) (((f a 2)).toNat)) = 97 → (A_X12_field_108 σ f g a (x1 - (f a 2)) (-1) r)) ∧ ((f (a + 1) (((f a 2)).toNat)) = 97 → ((-2147483648 ≤ ((f a 2) + 1) ∧ ((f a 2) + 1) ≤ 2147483647) ∧ (0 ≤ ((f a 2) + 1) ∧ ((f a 2) + 1) < 200)) ∧ ((¬ (f (a + 1) ((((f a 2) + 1)).toNat)) = 116 → (A_X12_field_108 σ f g a (x1 - (f a 2)) (-1) r)) ∧ ((f (a + 1) ((((f a 2) + 1)).toNat)) = 116 → (A_X12_field_108 σ f g a (x1 - (f a 2)) 3 r)))))))) ∧ ((x1 - (f a 2)) = 1 → ((0 ≤ (f a 2) ∧ (f a 2) < 200) ∧ (-2147483648 ≤ ((f (a + 1) (((f a 2)).toNat)) - 97) ∧ ((f (a + 1) (((f a 2)).toNat)) - 97) ≤ 2147483647)) ∧ (A_X12_field_108 σ f g a (x1 - (f a 2)) ((f (a + 1) (((f a 2)).toNat)) - 97) r)))) : A_X12_field_41 σ f g a x1 r := fun y2 y3 => (show Gx mt 0 cd_X12_field (il σ f g) b_X12_field_41 [some (vR 12 (some a)), some (vI x1), y2, y3] [] r from (go_loadI rfl (go_loadA rfl (gi_getI (go_isub h.1 (go_stoI rfl rfl (go_loadI rfl (go_pushI rfl (gq_icmp_ne (fun e3 => have h1 := h.2.1 e3; (go_loadI rfl (go_pushI rfl (gq_icmp_ne (fun e6 => have h4 := h1.1 e6; (go_pushI rfl (go_fall (h4 _ _)))) (fun e6 => have h5 := h1.2 e6; (go_loadA rfl (gi_getR (Sh12.r9 hs) (go_loadA rfl (gi_getI (gi_bald (inl_ (Sh12.l9 hs) h5.1) (go_pushI rfl (gq_icmp_ne (fun e9 => have h7 := h5.2.1 e9; (go_pushI rfl (go_fall (h7 _ _)))) (fun e9 => have h8 := h5.2.2 e9; (go_loadA rfl (gi_getR (Sh12.r9 hs) (go_loadA rfl (gi_getI (go_pushI rfl (go_iadd h8.1.1 (gi_bald (inl_ (Sh12.l9 hs) h8.1.2) (go_pushI rfl (gq_icmp_ne (fun e12 => have h10 := h8.2.1 e12; (go_pushI rfl (go_fall (h10 _ _)))) (fun e12 => have h11 := h8.2.2 e12; (go_pushI rfl (go_goto (h11 _ _)))))))))))))))))))))))))) (fun e3 => have h2 := h.2.2 e3; (go_loadA rfl (gi_getR (Sh12.r9 hs) (go_loadA rfl (gi_getI (gi_bald (inl_ (Sh12.l9 hs) h2.1.1) (go_pushI rfl (go_isub h2.1.2 (go_goto (h2.2 _ _)))))))))))))))))))
theorem bk_X12_field_108 {σ : St} {f : FI} {g : FL} {a : Nat} {x2 : Int} {s0 : Int} {r : St × List Vl} (hs : Sh12 σ a) (h : ((¬ x2 = 1 → ((¬ x2 = 0 → (A_X12_field_125 σ f g a x2 s0 r)) ∧ (x2 = 0 → (A_X12_field_125 σ f g a x2 (-1) r)))) ∧ (x2 = 1 → ((2 < s0 → (A_X12_field_125 σ f g a x2 (-1) r)) ∧ (¬ 2 < s0 → ((¬ x2 = 0 → (A_X12_field_125 σ f g a x2 s0 r)) ∧ (x2 = 0 → (A_X12_field_125 σ f g a x2 (-1) r)))))))) : A_X12_field_108 σ f g a x2 s0 r := fun y1 y3 => (show Gx mt 0 cd_X12_field (il σ f g) b_X12_field_108 [some (vR 12 (some a)), some (vI y1), some (vI x2), y3] [vI s0] r from (go_stoI rfl rfl (go_loadI rfl (go_pushI rfl (gq_icmp_ne (fun e3 => have h1 := h.1 e3; (go_loadI rfl (gq_if_ne (fun e6 => have h4 := h1.1 e6; (h4 _)) (fun e6 => have h5 := h1.2 e6; (go_fall (go_pushI rfl (go_stoI rfl rfl (go_fall (h5 _))))))))) (fun e3 => have h2 := h.2 e3; (go_loadI rfl (go_pushI rfl (gq_icmp_gt (fun e9 => have h7 := h2.1 e9; (go_pushI rfl (go_stoI rfl rfl (go_fall (h7 _))))) (fun e9 => have h8 := h2.2 e9; (go_fall (go_loadI rfl (gq_if_ne (fun e12 => have h10 := h8.1 e12; (h10 _)) (fun e12 => have h11 := h8.2 e12; (go_fall (go_pushI rfl (go_stoI rfl rfl (go_fall (h11 _)))))))))))))))))))
theorem bk_X12_field_125 {σ : St} {f : FI} {g : FL} {a : Nat} {x2 : Int} {x3 : Int} {r : St × List Vl} (hs : Sh12 σ a) (h : ((¬ x3 = (-1) → ((-2147483648 ≤ ((f a 2) + x2) ∧ ((f a 2) + x2) ≤ 2147483647)) ∧ (r = ((il σ (up2 f a 2 ((f a 2) + x2)) g), [vI x3]))) ∧ (x3 = (-1) → ((-2147483648 ≤ ((f a 2) + 0) ∧ ((f a 2) + 0) ≤ 2147483647)) ∧ (r = ((il σ (up2 f a 2 ((f a 2) + 0)) g), [vI x3]))))) : A_X12_field_125 σ f g a x2 x3 r := fun y1 => (show Gx mt 0 cd_X12_field (il σ f g) b_X12_field_125 [some (vR 12 (some a)), some (vI y1), some (vI x2), some (vI x3)] [] r from (go_loadA rfl (go_dupA (gi_getI (go_loadI rfl (go_pushI rfl (gq_icmp_ne (fun e3 => have h1 := h.1 e3; (go_loadI rfl (go_fall (go_iadd h1.1 (gi_putI (go_loadI rfl (h1.2 ▸ gq_retI))))))) (fun e3 => have h2 := h.2 e3; (go_pushI rfl (go_goto (go_iadd h2.1 (gi_putI (go_loadI rfl (h2.2 ▸ gq_retI))))))))))))))
def A_X12_number_35 (σ : St) (f : FI) (g : FL) (a : Nat) (x1 : Int) (x2 : Int) (x3 : Int) (r : St × List Vl) : Prop := Gx mt 2 cd_X12_number (il σ f g) (cd_X12_number 35) [some (vR 12 (some a)), some (vI x1), some (vI x2), some (vI x3)] [] r
theorem bk_X12_number_0 {σ : St} {f : FI} {g : FL} {a : Nat} {x1 : Int} {r : St × List Vl} (hs : Sh12 σ a) (h : (∃ (f1 : FI) (g2 : FL), Ex mt 1 209 (il σ f g) [vR 12 (some a)] ((il σ f1 g2), []) ∧ (∃ (f4 : FI) (g5 : FL) (v7 : Int), Ex mt 1 210 (il σ f1 g2) [vR 12 (some a)] ((il σ f4 g5), [vI v7]) ∧ ((¬ v7 = 0 → (∃ (f11 : FI) (g12 : FL) (v14 : Int), Ex mt 0 208 (il σ f4 g5) [vR 12 (some a)] ((il σ f11 g12), [vI v14]) ∧ ((-2147483648 ≤ (v14 - 48) ∧ (v14 - 48) ≤ 2147483647)) ∧ (A_X12_number_35 σ f11 g12 a x1 (f4 a 2) (v14 - 48) r))) ∧ (v7 = 0 → (∃ (f17 : FI) (g18 : FL), Ex mt 0 207 (il σ f4 g5) [vR 12 (some a), vI 0, vI (f4 a 2)] ((il σ f17 g18), []) ∧ (r = ((il σ f17 g18), [vI 0])))))))) : Ex mt 2 217 (il σ f g) [vR 12 (some a), vI x1] r := Ex.mk mt_217 (show Gx mt 2 cd_X12_number (il σ f g) b_X12_number_0 [some (vR 12 (some a)), some (vI x1), none, none] [] r from (go_loadA rfl (Exists.elim h fun f1 w23 => Exists.elim w23 fun g2 h3 => (go_callV rfl rfl rfl h3.1 (go_loadA rfl (Exists.elim h3.2 fun f4 w21 => Exists.elim w21 fun g5 w22 => Exists.elim w22 fun v7 h6 => (go_callV rfl rfl rfl h6.1 (gq_if_ne (fun e10 => have h8 := h6.2.1 e10; (go_loadA rfl (gi_getI (go_stoI rfl rfl (go_loadA rfl (Exists.elim h8 fun f11 w15 => Exists.elim w15 fun g12 w16 => Exists.elim w16 fun v14 h13 => (go_callV rfl rfl rfl h13.1 (go_pushI rfl (go_isub h13.2.1 (go_stoI rfl rfl (go_fall (h13.2.2)))))))))))) (fun e10 => have h9 := h6.2.2 e10; (go_loadA rfl (go_pushI rfl (go_loadA rfl (gi_getI (Exists.elim h9 fun f17 w20 => Exists.elim w20 fun g18 h19 => (go_callV rfl rfl rfl h19.1 (go_pushI rfl (h19.2 ▸ gq_retI)))))))))))))))))
theorem bk_X12_number_35 {σ : St} {f : FI} {g : FL} {a : Nat} {x1 : Int} {x2 : Int} {x3 : Int} {r : St × List Vl} (hs : Sh12 σ a) (h : (∃ (f1 : FI) (g2 : FL) (v4 : Int), Ex mt 1 210 (il σ f g) [vR 12 (some a)] ((il σ f1 g2), [vI v4]) ∧ ((v4 = 0 → ((-2147483648 ≤ ((f1 a 2) - x2) ∧ ((f1 a 2) - x2) ≤ 2147483647)) ∧ ((1 < ((f1 a 2) - x2) → (∃ (f11 : FI) (g12 : FL), Ex mt 0 207 (il σ f1 g2) [vR 12 (some a), vI 1, vI x2] ((il σ f11 g12), []) ∧ (r = ((il σ f11 g12), [vI x3])))) ∧ (¬ 1 < ((f1 a 2) - x2) → ((¬ x1 = 3 → ((x3 ≤ 3 → (r = ((il σ f1 g2), [vI x3]))) ∧ (¬ x3 ≤ 3 → (∃ (f21 : FI) (g22 : FL), Ex mt 0 207 (il σ f1 g2) [vR 12 (some a), vI 1, vI x2] ((il σ f21 g22), []) ∧ (r = ((il σ f21 g22), [vI x3])))))) ∧ (x1 = 3 → ((x3 ≤ 7 → (r = ((il σ f1 g2), [vI x3]))) ∧ (¬ x3 ≤ 7 → (∃ (f28 : FI) (g29 : FL), Ex mt 0 207 (il σ f1 g2) [vR 12 (some a), vI 1, vI x2] ((il σ f28 g29), []) ∧ (r = ((il σ f28 g29), [vI x3])))))))))) ∧ (¬ v4 = 0 → ((-2147483648 ≤ ((f1 a 2) + 1) ∧ ((f1 a 2) + 1) ≤ 2147483647)) ∧ (A_X12_number_35 σ (up2 f1 a 2 ((f1 a 2) + 1)) g2 a x1 x2 x3 r))))) : A_X12_number_35 σ f g a x1 x2 x3 r := (show Gx mt 2 cd_X12_number (il σ f g) b_X12_number_35 [some (vR 12 (some a)), some (vI x1), some (vI x2), some (vI x3)] [] r from (go_loadA rfl (Exists.elim h fun f1 w32 => Exists.elim w32 fun g2 w33 => Exists.elim w33 fun v4 h3 => (go_callV rfl rfl rfl h3.1 (gq_if_eq (fun e7 => have h5 := h3.2.1 e7; (go_loadA rfl (gi_getI (go_loadI rfl (go_isub h5.1 (go_pushI rfl (gq_icmp_gt (fun e10 => have h8 := h5.2.1 e10; (go_loadA rfl (go_pushI rfl (go_loadI rfl (Exists.elim h8 fun f11 w14 => Exists.elim w14 fun g12 h13 => (go_callV rfl rfl rfl h13.1 (go_fall (go_loadI rfl (h13.2 ▸ gq_retI))))))))) (fun e10 => have h9 := h5.2.2 e10; (go_loadI rfl (go_loadI rfl (go_pushI rfl (gq_icmp_ne (fun e17 => have h15 := h9.1 e17; (go_pushI rfl (go_fall (gq_icmp_le (fun e20 => have h18 := h15.1 e20; (go_loadI rfl (h18 ▸ gq_retI))) (fun e20 => have h19 := h15.2 e20; (go_fall (go_loadA rfl (go_pushI rfl (go_loadI rfl (Exists.elim h19 fun f21 w24 => Exists.elim w24 fun g22 h23 => (go_callV rfl rfl rfl h23.1 (go_fall (go_loadI rfl (h23.2 ▸ gq_retI)))))))))))))) (fun e17 => have h16 := h9.2 e17; (go_pushI rfl (go_goto (gq_icmp_le (fun e27 => have h25 := h16.1 e27; (go_loadI rfl (h25 ▸ gq_retI))) (fun e27 => have h26 := h16.2 e27; (go_fall (go_loadA rfl (go_pushI rfl (go_loadI rfl (Exists.elim h26 fun f28 w31 => Exists.elim w31 fun g29 h30 => (go_callV rfl rfl rfl h30.1 (go_fall (go_loadI rfl (h30.2 ▸ gq_retI)))))))))))))))))))))))))) (fun e7 => have h6 := h3.2.2 e7; (go_loadA rfl (go_dupA (gi_getI (go_pushI rfl (go_iadd h6.1 (gi_putI (go_goto (h6.2))))))))))))))
def sg (T : Nat → Int) (n p : Nat) : Int := if n ≤ p then -1 else T p
def Run (P : Nat → Prop) (n p e : Nat) : Prop := p ≤ e ∧ e ≤ n ∧ (∀ i, p ≤ i → i < e → P i) ∧ (e < n → ¬ P e)
theorem Run.ex (P : Nat → Prop) (n : Nat) : ∀ u p : Nat, p + u = n → ∃ e, Run P n p e
  | 0, p, h => ⟨p, Nat.le_refl _, by omega, fun i h1 h2 => absurd h2 (by omega), fun z => absurd z (by omega)⟩
  | u + 1, p, h => by
    by_cases z : P p
    · obtain ⟨e, e1, e2, e3, e4⟩ := Run.ex P n u (p + 1) (by omega)
      refine ⟨e, by omega, e2, fun i h1 h2 => ?_, e4⟩
      by_cases y : i = p
      · rw [y]
        exact z
      · exact e3 i (by omega) h2
    · exact ⟨p, Nat.le_refl _, by omega, fun i h1 h2 => absurd h2 (by omega), fun _ => z⟩
/-- what the class reads -/
def CT (f : FI) (B : Nat) (T : Nat → Int) (n p : Nat) (F : Int) (a : Nat) : Prop := f (B + 5) 4 = (n : Int) ∧ (∀ i, i < n → f (B + 1) i = T i) ∧ f (B + 5) 5 = (p : Int) ∧ f (B + 5) 10 = F ∧ f (B + 5) 9 = (a : Int)
def FC (B : Nat) (f f' : FI) : Prop := ∀ c j, ¬ (c = B + 5 ∧ (j = 5 ∨ j = 9 ∨ j = 10)) → f' c j = f c j
theorem FC.rfl' {B : Nat} {f : FI} : FC B f f := fun _ _ _ => rfl
theorem FC.tr {B : Nat} {f f1 f2 : FI} (h : FC B f f1) (h2 : FC B f1 f2) : FC B f f2 := fun c j hc => (h2 c j hc).trans (h c j hc)
theorem FC.up {B j : Nat} {f f1 : FI} {v : Int} (h : FC B f f1) (hj : j = 5 ∨ j = 9 ∨ j = 10) : FC B f (up2 f1 (B + 5) j v) := fun c i hc => by
  unfold up2
  rw [if_neg (by omega)]
  exact h c i hc
theorem CT.p {f : FI} {B n p q a : Nat} {T : Nat → Int} {F : Int} (h : CT f B T n p F a) : CT (up2 f (B + 5) 5 (q : Int)) B T n q F a := by
  obtain ⟨h1, h2, h3, h4, h5⟩ := h
  exact ⟨by rw [u2_i (by decide)]; exact h1, fun i hi => by rw [u2_a (by omega)]; exact h2 i hi, u2_s, by rw [u2_i (by decide)]; exact h4, by rw [u2_i (by decide)]; exact h5⟩
/-- what the model reads -/
def MT (f : FI) (M : Nat) (T : Nat → Int) (n p : Nat) (F : Int) (a : Nat) : Prop := f M 1 = (n : Int) ∧ (∀ i, i < n → T i = f (M + 1) i % 256 ∧ -128 ≤ f (M + 1) i ∧ f (M + 1) i ≤ 127) ∧ f M 2 = (p : Int) ∧ f M 3 = F ∧ f M 6 = (a : Int)
def FM (M : Nat) (f f' : FI) : Prop := ∀ c j, ¬ (c = M ∧ (j = 2 ∨ j = 3 ∨ j = 6)) → f' c j = f c j
theorem FM.rfl' {M : Nat} {f : FI} : FM M f f := fun _ _ _ => rfl
theorem FM.tr {M : Nat} {f f1 f2 : FI} (h : FM M f f1) (h2 : FM M f1 f2) : FM M f f2 := fun c j hc => (h2 c j hc).trans (h c j hc)
theorem FM.up {M j : Nat} {f f1 : FI} {v : Int} (h : FM M f f1) (hj : j = 2 ∨ j = 3 ∨ j = 6) : FM M f (up2 f1 M j v) := fun c i hc => by
  unfold up2
  rw [if_neg (by omega)]
  exact h c i hc
theorem MT.p {f : FI} {M n p q a : Nat} {T : Nat → Int} {F : Int} (h : MT f M T n p F a) : MT (up2 f M 2 (q : Int)) M T n q F a := by
  obtain ⟨h1, h2, h3, h4, h5⟩ := h
  exact ⟨by rw [u2_i (by decide)]; exact h1, fun i hi => by rw [u2_a (by omega)]; exact h2 i hi, u2_s, by rw [u2_i (by decide)]; exact h4, by rw [u2_i (by decide)]; exact h5⟩
theorem l_sign {σ : St} {f : FI} {g : FL} {B n p a : Nat} {T : Nat → Int} {F : Int} (hs : Sh4 σ B) (hn : n ≤ 200) (h : CT f B T n p F a) : Ex mt 0 66 (il σ f g) [vR 4 (some (B + 5))] (il σ f g, [vI (sg T n p)]) := by
  obtain ⟨h1, h2, h3, h4, h5⟩ := h
  refine bk_X4_signHere_0 hs ?_
  rw [h1, h3, show ((p : Int)).toNat = p from rfl]
  unfold sg
  by_cases z : n ≤ p
  · rw [if_pos z]
    exact ⟨fun _ => rfl, fun y => absurd (by omega) y⟩
  · rw [if_neg z, h2 p (by omega)]
    exact ⟨fun y => absurd y (by omega), fun _ => ⟨by omega, rfl⟩⟩
theorem l_blanks {σ : St} {f : FI} {g : FL} {B n p e a : Nat} {T : Nat → Int} {F : Int} (hs : Sh4 σ B) (hn : n ≤ 200) (h : CT f B T n p F a) (hr : Run (fun i => T i = 32) n p e) : ∃ f' : FI, Ex mt 0 65 (il σ f g) [vR 4 (some (B + 5))] (il σ f' g, []) ∧ CT f' B T n e F a ∧ FC B f f' := by
  obtain ⟨r1, r2, r3, r4⟩ := hr
  have loop : ∀ u i : Nat, i + u = e → p ≤ i → ∀ fi : FI, CT fi B T n i F a → FC B f fi → ∃ f' : FI, A_X4_skipBlanks_5 σ fi g B (i : Int) (il σ f' g, []) ∧ CT f' B T n e F a ∧ FC B f f' := by
    intro u
    induction u with
    | zero =>
      intro i hi hp fi hC hF
      obtain rfl : i = e := hi
      obtain ⟨h1, h2, h3, h4, h5⟩ := hC
      refine ⟨fi, bk_X4_skipBlanks_5 hs ?_, ⟨h1, h2, h3, h4, h5⟩, hF⟩
      rw [h1, show ((i : Int)).toNat = i from rfl]
      by_cases z : i < n
      · rw [h2 i z]
        exact ⟨fun y => absurd y (by omega), fun _ => ⟨by omega, fun _ => rfl, fun y => absurd y (r4 z)⟩⟩
      · exact ⟨fun _ => rfl, fun y => absurd (by omega) y⟩
    | succ u ih =>
      intro i hi hp fi hC hF
      obtain ⟨f', A, G1, G2⟩ := ih (i + 1) (by omega) (by omega) (up2 fi (B + 5) 5 ((i + 1 : Nat) : Int)) hC.p (hF.up (by omega))
      obtain ⟨h1, h2, h3, h4, h5⟩ := hC
      refine ⟨f', bk_X4_skipBlanks_5 hs ?_, G1, G2⟩
      rw [h1, show ((i : Int)).toNat = i from rfl, h2 i (by omega), show (i : Int) + 1 = ((i + 1 : Nat) : Int) by omega]
      exact ⟨fun y => absurd y (by omega), fun _ => ⟨by omega, fun y => absurd (r3 i hp (by omega)) y, fun _ => ⟨by omega, A⟩⟩⟩
  obtain ⟨f', A, G1, G2⟩ := loop (e - p) p (by omega) (Nat.le_refl _) f h FC.rfl'
  refine ⟨f', bk_X4_skipBlanks_0 hs ?_, G1, G2⟩
  rw [h.2.2.1]
  exact A
theorem l_digits {σ : St} {f : FI} {g : FL} {B n p e a : Nat} {T : Nat → Int} {F : Int} (hs : Sh4 σ B) (hn : n ≤ 200) (h : CT f B T n p F a) (hr : Run (fun i => 48 ≤ T i ∧ T i ≤ 57) n p e) : Ex mt 1 69 (il σ f g) [vR 4 (some (B + 5))] (il σ f g, [vI ((e - p : Nat) : Int)]) := by
  obtain ⟨r1, r2, r3, r4⟩ := hr
  obtain ⟨h1, h2, h3, h4, h5⟩ := h
  have loop : ∀ u i : Nat, i + u = e → p ≤ i → A_X4_digitsHere_10 σ f g B (i : Int) (i : Int) (il σ f g, [vI ((e - p : Nat) : Int)]) := by
    intro u
    induction u with
    | zero =>
      intro i hi hp
      obtain rfl : i = e := hi
      refine bk_X4_digitsHere_10 hs ?_
      rw [h1, h3, show ((i : Int)).toNat = i from rfl, show (i : Int) - (p : Int) = ((i - p : Nat) : Int) by omega]
      by_cases z : i < n
      · rw [h2 i z]
        exact ⟨fun y => absurd y (by omega), fun _ => ⟨by omega, fun _ => ⟨by omega, rfl⟩, fun y => absurd y (r4 z)⟩⟩
      · exact ⟨fun _ => ⟨by omega, rfl⟩, fun y => absurd (by omega) y⟩
    | succ u ih =>
      intro i hi hp
      refine bk_X4_digitsHere_10 hs ?_
      rw [h1, show ((i : Int)).toNat = i from rfl, h2 i (by omega), show (i : Int) + 1 = ((i + 1 : Nat) : Int) by omega]
      exact ⟨fun y => absurd y (by omega), fun _ => ⟨by omega, fun y => absurd (r3 i hp (by omega)) y, fun _ => ⟨by omega, ih (i + 1) (by omega) (by omega)⟩⟩⟩
  refine bk_X4_digitsHere_0 hs ?_
  rw [h3]
  exact loop (e - p) p (by omega) (Nat.le_refl _)
theorem l_word {σ : St} {f : FI} {g : FL} {B n p e a : Nat} {T : Nat → Int} {F : Int} (hs : Sh4 σ B) (hn : n ≤ 200) (h : CT f B T n p F a) (hr : Run (fun i => 97 ≤ T i ∧ T i ≤ 122) n p e) : Ex mt 1 70 (il σ f g) [vR 4 (some (B + 5))] (il σ f g, [vI ((e - p : Nat) : Int)]) := by
  obtain ⟨r1, r2, r3, r4⟩ := hr
  obtain ⟨h1, h2, h3, h4, h5⟩ := h
  have loop : ∀ u i : Nat, i + u = e → p ≤ i → A_X4_wordHere_10 σ f g B (i : Int) (i : Int) (il σ f g, [vI ((e - p : Nat) : Int)]) := by
    intro u
    induction u with
    | zero =>
      intro i hi hp
      obtain rfl : i = e := hi
      refine bk_X4_wordHere_10 hs ?_
      rw [h1, h3, show ((i : Int)).toNat = i from rfl, show (i : Int) - (p : Int) = ((i - p : Nat) : Int) by omega]
      by_cases z : i < n
      · rw [h2 i z]
        exact ⟨fun y => absurd y (by omega), fun _ => ⟨by omega, fun _ => ⟨by omega, rfl⟩, fun y => absurd y (r4 z)⟩⟩
      · exact ⟨fun _ => ⟨by omega, rfl⟩, fun y => absurd (by omega) y⟩
    | succ u ih =>
      intro i hi hp
      refine bk_X4_wordHere_10 hs ?_
      rw [h1, show ((i : Int)).toNat = i from rfl, h2 i (by omega), show (i : Int) + 1 = ((i + 1 : Nat) : Int) by omega]
      exact ⟨fun y => absurd y (by omega), fun _ => ⟨by omega, fun y => absurd (r3 i hp (by omega)) y, fun _ => ⟨by omega, ih (i + 1) (by omega) (by omega)⟩⟩⟩
  refine bk_X4_wordHere_0 hs ?_
  rw [h3]
  exact loop (e - p) p (by omega) (Nat.le_refl _)
/-- the field that a word names -/
def fdv (T : Nat → Int) (p d : Nat) : Int := if d = 1 ∧ T p ≤ 99 then T p - 97 else if d = 2 ∧ T p = 97 ∧ T (p + 1) = 116 then 3 else -1
theorem fdv_rg {T : Nat → Int} {n p e : Nat} (hr : Run (fun i => 97 ≤ T i ∧ T i ≤ 122) n p e) : fdv T p (e - p) = -1 ∨ ((0 ≤ fdv T p (e - p) ∧ fdv T p (e - p) ≤ 3) ∧ ((fdv T p (e - p) = 3 ∧ e = p + 2) ∨ (fdv T p (e - p) < 3 ∧ e = p + 1))) := by
  unfold fdv
  split
  · rename_i z
    have := hr.2.2.1 p (Nat.le_refl _) (by omega)
    right
    omega
  · split
    · rename_i z
      right
      omega
    · exact Or.inl rfl
theorem l_field {σ : St} {f : FI} {g : FL} {B n p e a : Nat} {T : Nat → Int} {F : Int} (hs : Sh4 σ B) (hn : n ≤ 200) (h : CT f B T n p F a) (hr : Run (fun i => 97 ≤ T i ∧ T i ≤ 122) n p e) : Ex mt 2 71 (il σ f g) [vR 4 (some (B + 5))] (il σ f g, [vI (fdv T p (e - p))]) := by
  have W := l_word (g := g) hs hn h hr
  have S := l_sign (g := g) hs hn h
  obtain ⟨h1, h2, h3, h4, h5⟩ := h
  obtain ⟨r1, r2, r3, r4⟩ := hr
  refine bk_X4_fieldHere_0 hs ⟨f, g, _, W, f, g, _, S, ?_⟩
  unfold fdv
  by_cases d1 : e - p = 1
  · have sgp : sg T n p = T p := by
      unfold sg
      rw [if_neg (by omega)]
    rw [sgp]
    by_cases c : T p ≤ 99
    · rw [if_pos ⟨d1, c⟩]
      have := r3 p (Nat.le_refl _) (by omega)
      exact ⟨fun y => absurd (by omega) y, fun _ => ⟨fun y => absurd y (by omega), fun _ => ⟨by omega, rfl⟩⟩⟩
    · rw [if_neg (fun y => c y.2), if_neg (by omega)]
      exact ⟨fun y => absurd (by omega) y, fun _ => ⟨fun _ => ⟨fun _ => rfl, fun y => absurd y (by omega)⟩, fun y => absurd (by omega) y⟩⟩
  · rw [if_neg (fun y => d1 y.1)]
    refine ⟨fun _ => ⟨fun y => ?_, fun y => ?_⟩, fun y => absurd y (by omega)⟩
    · rw [if_neg (by omega)]
    · have d2 : e - p = 2 := by omega
      have sgp : sg T n p = T p := by
        unfold sg
        rw [if_neg (by omega)]
      rw [sgp]
      refine ⟨fun c => ?_, fun c => ?_⟩
      · rw [if_neg (fun z => c z.2.1)]
      · rw [h3, show ((p : Int) + 1).toNat = p + 1 by omega, h2 (p + 1) (by omega)]
        refine ⟨⟨by omega, by omega⟩, fun c2 => ?_, fun c2 => ?_⟩
        · rw [if_neg (fun z => c2 z.2.2)]
        · rw [if_pos ⟨d2, c, c2⟩]
/-- only the first fault counts -/
def flt (F : Int) (p : Nat) (k : Int) : Int := if F = 0 then 1 + 8 * (p : Int) + k else F
theorem l_fail {σ : St} {f : FI} {g : FL} {B n p a q : Nat} {T : Nat → Int} {F k : Int} (hs : Sh4 σ B) (hq : q ≤ 200) (hk : 0 ≤ k ∧ k ≤ 3) (h : CT f B T n p F a) : ∃ f' : FI, Ex mt 0 64 (il σ f g) [vR 4 (some (B + 5)), vI (q : Int), vI k] (il σ f' g, []) ∧ CT f' B T n p (flt F q k) a ∧ FC B f f' := by
  obtain ⟨h1, h2, h3, h4, h5⟩ := h
  unfold flt
  by_cases z : F = 0
  · rw [if_pos z]
    refine ⟨_, bk_X4_fail_0 hs ⟨fun y => absurd (h4.trans z) y, fun _ => ⟨⟨by omega, by omega, by omega⟩, rfl⟩⟩, ⟨by rw [u2_i (by decide)]; exact h1, fun i hi => by rw [u2_a (by omega)]; exact h2 i hi, by rw [u2_i (by decide)]; exact h3, u2_s, by rw [u2_i (by decide)]; exact h5⟩, FC.rfl'.up (by omega)⟩
  · rw [if_neg z]
    exact ⟨f, bk_X4_fail_0 hs ⟨fun _ => rfl, fun y => absurd (h4.symm.trans y) z⟩, ⟨h1, h2, h3, h4, h5⟩, FC.rfl'⟩
theorem l_count {σ : St} {f : FI} {g : FL} {B n p a q : Nat} {T : Nat → Int} {F : Int} (hs : Sh4 σ B) (hq : q ≤ 200) (ha : a ≤ 40) (h : CT f B T n p F a) : ∃ f' : FI, Ex mt 1 63 (il σ f g) [vR 4 (some (B + 5)), vI (q : Int)] (il σ f' g, []) ∧ CT f' B T n p (if a = 40 then flt F q 3 else F) (a + 1) ∧ FC B f f' := by
  have h' := h
  obtain ⟨h1, h2, h3, h4, h5⟩ := h
  have C1 : CT (up2 f (B + 5) 9 ((a + 1 : Nat) : Int)) B T n p F (a + 1) := ⟨by rw [u2_i (by decide)]; exact h1, fun i hi => by rw [u2_a (by omega)]; exact h2 i hi, by rw [u2_i (by decide)]; exact h3, by rw [u2_i (by decide)]; exact h4, u2_s⟩
  have e : f (B + 5) 9 + 1 = ((a + 1 : Nat) : Int) := by rw [h5]; omega
  by_cases z : a = 40
  · rw [if_pos z]
    obtain ⟨f', E, G1, G2⟩ := l_fail (g := g) (k := 3) hs hq (by omega) C1
    refine ⟨f', bk_X4_countAtom_0 hs ?_, G1, (FC.rfl'.up (by omega)).tr G2⟩
    rw [e]
    exact ⟨by omega, fun y => absurd y (by omega), fun _ => ⟨f', g, E, rfl⟩⟩
  · rw [if_neg z]
    refine ⟨_, bk_X4_countAtom_0 hs ?_, C1, FC.rfl'.up (by omega)⟩
    rw [e]
    exact ⟨by omega, fun _ => rfl, fun y => absurd (by omega) y⟩
theorem m_sign {σ : St} {f : FI} {g : FL} {M n p a : Nat} {T : Nat → Int} {F : Int} (hm : Sh12 σ M) (hn : n ≤ 200) (h : MT f M T n p F a) : Ex mt 0 208 (il σ f g) [vR 12 (some M)] (il σ f g, [vI (sg T n p)]) := by
  obtain ⟨h1, h2, h3, h4, h5⟩ := h
  refine bk_X12_sign_0 hm ?_
  rw [h1, h3, show ((p : Int)).toNat = p from rfl]
  unfold sg
  by_cases z : n ≤ p
  · rw [if_pos z]
    exact ⟨fun _ => rfl, fun y => absurd (by omega) y⟩
  · rw [if_neg z, (h2 p (by omega)).1]
    exact ⟨fun y => absurd y (by omega), fun _ => ⟨by omega, rfl⟩⟩
theorem sg_rg {T : Nat → Int} {n p : Nat} (hT : ∀ i, i < n → 0 ≤ T i ∧ T i ≤ 255) : -1 ≤ sg T n p ∧ sg T n p ≤ 255 := by
  unfold sg
  split
  · omega
  · have := hT p (by omega)
    omega
theorem m_isDigit {σ : St} {f : FI} {g : FL} {M n p a : Nat} {T : Nat → Int} {F : Int} (hm : Sh12 σ M) (hn : n ≤ 200) (hT : ∀ i, i < n → 0 ≤ T i ∧ T i ≤ 255) (h : MT f M T n p F a) : Ex mt 1 210 (il σ f g) [vR 12 (some M)] (il σ f g, [vI (bI (48 ≤ sg T n p ∧ sg T n p ≤ 57))]) := bk_X12_isDigit_0 hm ⟨f, g, _, m_sign hm hn h, by have := sg_rg (p := p) hT; omega, rfl⟩
theorem m_isLetter {σ : St} {f : FI} {g : FL} {M n p a : Nat} {T : Nat → Int} {F : Int} (hm : Sh12 σ M) (hn : n ≤ 200) (hT : ∀ i, i < n → 0 ≤ T i ∧ T i ≤ 255) (h : MT f M T n p F a) : Ex mt 1 211 (il σ f g) [vR 12 (some M)] (il σ f g, [vI (bI (97 ≤ sg T n p ∧ sg T n p ≤ 122))]) := bk_X12_isLetter_0 hm ⟨f, g, _, m_sign hm hn h, by have := sg_rg (p := p) hT; omega, rfl⟩
theorem m_blanks {σ : St} {f : FI} {g : FL} {M n p e a : Nat} {T : Nat → Int} {F : Int} (hm : Sh12 σ M) (hn : n ≤ 200) (h : MT f M T n p F a) (hr : Run (fun i => T i = 32) n p e) : ∃ f' : FI, Ex mt 1 209 (il σ f g) [vR 12 (some M)] (il σ f' g, []) ∧ MT f' M T n e F a ∧ FM M f f' := by
  obtain ⟨r1, r2, r3, r4⟩ := hr
  have loop : ∀ u i : Nat, i + u = e → p ≤ i → ∀ fi : FI, MT fi M T n i F a → FM M f fi → ∃ f' : FI, A_X12_blanks_0 σ fi g M (il σ f' g, []) ∧ MT f' M T n e F a ∧ FM M f f' := by
    intro u
    induction u with
    | zero =>
      intro i hi hp fi hC hF
      obtain rfl : i = e := hi
      refine ⟨fi, bk_X12_blanks_0 hm ⟨fi, g, _, m_sign hm hn hC, fun _ => rfl, fun y => ?_⟩, hC, hF⟩
      unfold sg at y
      by_cases z : i < n
      · rw [if_neg (by omega)] at y
        exact absurd y (r4 z)
      · rw [if_pos (by omega)] at y
        exact absurd y (by decide)
    | succ u ih =>
      intro i hi hp fi hC hF
      obtain ⟨f', A, G1, G2⟩ := ih (i + 1) (by omega) (by omega) (up2 fi M 2 ((i + 1 : Nat) : Int)) hC.p (hF.up (by omega))
      have s : sg T n i = 32 := by
        unfold sg
        rw [if_neg (by omega)]
        exact r3 i hp (by omega)
      refine ⟨f', bk_X12_blanks_0 hm ⟨fi, g, _, m_sign hm hn hC, fun y => absurd s y, fun _ => ?_⟩, G1, G2⟩
      rw [hC.2.2.1, show (i : Int) + 1 = ((i + 1 : Nat) : Int) by omega]
      exact ⟨by omega, A⟩
  obtain ⟨f', A, G1, G2⟩ := loop (e - p) p (by omega) (Nat.le_refl _) f h FM.rfl'
  exact ⟨f', bk_X12_blanks_e A, G1, G2⟩
theorem m_fails {σ : St} {f : FI} {g : FL} {M n p a q : Nat} {T : Nat → Int} {F k : Int} (hm : Sh12 σ M) (hq : q ≤ 200) (hk : 0 ≤ k ∧ k ≤ 3) (h : MT f M T n p F a) : ∃ f' : FI, Ex mt 0 207 (il σ f g) [vR 12 (some M), vI k, vI (q : Int)] (il σ f' g, []) ∧ MT f' M T n p (flt F q k) a ∧ FM M f f' := by
  obtain ⟨h1, h2, h3, h4, h5⟩ := h
  have C : ∀ v : Int, MT (up2 f M 3 v) M T n p v a := fun v => ⟨by rw [u2_i (by decide)]; exact h1, fun i hi => by rw [u2_a (by omega)]; exact h2 i hi, by rw [u2_i (by decide)]; exact h3, u2_s, by rw [u2_i (by decide)]; exact h5⟩
  unfold flt
  by_cases z : F = 0
  · rw [if_pos z]
    exact ⟨_, bk_X12_fails_0 hm ⟨fun y => absurd (h4.trans z) y, fun _ => ⟨⟨by omega, by omega, by omega⟩, rfl⟩⟩, C _, FM.rfl'.up (by omega)⟩
  · rw [if_neg z]
    refine ⟨up2 f M 3 F, bk_X12_fails_0 hm ⟨fun _ => by rw [h4], fun y => absurd (h4.symm.trans y) z⟩, C _, FM.rfl'.up (by omega)⟩
theorem m_counts {σ : St} {f : FI} {g : FL} {M n p a q : Nat} {T : Nat → Int} {F : Int} (hm : Sh12 σ M) (hq : q ≤ 200) (ha : a ≤ 40) (h : MT f M T n p F a) : ∃ f' : FI, Ex mt 1 215 (il σ f g) [vR 12 (some M), vI (q : Int)] (il σ f' g, []) ∧ MT f' M T n p (if a = 40 then flt F q 3 else F) (a + 1) ∧ FM M f f' := by
  have C : ∀ (fi : FI) (F' : Int), MT fi M T n p F' a → MT (up2 fi M 6 ((a + 1 : Nat) : Int)) M T n p F' (a + 1) := fun fi F' ⟨h1, h2, h3, h4, h5⟩ => ⟨by rw [u2_i (by decide)]; exact h1, fun i hi => by rw [u2_a (by omega)]; exact h2 i hi, by rw [u2_i (by decide)]; exact h3, by rw [u2_i (by decide)]; exact h4, u2_s⟩
  by_cases z : a = 40
  · rw [if_pos z]
    obtain ⟨f1, E, G1, G2⟩ := m_fails (g := g) (k := 3) hm hq (by omega) h
    refine ⟨up2 f1 M 6 ((a + 1 : Nat) : Int), bk_X12_counts_0 hm ⟨fun y => absurd (by rw [h.2.2.2.2]; omega) y, fun _ => ⟨f1, g, E, ?_⟩⟩, C _ _ G1, G2.up (by omega)⟩
    rw [G1.2.2.2.2, show (a : Int) + 1 = ((a + 1 : Nat) : Int) by omega]
    exact ⟨by omega, rfl⟩
  · rw [if_neg z]
    refine ⟨up2 f M 6 ((a + 1 : Nat) : Int), bk_X12_counts_0 hm ⟨fun _ => ?_, fun y => absurd y (by rw [h.2.2.2.2]; omega)⟩, C _ _ h, FM.rfl'.up (by omega)⟩
    rw [h.2.2.2.2, show (a : Int) + 1 = ((a + 1 : Nat) : Int) by omega]
    exact ⟨by omega, rfl⟩
theorem m_field {σ : St} {f : FI} {g : FL} {M n p e a : Nat} {T : Nat → Int} {F : Int} (hm : Sh12 σ M) (hn : n ≤ 200) (hT : ∀ i, i < n → 0 ≤ T i ∧ T i ≤ 255) (h : MT f M T n p F a) (hr : Run (fun i => 97 ≤ T i ∧ T i ≤ 122) n p e) : ∃ f' : FI, Ex mt 0 216 (il σ f g) [vR 12 (some M)] (il σ f' g, [vI (fdv T p (e - p))]) ∧ MT f' M T n (if fdv T p (e - p) = -1 then p else e) F a ∧ FM M f f' := by
  have h' := h
  obtain ⟨h1, h2, h3, h4, h5⟩ := h
  have hr' := hr
  obtain ⟨r1, r2, r3, r4⟩ := hr
  have low : ∀ i, i < n → T i < 128 → f (M + 1) i = T i := fun i hi hl => by
    have := h2 i hi
    omega
  have loop : ∀ r, A_X12_field_41 σ f g M (e : Int) r → ∀ u i : Nat, i + u = e → p ≤ i → A_X12_field_5 σ f g M (i : Int) r := by
    intro r A u
    induction u with
    | zero =>
      intro i hi hp
      obtain rfl : i = e := hi
      refine bk_X12_field_5 hm ?_
      rw [h1, show ((i : Int)).toNat = i from rfl]
      by_cases z : i < n
      · have t := h2 i z
        have nt := r4 z
        exact ⟨fun y => absurd y (by omega), fun _ => ⟨by omega, fun _ => A, fun y1 => ⟨by omega, fun _ => A, fun y2 => absurd ⟨by omega, by omega⟩ nt⟩⟩⟩
      · exact ⟨fun _ => A, fun y => absurd (by omega) y⟩
    | succ u ih =>
      intro i hi hp
      have t := r3 i hp (by omega)
      refine bk_X12_field_5 hm ?_
      rw [h1, show ((i : Int)).toNat = i from rfl, low i (by omega) (by omega), show (i : Int) + 1 = ((i + 1 : Nat) : Int) by omega]
      exact ⟨fun y => absurd y (by omega), fun _ => ⟨by omega, fun y => absurd y (by omega), fun _ => ⟨by omega, fun y => absurd y (by omega), fun _ => ⟨by omega, ih (i + 1) (by omega) (by omega)⟩⟩⟩⟩
  -- the last step
  have fin : ∀ v : Int, v = fdv T p (e - p) → A_X12_field_125 σ f g M ((e - p : Nat) : Int) v (il σ (up2 f M 2 ((if fdv T p (e - p) = -1 then p else e : Nat) : Int)) g, [vI (fdv T p (e - p))]) := fun v hv => by
    refine bk_X12_field_125 hm ?_
    rw [hv, h3]
    by_cases z : fdv T p (e - p) = -1
    · rw [if_pos z, show (p : Int) + 0 = (p : Int) by omega]
      exact ⟨fun y => absurd z y, fun _ => ⟨by omega, rfl⟩⟩
    · rw [if_neg z, show (p : Int) + ((e - p : Nat) : Int) = (e : Int) by omega]
      exact ⟨fun _ => ⟨by omega, rfl⟩, fun y => absurd y z⟩
  have e41 : (e : Int) - (p : Int) = ((e - p : Nat) : Int) := by omega
  refine ⟨up2 f M 2 ((if fdv T p (e - p) = -1 then p else e : Nat) : Int), bk_X12_field_0 hm ?_, h'.p, FM.rfl'.up (by omega)⟩
  rw [h3]
  refine loop _ (bk_X12_field_41 hm ?_) (e - p) p (by omega) (Nat.le_refl _)
  rw [h3, e41, show ((p : Int)).toNat = p from rfl]
  by_cases d1 : e - p = 1
  · have t := r3 p (Nat.le_refl _) (by omega)
    rw [low p (by omega) (by omega)]
    refine ⟨by omega, fun y => absurd (by omega) y, fun _ => ⟨⟨by omega, by omega⟩, bk_X12_field_108 hm ⟨fun y => absurd (by omega) y, fun _ => ⟨fun y => fin _ ?_, fun y => ⟨fun _ => fin _ ?_, fun y => absurd y (by omega)⟩⟩⟩⟩⟩
    · unfold fdv
      rw [if_neg (by omega), if_neg (by omega)]
    · unfold fdv
      rw [if_pos (by omega)]
  · refine ⟨by omega, fun _ => ⟨fun d2 => bk_X12_field_108 hm ⟨fun _ => ⟨fun _ => fin _ ?_, fun _ => fin _ ?_⟩, fun y => absurd y (by omega)⟩, fun d2 => ?_⟩, fun y => absurd y (by omega)⟩
    · unfold fdv
      rw [if_neg (by omega), if_neg (by omega)]
    · unfold fdv
      rw [if_neg (by omega), if_neg (by omega)]
    · have d2' : e - p = 2 := by omega
      have t := r3 p (Nat.le_refl _) (by omega)
      have t1 := r3 (p + 1) (by omega) (by omega)
      rw [low p (by omega) (by omega), show ((p : Int) + 1).toNat = p + 1 by omega, low (p + 1) (by omega) (by omega)]
      refine ⟨by omega, fun c => bk_X12_field_108 hm ⟨fun _ => ⟨fun _ => fin _ ?_, fun y => absurd y (by omega)⟩, fun y => absurd y (by omega)⟩, fun c => ⟨⟨by omega, by omega⟩, fun c2 => bk_X12_field_108 hm ⟨fun _ => ⟨fun _ => fin _ ?_, fun y => absurd y (by omega)⟩, fun y => absurd y (by omega)⟩, fun c2 => bk_X12_field_108 hm ⟨fun _ => ⟨fun _ => fin _ ?_, fun y => absurd y (by omega)⟩, fun y => absurd y (by omega)⟩⟩⟩
      · unfold fdv
        rw [if_neg (by omega), if_neg (by omega)]
      · unfold fdv
        rw [if_neg (by omega), if_neg (by omega)]
      · unfold fdv
        rw [if_neg (by omega), if_pos (by omega)]
