/-! the reader and the model at a place of the text -/
theorem bk_X4_joinOperands_0 {σ : St} {f : FI} {g : FL} {b : Nat} {x1 : Int} {r : St × List Vl} (hs : Sh4 σ b) (h : ((2 ≤ (f (b + 5) 7) → ((-2147483648 ≤ ((f (b + 5) 7) - 1) ∧ ((f (b + 5) 7) - 1) ≤ 2147483647) ∧ (-2147483648 ≤ (((f (b + 5) 7) - 1) - 1) ∧ (((f (b + 5) 7) - 1) - 1) ≤ 2147483647) ∧ (0 ≤ (((f (b + 5) 7) - 1) - 1) ∧ (((f (b + 5) 7) - 1) - 1) < 32) ∧ (0 ≤ ((f (b + 5) 7) - 1) ∧ ((f (b + 5) 7) - 1) < 32)) ∧ (∃ (f4 : FI) (g5 : FL) (v7 : Int), Ex mt 0 128 (il σ (up2 f (b + 5) 7 ((f (b + 5) 7) - 1)) g) [vR 9 (some (b + 6)), vI x1, vI (f (b + 11) (((((f (b + 5) 7) - 1) - 1)).toNat)), vI (f (b + 11) ((((f (b + 5) 7) - 1)).toNat))] ((il σ f4 g5), [vI v7]) ∧ ((0 ≤ (((f (b + 5) 7) - 1) - 1) ∧ (((f (b + 5) 7) - 1) - 1) < 32)) ∧ (r = ((il σ (up2 f4 (b + 11) (((((f (b + 5) 7) - 1) - 1)).toNat) v7) g5), [])))) ∧ (¬ 2 ≤ (f (b + 5) 7) → (r = ((il σ f g), []))))) : Ex mt 1 59 (il σ f g) [vR 4 (some (b + 5)), vI x1] r := Ex.mk mt_59 (show Gx mt 1 cd_X4_joinOperands (il σ f g) b_X4_joinOperands_0 [some (vR 4 (some (b + 5))), some (vI x1)] [] r from (go_loadA rfl (gi_getI (go_pushI rfl (gq_icmp_ge (fun e3 => have h1 := h.1 e3; (go_loadA rfl (go_dupA (gi_getI (go_pushI rfl (go_isub h1.1.1 (gi_putI (go_loadA rfl (gi_getR (Sh4.r2 hs) (go_loadA rfl (gi_getIe u2_s (go_pushI rfl (go_isub h1.1.2.1 (go_loadA rfl (gi_getR (Sh4.r0 hs) (go_loadI rfl (go_loadA rfl (gi_getR (Sh4.r2 hs) (go_loadA rfl (gi_getIe u2_s (go_pushI rfl (go_isub h1.1.2.1 (gi_ialde (inl_ (Sh4.l2 hs) h1.1.2.2.1) (u2_a (by omega)) (go_loadA rfl (gi_getR (Sh4.r2 hs) (go_loadA rfl (gi_getIe u2_s (gi_ialde (inl_ (Sh4.l2 hs) h1.1.2.2.2) (u2_a (by omega)) (Exists.elim h1.2 fun f4 w8 => Exists.elim w8 fun g5 w9 => Exists.elim w9 fun v7 h6 => (go_callV rfl rfl rfl h6.1 (gi_iast (inl_ (Sh4.l2 hs) h6.2.1) (h6.2.2 ▸ gq_retV)))))))))))))))))))))))))))))))) (fun e3 => have h2 := h.2 e3; (h2 ▸ gq_retV)))))))
theorem bk_X4_starOperand_0 {σ : St} {f : FI} {g : FL} {b : Nat} {r : St × List Vl} (hs : Sh4 σ b) (h : (((f (b + 5) 7) ≤ 0 → (r = ((il σ f g), []))) ∧ (¬ (f (b + 5) 7) ≤ 0 → ((-2147483648 ≤ ((f (b + 5) 7) - 1) ∧ ((f (b + 5) 7) - 1) ≤ 2147483647) ∧ (0 ≤ ((f (b + 5) 7) - 1) ∧ ((f (b + 5) 7) - 1) < 32)) ∧ (∃ (f4 : FI) (g5 : FL) (v7 : Int), Ex mt 0 128 (il σ f g) [vR 9 (some (b + 6)), vI 5, vI (f (b + 11) ((((f (b + 5) 7) - 1)).toNat)), vI 0] ((il σ f4 g5), [vI v7]) ∧ ((0 ≤ ((f (b + 5) 7) - 1) ∧ ((f (b + 5) 7) - 1) < 32)) ∧ (r = ((il σ (up2 f4 (b + 11) ((((f (b + 5) 7) - 1)).toNat) v7) g5), [])))))) : Ex mt 1 60 (il σ f g) [vR 4 (some (b + 5))] r := Ex.mk mt_60 (show Gx mt 1 cd_X4_starOperand (il σ f g) b_X4_starOperand_0 [some (vR 4 (some (b + 5)))] [] r from (go_loadA rfl (gi_getI (gq_if_le (fun e3 => have h1 := h.1 e3; (h1 ▸ gq_retV)) (fun e3 => have h2 := h.2 e3; (go_loadA rfl (gi_getR (Sh4.r2 hs) (go_loadA rfl (gi_getI (go_pushI rfl (go_isub h2.1.1 (go_loadA rfl (gi_getR (Sh4.r0 hs) (go_pushI rfl (go_loadA rfl (gi_getR (Sh4.r2 hs) (go_loadA rfl (gi_getI (go_pushI rfl (go_isub h2.1.1 (gi_iald (inl_ (Sh4.l2 hs) h2.1.2) (go_pushI rfl (Exists.elim h2.2 fun f4 w8 => Exists.elim w8 fun g5 w9 => Exists.elim w9 fun v7 h6 => (go_callV rfl rfl rfl h6.1 (gi_iast (inl_ (Sh4.l2 hs) h6.2.1) (go_fall (h6.2.2 ▸ gq_retV)))))))))))))))))))))))))))
theorem bk_X4_pushOperand_0 {σ : St} {f : FI} {g : FL} {b : Nat} {x1 : Int} {x2 : Int} {x3 : Int} {r : St × List Vl} (hs : Sh4 σ b) (h : ((¬ (f (b + 5) 10) = 0 → (r = ((il σ f g), []))) ∧ ((f (b + 5) 10) = 0 → ((32 ≤ (f (b + 5) 7) → (r = ((il σ f g), []))) ∧ (¬ 32 ≤ (f (b + 5) 7) → (∃ (f7 : FI) (g8 : FL) (v10 : Int), Ex mt 0 128 (il σ f g) [vR 9 (some (b + 6)), vI x1, vI x2, vI x3] ((il σ f7 g8), [vI v10]) ∧ ((0 ≤ (f (b + 5) 7) ∧ (f (b + 5) 7) < 32) ∧ (-2147483648 ≤ ((f7 (b + 5) 7) + 1) ∧ ((f7 (b + 5) 7) + 1) ≤ 2147483647)) ∧ (r = ((il σ (up2 (up2 f7 (b + 11) (((f (b + 5) 7)).toNat) v10) (b + 5) 7 ((f7 (b + 5) 7) + 1)) g8), [])))))))) : Ex mt 1 61 (il σ f g) [vR 4 (some (b + 5)), vI x1, vI x2, vI x3] r := Ex.mk mt_61 (show Gx mt 1 cd_X4_pushOperand (il σ f g) b_X4_pushOperand_0 [some (vR 4 (some (b + 5))), some (vI x1), some (vI x2), some (vI x3)] [] r from (go_loadA rfl (gi_getI (gq_if_ne (fun e3 => have h1 := h.1 e3; (h1 ▸ gq_retV)) (fun e3 => have h2 := h.2 e3; (go_loadA rfl (gi_getI (go_pushI rfl (gq_icmp_ge (fun e6 => have h4 := h2.1 e6; (h4 ▸ gq_retV)) (fun e6 => have h5 := h2.2 e6; (go_loadA rfl (gi_getR (Sh4.r2 hs) (go_loadA rfl (gi_getI (go_loadA rfl (gi_getR (Sh4.r0 hs) (go_loadI rfl (go_loadI rfl (go_loadI rfl (Exists.elim h5 fun f7 w11 => Exists.elim w11 fun g8 w12 => Exists.elim w12 fun v10 h9 => (go_callV rfl rfl rfl h9.1 (gi_iast (inl_ (Sh4.l2 hs) h9.2.1.1) (go_loadA rfl (go_dupA (gi_getIe (u2_a (by omega)) (go_pushI rfl (go_iadd h9.2.1.2 (gi_putI (go_fall (h9.2.2 ▸ gq_retV))))))))))))))))))))))))))))))
theorem bk_X4_pushSign_0 {σ : St} {f : FI} {g : FL} {b : Nat} {x1 : Int} {r : St × List Vl} (hs : Sh4 σ b) (h : ((32 ≤ (f (b + 5) 6) → (r = ((il σ f g), []))) ∧ (¬ 32 ≤ (f (b + 5) 6) → ((0 ≤ (f (b + 5) 6) ∧ (f (b + 5) 6) < 32) ∧ (-2147483648 ≤ ((f (b + 5) 6) + 1) ∧ ((f (b + 5) 6) + 1) ≤ 2147483647)) ∧ (r = ((il σ (up2 (up2 f (b + 10) (((f (b + 5) 6)).toNat) x1) (b + 5) 6 ((f (b + 5) 6) + 1)) g), []))))) : Ex mt 0 62 (il σ f g) [vR 4 (some (b + 5)), vI x1] r := Ex.mk mt_62 (show Gx mt 0 cd_X4_pushSign (il σ f g) b_X4_pushSign_0 [some (vR 4 (some (b + 5))), some (vI x1)] [] r from (go_loadA rfl (gi_getI (go_pushI rfl (gq_icmp_ge (fun e3 => have h1 := h.1 e3; (h1 ▸ gq_retV)) (fun e3 => have h2 := h.2 e3; (go_loadA rfl (gi_getR (Sh4.r1 hs) (go_loadA rfl (gi_getI (go_loadI rfl (gi_iast (inl_ (Sh4.l1 hs) h2.1.1) (go_loadA rfl (go_dupA (gi_getIe (u2_a (by omega)) (go_pushI rfl (go_iadd h2.1.2 (gi_putI (go_fall (h2.2 ▸ gq_retV))))))))))))))))))))
theorem bk_X12_node_0 {σ : St} {f : FI} {g : FL} {a : Nat} {x1 : Int} {x2 : Int} {x3 : Int} {r : St × List Vl} (hs : Sh12 σ a) (h : ((¬ (f a 3) = 0 → (r = ((il σ f g), []))) ∧ ((f a 3) = 0 → ((-2147483648 ≤ (300 * (f a 4)) ∧ (300 * (f a 4)) ≤ 2147483647) ∧ (-2147483648 ≤ ((300 * (f a 4)) + (f a 5)) ∧ ((300 * (f a 4)) + (f a 5)) ≤ 2147483647) ∧ (0 ≤ ((300 * (f a 4)) + (f a 5)) ∧ ((300 * (f a 4)) + (f a 5)) < 3600) ∧ (0 ≤ (f a 17) ∧ (f a 17) < 202) ∧ (-2147483648 ≤ ((f a 17) + 1) ∧ ((f a 17) + 1) ≤ 2147483647) ∧ (-2147483648 ≤ ((f a 5) + 1) ∧ ((f a 5) + 1) ≤ 2147483647)) ∧ (r = ((il σ (up2 (up2 (up2 (up2 (up2 (up2 f (a + 2) ((((300 * (f a 4)) + (f a 5))).toNat) x1) (a + 3) ((((300 * (f a 4)) + (f a 5))).toNat) x2) (a + 4) ((((300 * (f a 4)) + (f a 5))).toNat) x3) (a + 8) (((f a 17)).toNat) (f a 5)) a 17 ((f a 17) + 1)) a 5 ((f a 5) + 1)) g), []))))) : Ex mt 0 212 (il σ f g) [vR 12 (some a), vI x1, vI x2, vI x3] r := Ex.mk mt_212 (show Gx mt 0 cd_X12_node (il σ f g) b_X12_node_0 [some (vR 12 (some a)), some (vI x1), some (vI x2), some (vI x3), none] [] r from (go_loadA rfl (gi_getI (gq_if_ne (fun e3 => have h1 := h.1 e3; (h1 ▸ gq_retV)) (fun e3 => have h2 := h.2 e3; (go_pushI rfl (go_loadA rfl (gi_getI (go_imul h2.1.1 (go_loadA rfl (gi_getI (go_iadd h2.1.2.1 (go_stoI rfl rfl (go_loadA rfl (gi_getR (Sh12.r10 hs) (go_loadI rfl (go_loadI rfl (gi_iast (inl_ (Sh12.l10 hs) h2.1.2.2.1) (go_loadA rfl (gi_getR (Sh12.r11 hs) (go_loadI rfl (go_loadI rfl (gi_iast (inl_ (Sh12.l11 hs) h2.1.2.2.1) (go_loadA rfl (gi_getR (Sh12.r12 hs) (go_loadI rfl (go_loadI rfl (gi_iast (inl_ (Sh12.l12 hs) h2.1.2.2.1) (go_loadA rfl (gi_getR (Sh12.r16 hs) (go_loadA rfl (gi_getIe (Eq.trans (u2_a (by omega)) (Eq.trans (u2_a (by omega)) (u2_a (by omega)))) (go_loadA rfl (gi_getIe (Eq.trans (u2_a (by omega)) (Eq.trans (u2_a (by omega)) (u2_a (by omega)))) (gi_iast (inl_ (Sh12.l16 hs) h2.1.2.2.2.1) (go_loadA rfl (go_dupA (gi_getIe (Eq.trans (u2_a (by omega)) (Eq.trans (u2_a (by omega)) (Eq.trans (u2_a (by omega)) (u2_a (by omega))))) (go_pushI rfl (go_iadd h2.1.2.2.2.2.1 (gi_putI (go_loadA rfl (go_dupA (gi_getIe (Eq.trans (u2_i (by decide)) (Eq.trans (u2_a (by omega)) (Eq.trans (u2_a (by omega)) (Eq.trans (u2_a (by omega)) (u2_a (by omega)))))) (go_pushI rfl (go_iadd h2.1.2.2.2.2.2 (gi_putI (go_fall (h2.2 ▸ gq_retV)))))))))))))))))))))))))))))))))))))))))))))))))
theorem bk_X12_join_0 {σ : St} {f : FI} {g : FL} {a : Nat} {x1 : Int} {r : St × List Vl} (hs : Sh12 σ a) (h : ((¬ (f a 3) = 0 → (r = ((il σ f g), []))) ∧ ((f a 3) = 0 → ((-2147483648 ≤ ((f a 17) - 2) ∧ ((f a 17) - 2) ≤ 2147483647) ∧ (0 ≤ ((f a 17) - 2) ∧ ((f a 17) - 2) < 202) ∧ (-2147483648 ≤ (((f a 17) - 2) + 1) ∧ (((f a 17) - 2) + 1) ≤ 2147483647) ∧ (0 ≤ (((f a 17) - 2) + 1) ∧ (((f a 17) - 2) + 1) < 202)) ∧ (∃ (f4 : FI) (g5 : FL), Ex mt 0 212 (il σ (up2 f a 17 ((f a 17) - 2)) g) [vR 12 (some a), vI x1, vI (f (a + 8) ((((f a 17) - 2)).toNat)), vI (f (a + 8) (((((f a 17) - 2) + 1)).toNat))] ((il σ f4 g5), []) ∧ (r = ((il σ f4 g5), [])))))) : Ex mt 1 213 (il σ f g) [vR 12 (some a), vI x1] r := Ex.mk mt_213 (show Gx mt 1 cd_X12_join (il σ f g) b_X12_join_0 [some (vR 12 (some a)), some (vI x1)] [] r from (go_loadA rfl (gi_getI (gq_if_ne (fun e3 => have h1 := h.1 e3; (h1 ▸ gq_retV)) (fun e3 => have h2 := h.2 e3; (go_loadA rfl (go_dupA (gi_getI (go_pushI rfl (go_isub h2.1.1 (gi_putI (go_loadA rfl (go_loadI rfl (go_loadA rfl (gi_getR (Sh12.r16 hs) (go_loadA rfl (gi_getIe u2_s (gi_ialde (inl_ (Sh12.l16 hs) h2.1.2.1) (u2_a (by omega)) (go_loadA rfl (gi_getR (Sh12.r16 hs) (go_loadA rfl (gi_getIe u2_s (go_pushI rfl (go_iadd h2.1.2.2.1 (gi_ialde (inl_ (Sh12.l16 hs) h2.1.2.2.2) (u2_a (by omega)) (Exists.elim h2.2 fun f4 w7 => Exists.elim w7 fun g5 h6 => (go_callV rfl rfl rfl h6.1 (go_fall (h6.2 ▸ gq_retV)))))))))))))))))))))))))))))
theorem bk_X12_top_0 {σ : St} {f : FI} {g : FL} {a : Nat} {r : St × List Vl} (hs : Sh12 σ a) (h : ((¬ (f a 8) = 0 → ((-2147483648 ≤ ((f a 8) - 1) ∧ ((f a 8) - 1) ≤ 2147483647) ∧ (0 ≤ ((f a 8) - 1) ∧ ((f a 8) - 1) < 202)) ∧ (r = ((il σ f g), [vI (f (a + 7) ((((f a 8) - 1)).toNat))]))) ∧ ((f a 8) = 0 → (r = ((il σ f g), [vI (-1)]))))) : Ex mt 0 214 (il σ f g) [vR 12 (some a)] r := Ex.mk mt_214 (show Gx mt 0 cd_X12_top (il σ f g) b_X12_top_0 [some (vR 12 (some a))] [] r from (go_loadA rfl (gi_getI (gq_if_ne (fun e3 => have h1 := h.1 e3; (go_loadA rfl (gi_getR (Sh12.r15 hs) (go_loadA rfl (gi_getI (go_pushI rfl (go_isub h1.1.1 (gi_iald (inl_ (Sh12.l15 hs) h1.1.2) (go_fall (h1.2 ▸ gq_retI)))))))))) (fun e3 => have h2 := h.2 e3; (go_pushI rfl (go_goto (h2 ▸ gq_retI))))))))
def A_X12_makes_0 (σ : St) (f : FI) (g : FL) (a : Nat) (x1 : Int) (r : St × List Vl) : Prop := Gx mt 2 cd_X12_makes (il σ f g) (cd_X12_makes 0) [some (vR 12 (some a)), some (vI x1)] [] r
theorem bk_X12_makes_0 {σ : St} {f : FI} {g : FL} {a : Nat} {x1 : Int} {r : St × List Vl} (hs : Sh12 σ a) (h : (∃ (f1 : FI) (g2 : FL) (v4 : Int), Ex mt 0 214 (il σ f g) [vR 12 (some a)] ((il σ f1 g2), [vI v4]) ∧ ((¬ v4 = x1 → (r = ((il σ f1 g2), []))) ∧ (v4 = x1 → (∃ (f8 : FI) (g9 : FL), Ex mt 1 213 (il σ f1 g2) [vR 12 (some a), vI x1] ((il σ f8 g9), []) ∧ ((-2147483648 ≤ ((f8 a 8) - 1) ∧ ((f8 a 8) - 1) ≤ 2147483647)) ∧ (A_X12_makes_0 σ (up2 f8 a 8 ((f8 a 8) - 1)) g9 a x1 r)))))) : A_X12_makes_0 σ f g a x1 r := (show Gx mt 2 cd_X12_makes (il σ f g) b_X12_makes_0 [some (vR 12 (some a)), some (vI x1)] [] r from (go_loadA rfl (Exists.elim h fun f1 w12 => Exists.elim w12 fun g2 w13 => Exists.elim w13 fun v4 h3 => (go_callV rfl rfl rfl h3.1 (go_loadI rfl (gq_icmp_ne (fun e7 => have h5 := h3.2.1 e7; (h5 ▸ gq_retV)) (fun e7 => have h6 := h3.2.2 e7; (go_loadA rfl (go_loadI rfl (Exists.elim h6 fun f8 w11 => Exists.elim w11 fun g9 h10 => (go_callV rfl rfl rfl h10.1 (go_loadA rfl (go_dupA (gi_getI (go_pushI rfl (go_isub h10.2.1 (gi_putI (go_goto (h10.2.2)))))))))))))))))))
theorem bk_X12_makes_e {σ : St} {f : FI} {g : FL} {a : Nat} {x1 : Int} {r : St × List Vl} (h : A_X12_makes_0 σ f g a x1 r) : Ex mt 2 220 (il σ f g) [vR 12 (some a), vI x1] r := Ex.mk mt_220 h
def upF (K : FN) (N : Nat) (v : Int) : FN := fun j => if j = N then v else K j
theorem upF_at {K : FN} {N : Nat} {v : Int} : upF K N v N = v := if_pos rfl
theorem upF_ne {K : FN} {N j : Nat} {v : Int} (h : j ≠ N) : upF K N v j = K j := if_neg h
def FCr (B : Nat) (f f' : FI) : Prop := ∀ c j, (c < B + 5 ∨ B + 11 < c) → f' c j = f c j
theorem FCr.tr {B : Nat} {f f1 f2 : FI} (h : FCr B f f1) (h2 : FCr B f1 f2) : FCr B f f2 := fun c j hc => (h2 c j hc).trans (h c j hc)
theorem FCr.rfl' {B : Nat} {f : FI} : FCr B f f := fun _ _ _ => rfl
theorem FCr.up {B c j : Nat} {f f1 : FI} {v : Int} (h : FCr B f f1) (hc : B + 5 ≤ c ∧ c ≤ B + 11) : FCr B f (up2 f1 c j v) := fun b i hb => by
  rw [u2_a (by omega)]
  exact h b i hb
theorem FC.r {B : Nat} {f f' : FI} (h : FC B f f') : FCr B f f' := fun c j hc => h c j (by omega)
def FMr (M w : Nat) (f f' : FI) : Prop := ∀ c j, ¬ (c = M ∧ (j = 2 ∨ j = 3 ∨ (5 ≤ j ∧ j ≤ 8) ∨ j = 17 ∨ j = 18)) → ¬ ((M + 2 ≤ c ∧ c ≤ M + 4) ∧ 300 * w ≤ j) → c ≠ M + 7 → c ≠ M + 8 → f' c j = f c j
theorem FMr.tr {M w : Nat} {f f1 f2 : FI} (h : FMr M w f f1) (h2 : FMr M w f1 f2) : FMr M w f f2 := fun c j h1 h3 h4 h5 => (h2 c j h1 h3 h4 h5).trans (h c j h1 h3 h4 h5)
theorem FMr.rfl' {M w : Nat} {f : FI} : FMr M w f f := fun _ _ _ _ _ _ => rfl
theorem FMr.up {M w c j : Nat} {f f1 : FI} {v : Int} (h : FMr M w f f1) (hc : (c = M ∧ (j = 2 ∨ j = 3 ∨ (5 ≤ j ∧ j ≤ 8) ∨ j = 17 ∨ j = 18)) ∨ ((M + 2 ≤ c ∧ c ≤ M + 4) ∧ 300 * w ≤ j) ∨ c = M + 7 ∨ c = M + 8) : FMr M w f (up2 f1 c j v) := fun b i h1 h3 h4 h5 => by
  unfold up2
  rw [if_neg (by omega)]
  exact h b i h1 h3 h4 h5
theorem FM.r {M w : Nat} {f f' : FI} (h : FM M f f') : FMr M w f f' := fun c j h1 _ _ _ => h c j (by omega)
def RC (f : FI) (B : Nat) (T : Nat → Int) (n p : Nat) (F : Int) (a d k m N : Nat) (s : Nat → Int) (o : Nat → Nat) (K L R : FN) : Prop := CT f B T n p F a ∧ (f (B + 5) 6 = (k : Int) ∧ f (B + 5) 7 = (m : Int) ∧ f (B + 5) 8 = (d : Int) ∧ f (B + 5) 11 = 0) ∧ (∀ i, i < k → f (B + 10) i = s i) ∧ (∀ i, i < m → f (B + 11) i = (o i : Int)) ∧ f (B + 6) 3 = (N : Int) ∧ Hld f (B + 6) N K L R
theorem RC.fc {f f' : FI} {B n p p' a a' d k m N : Nat} {T : Nat → Int} {F F' : Int} {s : Nat → Int} {o : Nat → Nat} {K L R : FN} (h : RC f B T n p F a d k m N s o K L R) (e : FC B f f') (c : CT f' B T n p' F' a') : RC f' B T n p' F' a' d k m N s o K L R := by
  obtain ⟨_, ⟨h1, h2, h3, h4⟩, h5, h6, h7, h8⟩ := h
  refine ⟨c, ⟨(e _ _ (by omega)).trans h1, (e _ _ (by omega)).trans h2, (e _ _ (by omega)).trans h3, (e _ _ (by omega)).trans h4⟩, fun i hi => (e _ _ (by omega)).trans (h5 i hi), fun i hi => (e _ _ (by omega)).trans (h6 i hi), (e _ _ (by omega)).trans h7, fun i hi => ?_⟩
  obtain ⟨a1, a2, a3⟩ := h8 i hi
  exact ⟨(e _ _ (by omega)).trans a1, (e _ _ (by omega)).trans a2, (e _ _ (by omega)).trans a3⟩
def cdM (x : Int) : Int := if x = 40 then 8 else if x = 43 then 6 else 7
def RM (f : FI) (M w : Nat) (T : Nat → Int) (n p : Nat) (F : Int) (a d k m N : Nat) (s : Nat → Int) (o : Nat → Nat) (K L R : FN) : Prop := MT f M T n p F a ∧ (f M 4 = (w : Int) ∧ f M 5 = (N : Int) ∧ f M 7 = (d : Int) ∧ f M 8 = (k : Int) ∧ f M 17 = (m : Int) ∧ f M 18 = 0) ∧ (∀ i, i < k → f (M + 7) i = cdM (s i)) ∧ (∀ i, i < m → f (M + 8) i = (o i : Int)) ∧ ∀ i, i < N → f (M + 2) (300 * w + i) = swp (K i) ∧ f (M + 3) (300 * w + i) = L i ∧ f (M + 4) (300 * w + i) = R i
theorem RM.fm {f f' : FI} {M w n p p' a a' d k m N : Nat} {T : Nat → Int} {F F' : Int} {s : Nat → Int} {o : Nat → Nat} {K L R : FN} (h : RM f M w T n p F a d k m N s o K L R) (e : FM M f f') (c : MT f' M T n p' F' a') : RM f' M w T n p' F' a' d k m N s o K L R := by
  obtain ⟨_, ⟨h1, h2, h3, h4, h5, h6⟩, h7, h8, h9⟩ := h
  refine ⟨c, ⟨(e _ _ (by omega)).trans h1, (e _ _ (by omega)).trans h2, (e _ _ (by omega)).trans h3, (e _ _ (by omega)).trans h4, (e _ _ (by omega)).trans h5, (e _ _ (by omega)).trans h6⟩, fun i hi => (e _ _ (by omega)).trans (h7 i hi), fun i hi => (e _ _ (by omega)).trans (h8 i hi), fun i hi => ?_⟩
  obtain ⟨a1, a2, a3⟩ := h9 i hi
  exact ⟨(e _ _ (by omega)).trans a1, (e _ _ (by omega)).trans a2, (e _ _ (by omega)).trans a3⟩
/-- a node is added to the class's tree -/
def adC (f : FI) (b N : Nat) (k l r : Int) : FI := up2 (up2 (up2 (up2 f (b + 1) N k) (b + 2) N l) (b + 3) N r) b 3 ((N + 1 : Nat) : Int)
theorem l_add {σ : St} {f : FI} {g : FL} {b N : Nat} {k l r : Int} (hs : Sh9 σ b 200) (hN : N < 200) (h3 : f b 3 = (N : Int)) : Ex mt 0 128 (il σ f g) [vR 9 (some b), vI k, vI l, vI r] (il σ (adC f b N k l r) g, [vI (N : Int)]) := by
  refine bk_X9_add_0 hs ?_
  rw [h3, show ((N : Int)).toNat = N from rfl, show (N : Int) + 1 = ((N + 1 : Nat) : Int) by omega, show ((N + 1 : Nat) : Int) - 1 = (N : Int) by omega]
  exact ⟨by decide, fun _ => ⟨⟨by omega, by omega, by omega⟩, rfl⟩, fun y => absurd (by omega) y⟩
theorem adC_oth {f : FI} {b N c j : Nat} {k l r : Int} (h : c < b ∨ b + 3 < c) : adC f b N k l r c j = f c j := by
  unfold adC
  rw [u2_a (by omega), u2_a (by omega), u2_a (by omega), u2_a (by omega)]
theorem adC_h {f : FI} {b N : Nat} {k l r : Int} {K L R : FN} (h : Hld f b N K L R) : Hld (adC f b N k l r) b (N + 1) (upF K N k) (upF L N l) (upF R N r) := fun i hi => by
  unfold adC
  by_cases e : i = N
  · subst e
    rw [upF_at, upF_at, upF_at]
    refine ⟨?_, ?_, ?_⟩
    · rw [u2_a (by omega), u2_a (by omega), u2_a (by omega), u2_s]
    · rw [u2_a (by omega), u2_a (by omega), u2_s]
    · rw [u2_a (by omega), u2_s]
  · obtain ⟨a1, a2, a3⟩ := h i (by omega)
    rw [upF_ne e, upF_ne e, upF_ne e]
    refine ⟨?_, ?_, ?_⟩
    · rw [u2_a (by omega), u2_a (by omega), u2_a (by omega), u2_i e]
      exact a1
    · rw [u2_a (by omega), u2_a (by omega), u2_i e, u2_a (by omega)]
      exact a2
    · rw [u2_a (by omega), u2_i e, u2_a (by omega), u2_a (by omega)]
      exact a3
/-- the class's state when a node was added and stands as the last operand -/
theorem RC.put {f : FI} {B n p a d k m m' N : Nat} {T : Nat → Int} {F : Int} {s : Nat → Int} {o : Nat → Nat} {K L R : FN} {x l r : Int} {f' : FI} (h : RC f B T n p F a d k m' N s o K L R) (hm : m ≤ m') (e : ∀ c j, ¬ (c = B + 5 ∧ j = 7) → ¬ (c = B + 11 ∧ j = m) → f' c j = adC f (B + 6) N x l r c j) (e7 : f' (B + 5) 7 = ((m + 1 : Nat) : Int)) (e11 : f' (B + 11) m = (N : Int)) : RC f' B T n p F a d k (m + 1) (N + 1) s (ups o m N) (upF K N x) (upF L N l) (upF R N r) := by
  obtain ⟨⟨c1, c2, c3, c4, c5⟩, ⟨h1, h2, h3, h4⟩, h5, h6, h7, h8⟩ := h
  have k5 : ∀ j, j ≠ 7 → f' (B + 5) j = f (B + 5) j := fun j hj => by rw [e _ _ (by omega) (by omega), adC_oth (by omega)]
  refine ⟨⟨by rw [k5 _ (by decide)]; exact c1, fun i hi => by rw [e _ _ (by omega) (by omega), adC_oth (by omega)]; exact c2 i hi, by rw [k5 _ (by decide)]; exact c3, by rw [k5 _ (by decide)]; exact c4, by rw [k5 _ (by decide)]; exact c5⟩, ⟨by rw [k5 _ (by decide)]; exact h1, e7, by rw [k5 _ (by decide)]; exact h3, by rw [k5 _ (by decide)]; exact h4⟩, fun i hi => by rw [e _ _ (by omega) (by omega), adC_oth (by omega)]; exact h5 i hi, fun i hi => ?_, ?_, fun i hi => ?_⟩
  · by_cases z : i = m
    · rw [z, e11, ups_at]
    · rw [e _ _ (by omega) (by omega), adC_oth (by omega), ups_ne z]
      exact h6 i (by omega)
  · rw [e _ _ (by omega) (by omega)]
    exact u2_s
  · have := adC_h (k := x) (l := l) (r := r) h8 i hi
    rw [e _ _ (by omega) (by omega), e _ _ (by omega) (by omega), e _ _ (by omega) (by omega)]
    exact this
theorem adC_fr {B N : Nat} {f f1 : FI} {k l r : Int} (h : FCr B f f1) : FCr B f (adC f1 (B + 6) N k l r) := fun c j hc => by
  rw [adC_oth (by omega)]
  exact h c j hc
theorem l_push {σ : St} {f : FI} {g : FL} {B n p a d k m N : Nat} {T : Nat → Int} {s : Nat → Int} {o : Nat → Nat} {K L R : FN} {x l r : Int} (hs : Sh4 σ B) (hm : m < 32) (hN : N < 200) (h : RC f B T n p 0 a d k m N s o K L R) : ∃ f' : FI, Ex mt 1 61 (il σ f g) [vR 4 (some (B + 5)), vI x, vI l, vI r] (il σ f' g, []) ∧ RC f' B T n p 0 a d k (m + 1) (N + 1) s (ups o m N) (upF K N x) (upF L N l) (upF R N r) ∧ FCr B f f' := by
  have E := l_add (σ := σ) (f := f) (g := g) (b := B + 6) (N := N) (k := x) (l := l) (r := r) hs.2.1 hN h.2.2.2.2.1
  have e7 := h.2.1.2.1
  have e10 := h.1.2.2.2.1
  refine ⟨up2 (up2 (adC f (B + 6) N x l r) (B + 11) m (N : Int)) (B + 5) 7 ((m + 1 : Nat) : Int), bk_X4_pushOperand_0 hs ⟨fun y => absurd e10 y, fun _ => ?_⟩, h.put (Nat.le_refl _) (fun c j h1 h2 => ?_) u2_s (by rw [u2_a (by omega), u2_s]), ((adC_fr FCr.rfl').up (by omega)).up (by omega)⟩
  · have e7' : adC f (B + 6) N x l r (B + 5) 7 = (m : Int) := by rw [adC_oth (by omega)]; exact e7
    rw [e7, show ((m : Int)).toNat = m from rfl]
    refine ⟨fun y => absurd y (by omega), fun _ => ⟨_, g, _, E, ?_⟩⟩
    rw [e7', show (m : Int) + 1 = ((m + 1 : Nat) : Int) by omega]
    exact ⟨⟨by omega, by omega⟩, rfl⟩
  · unfold up2
    rw [if_neg h1, if_neg h2]
theorem l_join {σ : St} {f : FI} {g : FL} {B n p a d k m N : Nat} {T : Nat → Int} {F : Int} {s : Nat → Int} {o : Nat → Nat} {K L R : FN} {x : Int} (hs : Sh4 σ B) (hm : m + 2 ≤ 32) (hN : N < 200) (h : RC f B T n p F a d k (m + 2) N s o K L R) : ∃ f' : FI, Ex mt 1 59 (il σ f g) [vR 4 (some (B + 5)), vI x] (il σ f' g, []) ∧ RC f' B T n p F a d k (m + 1) (N + 1) s (ups o m N) (upF K N x) (upF L N (o m : Int)) (upF R N (o (m + 1) : Int)) ∧ FCr B f f' := by
  have e7 := h.2.1.2.1
  have o0 := h.2.2.2.1 m (by omega)
  have o1 := h.2.2.2.1 (m + 1) (by omega)
  have E := l_add (σ := σ) (f := up2 f (B + 5) 7 ((m + 1 : Nat) : Int)) (g := g) (b := B + 6) (N := N) (k := x) (l := (o m : Int)) (r := (o (m + 1) : Int)) hs.2.1 hN (by rw [u2_a (by omega)]; exact h.2.2.2.2.1)
  have sw : ∀ c j, ¬ (c = B + 5 ∧ j = 7) → adC (up2 f (B + 5) 7 ((m + 1 : Nat) : Int)) (B + 6) N x (o m : Int) (o (m + 1) : Int) c j = adC f (B + 6) N x (o m : Int) (o (m + 1) : Int) c j := fun c j hc => by
    unfold adC up2
    rw [if_neg hc]
  refine ⟨up2 (adC (up2 f (B + 5) 7 ((m + 1 : Nat) : Int)) (B + 6) N x (o m : Int) (o (m + 1) : Int)) (B + 11) m (N : Int), bk_X4_joinOperands_0 hs ⟨fun _ => ?_, fun y => absurd (by rw [e7]; omega) y⟩, h.put (by omega) (fun c j h1 h2 => ?_) (by rw [u2_a (by omega), adC_oth (by omega), u2_s]) u2_s, (adC_fr (FCr.rfl'.up (by omega))).up (by omega)⟩
  · rw [e7, show ((m + 2 : Nat) : Int) - 1 = ((m + 1 : Nat) : Int) by omega, show ((m + 1 : Nat) : Int) - 1 = (m : Int) by omega, show ((m : Int)).toNat = m from rfl, show (((m + 1 : Nat) : Int)).toNat = m + 1 from rfl, o0, o1]
    exact ⟨⟨by omega, by omega, by omega, by omega⟩, _, g, _, E, by omega, rfl⟩
  · rw [← sw c j h1]
    unfold up2
    rw [if_neg h2]
theorem l_star {σ : St} {f : FI} {g : FL} {B n p a d k m N : Nat} {T : Nat → Int} {F : Int} {s : Nat → Int} {o : Nat → Nat} {K L R : FN} (hs : Sh4 σ B) (hm : m + 1 ≤ 32) (hN : N < 200) (h : RC f B T n p F a d k (m + 1) N s o K L R) : ∃ f' : FI, Ex mt 1 60 (il σ f g) [vR 4 (some (B + 5))] (il σ f' g, []) ∧ RC f' B T n p F a d k (m + 1) (N + 1) s (ups o m N) (upF K N 5) (upF L N (o m : Int)) (upF R N 0) ∧ FCr B f f' := by
  have e7 := h.2.1.2.1
  have o0 := h.2.2.2.1 m (by omega)
  have E := l_add (σ := σ) (f := f) (g := g) (b := B + 6) (N := N) (k := 5) (l := (o m : Int)) (r := 0) hs.2.1 hN h.2.2.2.2.1
  refine ⟨up2 (adC f (B + 6) N 5 (o m : Int) 0) (B + 11) m (N : Int), bk_X4_starOperand_0 hs ⟨fun y => absurd y (by rw [e7]; omega), fun _ => ?_⟩, h.put (by omega) (fun c j h1 h2 => ?_) (by rw [u2_a (by omega), adC_oth (by omega)]; exact e7) u2_s, (adC_fr FCr.rfl').up (by omega)⟩
  · rw [e7, show ((m + 1 : Nat) : Int) - 1 = (m : Int) by omega, show ((m : Int)).toNat = m from rfl, o0]
    exact ⟨⟨by omega, by omega⟩, _, g, _, E, by omega, rfl⟩
  · unfold up2
    rw [if_neg h2]
def upS (s : Nat → Int) (k : Nat) (x : Int) : Nat → Int := fun j => if j = k then x else s j
theorem upS_at {s : Nat → Int} {k : Nat} {x : Int} : upS s k x k = x := if_pos rfl
theorem upS_ne {s : Nat → Int} {k j : Nat} {x : Int} (h : j ≠ k) : upS s k x j = s j := if_neg h
theorem l_psign {σ : St} {f : FI} {g : FL} {B n p a d k m N : Nat} {T : Nat → Int} {F : Int} {s : Nat → Int} {o : Nat → Nat} {K L R : FN} {x : Int} (hs : Sh4 σ B) (hk : k < 32) (h : RC f B T n p F a d k m N s o K L R) : ∃ f' : FI, Ex mt 0 62 (il σ f g) [vR 4 (some (B + 5)), vI x] (il σ f' g, []) ∧ RC f' B T n p F a d (k + 1) m N (upS s k x) o K L R ∧ FCr B f f' := by
  have h' := h
  obtain ⟨⟨c1, c2, c3, c4, c5⟩, ⟨h1, h2, h3, h4⟩, h5, h6, h7, h8⟩ := h
  refine ⟨up2 (up2 f (B + 10) k x) (B + 5) 6 ((k + 1 : Nat) : Int), bk_X4_pushSign_0 hs ?_, ⟨⟨by rw [u2_i (by decide), u2_a (by omega)]; exact c1, fun i hi => by rw [u2_a (by omega), u2_a (by omega)]; exact c2 i hi, by rw [u2_i (by decide), u2_a (by omega)]; exact c3, by rw [u2_i (by decide), u2_a (by omega)]; exact c4, by rw [u2_i (by decide), u2_a (by omega)]; exact c5⟩, ⟨u2_s, by rw [u2_i (by decide), u2_a (by omega)]; exact h2, by rw [u2_i (by decide), u2_a (by omega)]; exact h3, by rw [u2_i (by decide), u2_a (by omega)]; exact h4⟩, fun i hi => ?_, fun i hi => by rw [u2_a (by omega), u2_a (by omega)]; exact h6 i hi, by rw [u2_a (by omega), u2_a (by omega)]; exact h7, fun i hi => by rw [u2_a (by omega), u2_a (by omega), u2_a (by omega), u2_a (by omega), u2_a (by omega), u2_a (by omega)]; exact h8 i hi⟩, (FCr.rfl'.up (by omega)).up (by omega)⟩
  · rw [h1, show ((k : Int)).toNat = k from rfl, show (k : Int) + 1 = ((k + 1 : Nat) : Int) by omega]
    exact ⟨fun y => absurd y (by omega), fun _ => ⟨⟨by omega, by omega⟩, rfl⟩⟩
  · rw [u2_a (by omega)]
    by_cases z : i = k
    · rw [z, u2_s, upS_at]
    · rw [u2_i z, upS_ne z]
      exact h5 i (by omega)
/-- the model's node -/
theorem m_node {σ : St} {f : FI} {g : FL} {M w n p a d k m N : Nat} {T : Nat → Int} {s : Nat → Int} {o : Nat → Nat} {K L R : FN} {x l r : Int} (hm : Sh12 σ M) (hw : w < 12) (hmm : m < 202) (hN : N < 300) (h : RM f M w T n p 0 a d k m N s o K L R) : ∃ f' : FI, Ex mt 0 212 (il σ f g) [vR 12 (some M), vI (swp x), vI l, vI r] (il σ f' g, []) ∧ RM f' M w T n p 0 a d k (m + 1) (N + 1) s (ups o m N) (upF K N x) (upF L N l) (upF R N r) ∧ FMr M w f f' := by
  obtain ⟨⟨c1, c2, c3, c4, c5⟩, ⟨h1, h2, h3, h4, h5, h6⟩, h7, h8, h9⟩ := h
  obtain ⟨f', hf⟩ : ∃ y : FI, y = up2 (up2 (up2 (up2 (up2 (up2 f (M + 2) (300 * w + N) (swp x)) (M + 3) (300 * w + N) l) (M + 4) (300 * w + N) r) (M + 8) m (N : Int)) M 17 ((m + 1 : Nat) : Int)) M 5 ((N + 1 : Nat) : Int) := ⟨_, rfl⟩
  have kM : ∀ j, j ≠ 17 → j ≠ 5 → f' M j = f M j := fun j a1 a2 => by rw [hf, u2_i a2, u2_i a1, u2_a (by omega), u2_a (by omega), u2_a (by omega), u2_a (by omega)]
  have ko : ∀ c j, c ≠ M → c ≠ M + 2 → c ≠ M + 3 → c ≠ M + 4 → c ≠ M + 8 → f' c j = f c j := fun c j a1 a2 a3 a4 a5 => by rw [hf, u2_a a1, u2_a a1, u2_a a5, u2_a a4, u2_a a3, u2_a a2]
  have y2 : ∀ j, f' (M + 2) j = if j = 300 * w + N then swp x else f (M + 2) j := fun j => by
    rw [hf, u2_a (by omega), u2_a (by omega), u2_a (by omega), u2_a (by omega), u2_a (by omega)]
    by_cases z : j = 300 * w + N
    · rw [if_pos z, z, u2_s]
    · rw [if_neg z, u2_i z]
  have y3 : ∀ j, f' (M + 3) j = if j = 300 * w + N then l else f (M + 3) j := fun j => by
    rw [hf, u2_a (by omega), u2_a (by omega), u2_a (by omega), u2_a (by omega)]
    by_cases z : j = 300 * w + N
    · rw [if_pos z, z, u2_s]
    · rw [if_neg z, u2_i z, u2_a (by omega)]
  have y4 : ∀ j, f' (M + 4) j = if j = 300 * w + N then r else f (M + 4) j := fun j => by
    rw [hf, u2_a (by omega), u2_a (by omega), u2_a (by omega)]
    by_cases z : j = 300 * w + N
    · rw [if_pos z, z, u2_s]
    · rw [if_neg z, u2_i z, u2_a (by omega), u2_a (by omega)]
  refine ⟨f', bk_X12_node_0 hm ⟨fun y => absurd c4 y, fun _ => ?_⟩, ⟨⟨by rw [kM _ (by decide) (by decide)]; exact c1, fun i hi => by rw [ko _ _ (by omega) (by omega) (by omega) (by omega) (by omega)]; exact c2 i hi, by rw [kM _ (by decide) (by decide)]; exact c3, by rw [kM _ (by decide) (by decide)]; exact c4, by rw [kM _ (by decide) (by decide)]; exact c5⟩, ⟨by rw [kM _ (by decide) (by decide)]; exact h1, by rw [hf, u2_s], by rw [kM _ (by decide) (by decide)]; exact h3, by rw [kM _ (by decide) (by decide)]; exact h4, by rw [hf, u2_i (by decide), u2_s], by rw [kM _ (by decide) (by decide)]; exact h6⟩, fun i hi => by rw [ko _ _ (by omega) (by omega) (by omega) (by omega) (by omega)]; exact h7 i hi, fun i hi => ?_, fun i hi => ?_⟩, ?_⟩
  · rw [h1, h2, h5, show (300 * (w : Int) + (N : Int)).toNat = 300 * w + N by omega, show ((m : Int)).toNat = m from rfl, show (m : Int) + 1 = ((m + 1 : Nat) : Int) by omega, show (N : Int) + 1 = ((N + 1 : Nat) : Int) by omega, hf]
    exact ⟨⟨by omega, by omega, by omega, by omega, by omega, by omega⟩, rfl⟩
  · rw [hf, u2_a (by omega), u2_a (by omega)]
    by_cases z : i = m
    · rw [z, u2_s, ups_at]
    · rw [u2_i z, u2_a (by omega), u2_a (by omega), u2_a (by omega), ups_ne z]
      exact h8 i (by omega)
  · by_cases z : i = N
    · rw [z, upF_at, upF_at, upF_at, y2, y3, y4, if_pos rfl, if_pos rfl, if_pos rfl]
      exact ⟨rfl, rfl, rfl⟩
    · rw [y2, y3, y4, if_neg (by omega), if_neg (by omega), if_neg (by omega), upF_ne z, upF_ne z, upF_ne z]
      exact h9 i (by omega)
  · rw [hf]
    exact (((((FMr.rfl'.up (by omega)).up (by omega)).up (by omega)).up (by omega)).up (by omega)).up (by omega)
theorem RM.cut {f : FI} {M w n p a d k m m' N : Nat} {T : Nat → Int} {F : Int} {s : Nat → Int} {o : Nat → Nat} {K L R : FN} (h : RM f M w T n p F a d k m N s o K L R) (hm : m' ≤ m) : RM (up2 f M 17 (m' : Int)) M w T n p F a d k m' N s o K L R := by
  obtain ⟨⟨c1, c2, c3, c4, c5⟩, ⟨h1, h2, h3, h4, h5, h6⟩, h7, h8, h9⟩ := h
  refine ⟨⟨by rw [u2_i (by decide)]; exact c1, fun i hi => by rw [u2_a (by omega)]; exact c2 i hi, by rw [u2_i (by decide)]; exact c3, by rw [u2_i (by decide)]; exact c4, by rw [u2_i (by decide)]; exact c5⟩, ⟨by rw [u2_i (by decide)]; exact h1, by rw [u2_i (by decide)]; exact h2, by rw [u2_i (by decide)]; exact h3, by rw [u2_i (by decide)]; exact h4, u2_s, by rw [u2_i (by decide)]; exact h6⟩, fun i hi => by rw [u2_a (by omega)]; exact h7 i hi, fun i hi => by rw [u2_a (by omega)]; exact h8 i (by omega), fun i hi => by rw [u2_a (by omega), u2_a (by omega), u2_a (by omega)]; exact h9 i hi⟩
theorem m_join {σ : St} {f : FI} {g : FL} {M w n p a d k m N : Nat} {T : Nat → Int} {s : Nat → Int} {o : Nat → Nat} {K L R : FN} {x : Int} (hm : Sh12 σ M) (hw : w < 12) (hmm : m + 2 < 202) (hN : N < 300) (h : RM f M w T n p 0 a d k (m + 2) N s o K L R) : ∃ f' : FI, Ex mt 1 213 (il σ f g) [vR 12 (some M), vI (swp x)] (il σ f' g, []) ∧ RM f' M w T n p 0 a d k (m + 1) (N + 1) s (ups o m N) (upF K N x) (upF L N (o m : Int)) (upF R N (o (m + 1) : Int)) ∧ FMr M w f f' := by
  obtain ⟨f', E, G1, G2⟩ := m_node (g := g) (x := x) (l := (o m : Int)) (r := (o (m + 1) : Int)) hm hw (by omega) hN (h.cut (show m ≤ m + 2 by omega))
  have e17 := h.2.1.2.2.2.2.1
  refine ⟨f', bk_X12_join_0 hm ⟨fun y => absurd h.1.2.2.2.1 y, fun _ => ?_⟩, G1, (FMr.rfl'.up (by omega)).tr G2⟩
  rw [e17, show ((m + 2 : Nat) : Int) - 2 = (m : Int) by omega, show ((m : Int)).toNat = m from rfl, show ((m : Int) + 1).toNat = m + 1 by omega, h.2.2.2.1 m (by omega), h.2.2.2.1 (m + 1) (by omega)]
  exact ⟨⟨by omega, by omega, by omega, by omega⟩, f', g, E, rfl⟩
theorem m_top {σ : St} {f : FI} {g : FL} {M w n p a d k m N : Nat} {T : Nat → Int} {F : Int} {s : Nat → Int} {o : Nat → Nat} {K L R : FN} (hm : Sh12 σ M) (hk : k < 202) (h : RM f M w T n p F a d k m N s o K L R) : Ex mt 0 214 (il σ f g) [vR 12 (some M)] (il σ f g, [vI (if k = 0 then -1 else cdM (s (k - 1)))]) := by
  have e8 := h.2.1.2.2.2.1
  refine bk_X12_top_0 hm ?_
  rw [e8]
  by_cases z : k = 0
  · rw [if_pos z]
    exact ⟨fun y => absurd (by omega) y, fun _ => rfl⟩
  · rw [if_neg z, show ((k : Int) - 1).toNat = k - 1 by omega, h.2.2.1 (k - 1) (by omega)]
    exact ⟨fun _ => ⟨⟨by omega, by omega⟩, rfl⟩, fun y => absurd y (by omega)⟩
