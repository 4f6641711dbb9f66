/-! neither -/
theorem bk_X5_isNeither_0 {σ : St} {f : FI} {g : FL} {n : Nat} {x1 : Int} {x2 : Int} {r : St × List Vl} (hs : Sh5 σ n) (h : ((0 ≤ x1 ∧ x1 < 512)) ∧ ((x2 = (f (n + 106) ((x1).toNat)) → (r = ((il σ f g), [vI 0]))) ∧ (¬ x2 = (f (n + 106) ((x1).toNat)) → ((0 ≤ x1 ∧ x1 < 512)) ∧ ((x2 = (f (n + 107) ((x1).toNat)) → (r = ((il σ f g), [vI 0]))) ∧ (¬ x2 = (f (n + 107) ((x1).toNat)) → (r = ((il σ f g), [vI 1]))))))) : Ex mt 0 76 (il σ f g) [vR 5 (some (n + 101)), vI x1, vI x2] r := Ex.mk mt_76 (show Gx mt 0 cd_X5_isNeither (il σ f g) b_X5_isNeither_0 [some (vR 5 (some (n + 101))), some (vI x1), some (vI x2)] [] r from (go_loadI rfl (go_loadA rfl (gi_getR (Sh5.r6 hs) (go_loadI rfl (gi_iald (inl_ (Sh5.l6 hs) h.1) (gq_icmp_eq (fun e3 => have h1 := h.2.1 e3; (go_pushI rfl (go_fall (h1 ▸ (gq_retZ ⟨by decide, by decide⟩))))) (fun e3 => have h2 := h.2.2 e3; (go_loadI rfl (go_loadA rfl (gi_getR (Sh5.r7 hs) (go_loadI rfl (gi_iald (inl_ (Sh5.l7 hs) h2.1) (gq_icmp_eq (fun e6 => have h4 := h2.2.1 e6; (go_pushI rfl (go_fall (h4 ▸ (gq_retZ ⟨by decide, by decide⟩))))) (fun e6 => have h5 := h2.2.2 e6; (go_pushI rfl (go_goto (h5 ▸ (gq_retZ ⟨by decide, by decide⟩)))))))))))))))))))
theorem bk_X12_isNeither_0 {σ : St} {f : FI} {g : FL} {a : Nat} {x1 : Int} {x2 : Int} {r : St × List Vl} (hs : Sh12 σ a) (h : ((0 ≤ x1 ∧ x1 < 512)) ∧ ((x2 = (f (a + 26) ((x1).toNat)) → (r = ((il σ f g), [vI 0]))) ∧ (¬ x2 = (f (a + 26) ((x1).toNat)) → ((0 ≤ x1 ∧ x1 < 512)) ∧ ((x2 = (f (a + 27) ((x1).toNat)) → (r = ((il σ f g), [vI 0]))) ∧ (¬ x2 = (f (a + 27) ((x1).toNat)) → (r = ((il σ f g), [vI 1]))))))) : Ex mt 0 268 (il σ f g) [vR 12 (some a), vI x1, vI x2] r := Ex.mk mt_268 (show Gx mt 0 cd_X12_isNeither (il σ f g) b_X12_isNeither_0 [some (vR 12 (some a)), some (vI x1), some (vI x2)] [] r from (go_loadI rfl (go_loadA rfl (gi_getR (Sh12.r43 hs) (go_loadI rfl (gi_iald (inl_ (Sh12.l43 hs) h.1) (gq_icmp_eq (fun e3 => have h1 := h.2.1 e3; (go_pushI rfl (go_fall (h1 ▸ (gq_retZ ⟨by decide, by decide⟩))))) (fun e3 => have h2 := h.2.2 e3; (go_loadI rfl (go_loadA rfl (gi_getR (Sh12.r44 hs) (go_loadI rfl (gi_iald (inl_ (Sh12.l44 hs) h2.1) (gq_icmp_eq (fun e6 => have h4 := h2.2.1 e6; (go_pushI rfl (go_fall (h4 ▸ (gq_retZ ⟨by decide, by decide⟩))))) (fun e6 => have h5 := h2.2.2 e6; (go_pushI rfl (go_goto (h5 ▸ (gq_retZ ⟨by decide, by decide⟩)))))))))))))))))))
def A_X12_endsByTicks_4 (σ : St) (f : FI) (g : FL) (a : Nat) (x1 : Int) (x2 : Int) (r : St × List Vl) : Prop := Gx mt 5 cd_X12_endsByTicks (il σ f g) (cd_X12_endsByTicks 4) [some (vR 12 (some a)), some (vI x1), some (vI x2)] [] r
def A_X12_endsByTicks_38 (σ : St) (f : FI) (g : FL) (a : Nat) (x1 : Int) (x2 : Int) (r : St × List Vl) : Prop := Gx mt 5 cd_X12_endsByTicks (il σ f g) (cd_X12_endsByTicks 38) [some (vR 12 (some a)), some (vI x1), some (vI x2)] [] r
theorem bk_X12_endsByTicks_0 {σ : St} {f : FI} {g : FL} {a : Nat} {r : St × List Vl} (hs : Sh12 σ a) (h : (A_X12_endsByTicks_4 σ f g a 0 0 r)) : Ex mt 5 308 (il σ f g) [vR 12 (some a)] r := Ex.mk mt_308 (show Gx mt 5 cd_X12_endsByTicks (il σ f g) b_X12_endsByTicks_0 [some (vR 12 (some a)), none, none] [] r from (go_pushI rfl (go_stoI rfl rfl (go_pushI rfl (go_stoI rfl rfl (go_fall (h)))))))
theorem bk_X12_endsByTicks_4 {σ : St} {f : FI} {g : FL} {a : Nat} {x1 : Int} {x2 : Int} {r : St × List Vl} (hs : Sh12 σ a) (h : ((8 ≤ x2 → (A_X12_endsByTicks_38 σ f g a x1 0 r)) ∧ (¬ 8 ≤ x2 → ((0 ≤ x2 ∧ x2 < 8)) ∧ (((f (a + 54) ((x2).toNat)) = (-1) → ((-2147483648 ≤ (x2 + 1) ∧ (x2 + 1) ≤ 2147483647)) ∧ (A_X12_endsByTicks_4 σ f g a (iOr x1 0) (x2 + 1) r)) ∧ (¬ (f (a + 54) ((x2).toNat)) = (-1) → ((0 ≤ x2 ∧ x2 < 31)) ∧ ((-2147483648 ≤ (x2 + 1) ∧ (x2 + 1) ≤ 2147483647)) ∧ (A_X12_endsByTicks_4 σ f g a (iOr x1 (p2 x2)) (x2 + 1) r)))))) : A_X12_endsByTicks_4 σ f g a x1 x2 r := (show Gx mt 5 cd_X12_endsByTicks (il σ f g) b_X12_endsByTicks_4 [some (vR 12 (some a)), some (vI x1), some (vI x2)] [] r from (go_loadI rfl (go_pushI rfl (gq_icmp_ge (fun e3 => have h1 := h.1 e3; (go_pushI rfl (go_stoI rfl rfl (go_fall (h1))))) (fun e3 => have h2 := h.2 e3; (go_loadI rfl (go_loadA rfl (gi_getR (Sh12.r78 hs) (go_loadI rfl (gi_iald (inl_ (Sh12.l78 hs) h2.1) (go_pushI rfl (gq_icmp_eq (fun e6 => have h4 := h2.2.1 e6; (go_pushI rfl (go_fall (go_ior rfl (go_stoI rfl rfl (go_iinc rfl h4.1 rfl (go_goto (h4.2)))))))) (fun e6 => have h5 := h2.2.2 e6; (go_pushI rfl (go_loadI rfl (go_ishl (iShl_1 h5.1) (go_goto (go_ior rfl (go_stoI rfl rfl (go_iinc rfl h5.2.1 rfl (go_goto (h5.2.2))))))))))))))))))))))
theorem bk_X12_endsByTicks_38 {σ : St} {f : FI} {g : FL} {a : Nat} {x1 : Int} {x2 : Int} {r : St × List Vl} (hs : Sh12 σ a) (h : ((512 ≤ x2 → (r = ((il σ f g), []))) ∧ (¬ 512 ≤ x2 → (∃ (f4 : FI) (g5 : FL) (v7 : Int), Ex mt 4 255 (il σ f g) [vR 12 (some a), vI x2, vI 0] ((il σ f4 g5), [vI v7]) ∧ ((0 ≤ x2 ∧ x2 < 512)) ∧ (∃ (f8 : FI) (g9 : FL) (v11 : Int), Ex mt 4 255 (il σ (up2 f4 (a + 26) ((x2).toNat) v7) g5) [vR 12 (some a), vI x2, vI x1] ((il σ f8 g9), [vI v11]) ∧ ((0 ≤ x2 ∧ x2 < 512) ∧ (-2147483648 ≤ (x2 + 1) ∧ (x2 + 1) ≤ 2147483647)) ∧ (A_X12_endsByTicks_38 σ (up2 f8 (a + 27) ((x2).toNat) v11) g9 a x1 (x2 + 1) r)))))) : A_X12_endsByTicks_38 σ f g a x1 x2 r := (show Gx mt 5 cd_X12_endsByTicks (il σ f g) b_X12_endsByTicks_38 [some (vR 12 (some a)), some (vI x1), some (vI x2)] [] r from (go_loadI rfl (go_pushI rfl (gq_icmp_ge (fun e3 => have h1 := h.1 e3; (h1 ▸ gq_retV)) (fun e3 => have h2 := h.2 e3; (go_loadA rfl (gi_getR (Sh12.r43 hs) (go_loadI rfl (go_loadA rfl (go_loadI rfl (go_pushI rfl (Exists.elim h2 fun f4 w14 => Exists.elim w14 fun g5 w15 => Exists.elim w15 fun v7 h6 => (go_callV rfl rfl rfl h6.1 (gi_iast (inl_ (Sh12.l43 hs) h6.2.1) (go_loadA rfl (gi_getR (Sh12.r44 hs) (go_loadI rfl (go_loadA rfl (go_loadI rfl (go_loadI rfl (Exists.elim h6.2.2 fun f8 w12 => Exists.elim w12 fun g9 w13 => Exists.elim w13 fun v11 h10 => (go_callV rfl rfl rfl h10.1 (gi_iast (inl_ (Sh12.l44 hs) h10.2.1.1) (go_iinc rfl h10.2.1.2 rfl (go_goto (h10.2.2))))))))))))))))))))))))))
def A_X5_countNeither_5 (σ : St) (f : FI) (g : FL) (n : Nat) (x1 : Int) (x2 : Int) (x3 : Int) (x4 : Int) (r : St × List Vl) : Prop := ∀ (y5 : Option Vl), Gx mt 4 cd_X5_countNeither (il σ f g) (cd_X5_countNeither 5) [some (vR 5 (some (n + 101))), some (vI x1), some (vI x2), some (vI x3), some (vI x4), y5] [] r
def A_X5_countNeither_70 (σ : St) (f : FI) (g : FL) (n : Nat) (x1 : Int) (x2 : Int) (x4 : Int) (x5 : Int) (r : St × List Vl) : Prop := ∀ (y3 : Int), Gx mt 4 cd_X5_countNeither (il σ f g) (cd_X5_countNeither 70) [some (vR 5 (some (n + 101))), some (vI x1), some (vI x2), some (vI y3), some (vI x4), some (vI x5)] [] r
theorem bk_X5_countNeither_0 {σ : St} {f : FI} {g : FL} {n : Nat} {x1 : Int} {x2 : Int} {r : St × List Vl} (hs : Sh5 σ n) (h : (A_X5_countNeither_5 σ f g n x1 x2 0 0 r)) : Ex mt 4 79 (il σ f g) [vR 5 (some (n + 101)), vI x1, vI x2] r := Ex.mk mt_79 (show Gx mt 4 cd_X5_countNeither (il σ f g) b_X5_countNeither_0 [some (vR 5 (some (n + 101))), some (vI x1), some (vI x2), none, none, none] [] r from (go_pushI rfl (go_stoI rfl rfl (go_pushI rfl (go_stoI rfl rfl (go_fall (h _)))))))
theorem bk_X5_countNeither_5 {σ : St} {f : FI} {g : FL} {n : Nat} {x1 : Int} {x2 : Int} {x3 : Int} {x4 : Int} {r : St × List Vl} (hs : Sh5 σ n) (h : ((8 ≤ x4 → (∃ (f4 : FI) (g5 : FL), Ex mt 3 46 (il σ f g) [vR 3 (some n), vI 0, vR 14 (some (n + 106))] ((il σ f4 g5), []) ∧ (∃ (f7 : FI) (g8 : FL), Ex mt 3 46 (il σ f4 g5) [vR 3 (some n), vI x3, vR 14 (some (n + 107))] ((il σ f7 g8), []) ∧ (A_X5_countNeither_70 σ f7 g8 n x1 x2 0 0 r)))) ∧ (¬ 8 ≤ x4 → ((0 ≤ x4 ∧ x4 < 8)) ∧ ((¬ (f (n + 102) ((x4).toNat)) = (-1) → ((0 ≤ x4 ∧ x4 < 31)) ∧ ((-2147483648 ≤ (x4 + 1) ∧ (x4 + 1) ≤ 2147483647)) ∧ (A_X5_countNeither_5 σ f g n x1 x2 (iOr x3 (p2 x4)) (x4 + 1) r)) ∧ ((f (n + 102) ((x4).toNat)) = (-1) → ((-2147483648 ≤ (x4 + 1) ∧ (x4 + 1) ≤ 2147483647)) ∧ (A_X5_countNeither_5 σ f g n x1 x2 (iOr x3 0) (x4 + 1) r)))))) : A_X5_countNeither_5 σ f g n x1 x2 x3 x4 r := fun y5 => (show Gx mt 4 cd_X5_countNeither (il σ f g) b_X5_countNeither_5 [some (vR 5 (some (n + 101))), some (vI x1), some (vI x2), some (vI x3), some (vI x4), y5] [] r from (go_loadI rfl (go_pushI rfl (gq_icmp_ge (fun e3 => have h1 := h.1 e3; (go_loadA rfl (gi_getR (Sh5.r0 hs) (go_pushI rfl (go_loadA rfl (gi_getR (Sh5.r6 hs) (Exists.elim h1 fun f4 w11 => Exists.elim w11 fun g5 h6 => (go_callV rfl rfl rfl h6.1 (go_loadA rfl (gi_getR (Sh5.r0 hs) (go_loadI rfl (go_loadA rfl (gi_getR (Sh5.r7 hs) (Exists.elim h6.2 fun f7 w10 => Exists.elim w10 fun g8 h9 => (go_callV rfl rfl rfl h9.1 (go_pushI rfl (go_stoI rfl rfl (go_pushI rfl (go_stoI rfl rfl (go_fall (h9.2 _))))))))))))))))))))) (fun e3 => have h2 := h.2 e3; (go_loadI rfl (go_loadA rfl (gi_getR (Sh5.r1 hs) (go_loadI rfl (gi_iald (inl_ (Sh5.l1 hs) h2.1) (go_pushI rfl (gq_icmp_ne (fun e14 => have h12 := h2.2.1 e14; (go_pushI rfl (go_loadI rfl (go_ishl (iShl_1 h12.1) (go_fall (go_ior rfl (go_stoI rfl rfl (go_iinc rfl h12.2.1 rfl (go_goto (h12.2.2 _)))))))))) (fun e14 => have h13 := h2.2.2 e14; (go_pushI rfl (go_goto (go_ior rfl (go_stoI rfl rfl (go_iinc rfl h13.1 rfl (go_goto (h13.2 _))))))))))))))))))))
theorem bk_X5_countNeither_70 {σ : St} {f : FI} {g : FL} {n : Nat} {x1 : Int} {x2 : Int} {x4 : Int} {x5 : Int} {r : St × List Vl} (hs : Sh5 σ n) (h : ((512 ≤ x5 → ((¬ x2 = (-1) → (r = ((il σ f g), [vI (-1)]))) ∧ (x2 = (-1) → (r = ((il σ f g), [vI x4]))))) ∧ (¬ 512 ≤ x5 → ((0 ≤ x5 ∧ x5 < 512) ∧ (0 ≤ f n 2 ∧ f n 2 ≤ 255)) ∧ ((¬ ((hB (f n 2) (x5 / 64))) → ((-2147483648 ≤ (x5 + 1) ∧ (x5 + 1) ≤ 2147483647)) ∧ (A_X5_countNeither_70 σ f g n x1 x2 x4 (x5 + 1) r)) ∧ (((hB (f n 2) (x5 / 64))) → (∃ (f10 : FI) (g11 : FL) (v13 : Int), Ex mt 2 78 (il σ f g) [vR 5 (some (n + 101)), vI x5, vI x1] ((il σ f10 g11), [vI v13]) ∧ (∃ (f14 : FI) (g15 : FL) (v17 : Int), Ex mt 0 76 (il σ f10 g11) [vR 5 (some (n + 101)), vI x5, vI v13] ((il σ f14 g15), [vI v17]) ∧ ((v17 = 0 → ((-2147483648 ≤ (x5 + 1) ∧ (x5 + 1) ≤ 2147483647)) ∧ (A_X5_countNeither_70 σ f14 g15 n x1 x2 x4 (x5 + 1) r)) ∧ (¬ v17 = 0 → ((¬ x4 = x2 → ((-2147483648 ≤ (x4 + 1) ∧ (x4 + 1) ≤ 2147483647)) ∧ ((-2147483648 ≤ (x5 + 1) ∧ (x5 + 1) ≤ 2147483647)) ∧ (A_X5_countNeither_70 σ f14 g15 n x1 x2 (x4 + 1) (x5 + 1) r)) ∧ (x4 = x2 → (r = ((il σ f14 g15), [vI x5]))))))))))))) : A_X5_countNeither_70 σ f g n x1 x2 x4 x5 r := fun y3 => (show Gx mt 4 cd_X5_countNeither (il σ f g) b_X5_countNeither_70 [some (vR 5 (some (n + 101))), some (vI x1), some (vI x2), some (vI y3), some (vI x4), some (vI x5)] [] r from (go_loadI rfl (go_pushI rfl (gq_icmp_ge (fun e3 => have h1 := h.1 e3; (go_loadI rfl (go_pushI rfl (gq_icmp_ne (fun e6 => have h4 := h1.1 e6; (go_pushI rfl (go_fall (h4 ▸ gq_retI)))) (fun e6 => have h5 := h1.2 e6; (go_loadI rfl (go_goto (h5 ▸ gq_retI)))))))) (fun e3 => have h2 := h.2 e3; (go_loadA rfl (gi_getR (Sh5.r0 hs) (go_loadI rfl (go_callV rfl rfl rfl (pu_isEntry (Sh5.o0 hs) h2.1.1 h2.1.2) (go_ifb_eq (fun e9 => have h7 := h2.2.1 e9; (go_iinc rfl h7.1 rfl (go_goto (h7.2 _)))) (fun e9 => have h8 := h2.2.2 e9; (go_loadA rfl (go_loadI rfl (go_loadA rfl (go_loadI rfl (go_loadI rfl (Exists.elim h8 fun f10 w26 => Exists.elim w26 fun g11 w27 => Exists.elim w27 fun v13 h12 => (go_callV rfl rfl rfl h12.1 (Exists.elim h12.2 fun f14 w24 => Exists.elim w24 fun g15 w25 => Exists.elim w25 fun v17 h16 => (go_callV rfl rfl rfl h16.1 (gq_if_eq (fun e20 => have h18 := h16.2.1 e20; (go_iinc rfl h18.1 rfl (go_goto (h18.2 _)))) (fun e20 => have h19 := h16.2.2 e20; (go_loadI rfl (go_loadI rfl (gq_icmp_ne (fun e23 => have h21 := h19.1 e23; (go_iinc rfl h21.1 rfl (go_fall (go_iinc rfl h21.2.1 rfl (go_goto (h21.2.2 _)))))) (fun e23 => have h22 := h19.2 e23; (go_loadI rfl (h22 ▸ gq_retI))))))))))))))))))))))))))))
theorem bk_X11_neither_0 {σ : St} {f : FI} {g : FL} {a : Nat} {x1 : Int} {x2 : Int} {r : St × List Vl} (hs : Sh11 σ a) (h : ((¬ ((0 ≤ x1 ∧ x1 ≤ 999)) → (r = ((il σ f g), [vI (-1)]))) ∧ (((0 ≤ x1 ∧ x1 ≤ 999)) → (((-1) ≤ x2 → (∃ (f7 : FI) (g8 : FL) (v10 : Int), Ex mt 4 79 (il σ f g) [vR 5 (some (a + 144)), vI x1, vI x2] ((il σ f7 g8), [vI v10]) ∧ (r = ((il σ f7 g8), [vI v10])))) ∧ (¬ (-1) ≤ x2 → (r = ((il σ f g), [vI (-1)]))))))) : Ex mt 5 185 (il σ f g) [vR 11 (some a), vI x1, vI x2] r := Ex.mk mt_185 (show Gx mt 5 cd_X11_neither (il σ f g) b_X11_neither_0 [some (vR 11 (some a)), some (vI x1), some (vI x2)] [] r from (go_loadI rfl (go_callS rfl rfl rfl (pu_isTick) (go_ifb_eq (fun e3 => have h1 := h.1 e3; (go_pushI rfl (h1 ▸ gq_retI))) (fun e3 => have h2 := h.2 e3; (go_loadI rfl (go_pushI rfl (gq_icmp_ge (fun e6 => have h4 := h2.1 e6; (go_loadA rfl (gi_getR (Sh11.r10 hs) (go_loadI rfl (go_loadI rfl (Exists.elim h4 fun f7 w11 => Exists.elim w11 fun g8 w12 => Exists.elim w12 fun v10 h9 => (go_callV rfl rfl rfl h9.1 (h9.2 ▸ gq_retI)))))))) (fun e6 => have h5 := h2.2 e6; (go_fall (go_pushI rfl (h5 ▸ gq_retI))))))))))))
def A_X12_neither_27 (σ : St) (f : FI) (g : FL) (a : Nat) (x1 : Int) (x2 : Int) (x3 : Int) (x4 : Int) (r : St × List Vl) : Prop := Gx mt 6 cd_X12_neither (il σ f g) (cd_X12_neither 27) [some (vR 12 (some a)), some (vI x1), some (vI x2), some (vI x3), some (vI x4)] [] r
theorem bk_X12_neither_0 {σ : St} {f : FI} {g : FL} {a : Nat} {x1 : Int} {x2 : Int} {r : St × List Vl} (hs : Sh12 σ a) (h : ((-2147483648 ≤ x1 ∧ x1 ≤ 2147483647)) ∧ ((((0 ≤ x1 ∧ x1 ≤ 999)) → (∃ (f4 : FI) (g5 : FL), Ex mt 0 305 (il σ f g) [vR 12 (some a)] ((il σ f4 g5), []) ∧ (∃ (f7 : FI) (g8 : FL), Ex mt 5 308 (il σ f4 g5) [vR 12 (some a)] ((il σ f7 g8), []) ∧ (A_X12_neither_27 σ f7 g8 a x1 x2 0 0 r)))) ∧ (¬ ((0 ≤ x1 ∧ x1 ≤ 999)) → (r = ((il σ f g), [vI (-1)]))))) : Ex mt 6 309 (il σ f g) [vR 12 (some a), vI x1, vI x2] r := Ex.mk mt_309 (show Gx mt 6 cd_X12_neither (il σ f g) b_X12_neither_0 [some (vR 12 (some a)), some (vI x1), some (vI x2), none, none] [] r from (go_loadI rfl (go_i2l (go_pushL rfl (go_pushL rfl (go_callS rfl rfl rfl (pu_in h.1 ⟨by decide, by decide⟩ ⟨by decide, by decide⟩ (v := x1) (lo := 0) (hi := 999)) (go_ifb_ne (fun e3 => have h1 := h.2.1 e3; (go_loadA rfl (Exists.elim h1 fun f4 w11 => Exists.elim w11 fun g5 h6 => (go_callV rfl rfl rfl h6.1 (go_loadA rfl (Exists.elim h6.2 fun f7 w10 => Exists.elim w10 fun g8 h9 => (go_callV rfl rfl rfl h9.1 (go_pushI rfl (go_stoI rfl rfl (go_pushI rfl (go_stoI rfl rfl (go_fall (h9.2))))))))))))) (fun e3 => have h2 := h.2.2 e3; (go_pushI rfl (h2 ▸ gq_retI))))))))))
theorem bk_X12_neither_27 {σ : St} {f : FI} {g : FL} {a : Nat} {x1 : Int} {x2 : Int} {x3 : Int} {x4 : Int} {r : St × List Vl} (hs : Sh12 σ a) (h : ((512 ≤ x4 → ((¬ x2 = (-1) → (r = ((il σ f g), [vI (-1)]))) ∧ (x2 = (-1) → (r = ((il σ f g), [vI x3]))))) ∧ (¬ 512 ≤ x4 → ((0 ≤ x4 ∧ x4 < 512) ∧ (0 ≤ f a 33 ∧ f a 33 ≤ 255)) ∧ ((¬ ((hB (f a 33) (x4 / 64))) → ((-2147483648 ≤ (x4 + 1) ∧ (x4 + 1) ≤ 2147483647)) ∧ (A_X12_neither_27 σ f g a x1 x2 x3 (x4 + 1) r)) ∧ (((hB (f a 33) (x4 / 64))) → (∃ (f10 : FI) (g11 : FL) (v13 : Int), Ex mt 4 306 (il σ f g) [vR 12 (some a), vI x4, vI x1] ((il σ f10 g11), [vI v13]) ∧ (∃ (f14 : FI) (g15 : FL) (v17 : Int), Ex mt 0 268 (il σ f10 g11) [vR 12 (some a), vI x4, vI v13] ((il σ f14 g15), [vI v17]) ∧ ((v17 = 0 → ((-2147483648 ≤ (x4 + 1) ∧ (x4 + 1) ≤ 2147483647)) ∧ (A_X12_neither_27 σ f14 g15 a x1 x2 x3 (x4 + 1) r)) ∧ (¬ v17 = 0 → ((¬ x3 = x2 → ((-2147483648 ≤ (x3 + 1) ∧ (x3 + 1) ≤ 2147483647)) ∧ ((-2147483648 ≤ (x4 + 1) ∧ (x4 + 1) ≤ 2147483647)) ∧ (A_X12_neither_27 σ f14 g15 a x1 x2 (x3 + 1) (x4 + 1) r)) ∧ (x3 = x2 → (r = ((il σ f14 g15), [vI x4]))))))))))))) : A_X12_neither_27 σ f g a x1 x2 x3 x4 r := (show Gx mt 6 cd_X12_neither (il σ f g) b_X12_neither_27 [some (vR 12 (some a)), some (vI x1), some (vI x2), some (vI x3), some (vI x4)] [] r from (go_loadI rfl (go_pushI rfl (gq_icmp_ge (fun e3 => have h1 := h.1 e3; (go_loadI rfl (go_pushI rfl (gq_icmp_ne (fun e6 => have h4 := h1.1 e6; (go_pushI rfl (go_fall (h4 ▸ gq_retI)))) (fun e6 => have h5 := h1.2 e6; (go_loadI rfl (go_goto (h5 ▸ gq_retI)))))))) (fun e3 => have h2 := h.2 e3; (go_loadA rfl (go_loadI rfl (go_callV rfl rfl rfl (pu_enters hs h2.1.1 h2.1.2) (go_ifb_eq (fun e9 => have h7 := h2.2.1 e9; (go_iinc rfl h7.1 rfl (go_goto (h7.2)))) (fun e9 => have h8 := h2.2.2 e9; (go_loadA rfl (go_loadI rfl (go_loadA rfl (go_loadI rfl (go_loadI rfl (Exists.elim h8 fun f10 w26 => Exists.elim w26 fun g11 w27 => Exists.elim w27 fun v13 h12 => (go_callV rfl rfl rfl h12.1 (Exists.elim h12.2 fun f14 w24 => Exists.elim w24 fun g15 w25 => Exists.elim w25 fun v17 h16 => (go_callV rfl rfl rfl h16.1 (gq_if_eq (fun e20 => have h18 := h16.2.1 e20; (go_iinc rfl h18.1 rfl (go_goto (h18.2)))) (fun e20 => have h19 := h16.2.2 e20; (go_loadI rfl (go_loadI rfl (gq_icmp_ne (fun e23 => have h21 := h19.1 e23; (go_iinc rfl h21.1 rfl (go_fall (go_iinc rfl h21.2.1 rfl (go_goto (h21.2.2)))))) (fun e23 => have h22 := h19.2 e23; (go_loadI rfl (h22 ▸ gq_retI)))))))))))))))))))))))))))
theorem x_neiC {σ : St} {f : FI} {g : FL} {B : Nat} {p v : Int} (hs : Sh5 σ (B + 43)) (hp : pk p) : Ex mt 0 76 (il σ f g) [vR 5 (some (B + 144)), vI p, vI v] (il σ f g, [vI (bI (¬ v = f (B + 149) p.toNat ∧ ¬ v = f (B + 150) p.toNat))]) := by
  refine bk_X5_isNeither_0 hs ⟨hp, fun z => ?_, fun z => ⟨hp, fun y => ?_, fun y => ?_⟩⟩
  · rw [bI_f (fun x => x.1 z)]
  · rw [bI_f (fun x => x.2 y)]
  · rw [bI_t ⟨z, y⟩]
theorem x_neiM {σ : St} {f : FI} {g : FL} {M : Nat} {p v : Int} (hm : Sh12 σ M) (hp : pk p) : Ex mt 0 268 (il σ f g) [vR 12 (some M), vI p, vI v] (il σ f g, [vI (bI (¬ v = f (M + 26) p.toNat ∧ ¬ v = f (M + 27) p.toNat))]) := by
  refine bk_X12_isNeither_0 hm ⟨hp, fun z => ?_, fun z => ⟨hp, fun y => ?_, fun y => ?_⟩⟩
  · rw [bI_f (fun x => x.1 z)]
  · rw [bI_f (fun x => x.2 y)]
  · rw [bI_t ⟨z, y⟩]
/-- the boxes that are written in some tick, of the first k -/
def us (tk : Nat → Int) : Nat → Nat
  | 0 => 0
  | k + 1 => if tk k = -1 then us tk k else us tk k ||| 2 ^ k
theorem us_lt (tk : Nat → Int) : ∀ k, us tk k < 2 ^ k
  | 0 => by show 0 < 1; omega
  | k + 1 => by
    have := us_lt tk k
    unfold us
    split
    · rw [Nat.pow_succ]; omega
    · exact or_lt (by rw [Nat.pow_succ]; omega) (by omega)
theorem us_8 (tk : Nat → Int) : us tk 8 ≤ 255 := by
  have : us tk 8 < 256 := us_lt tk 8
  omega
theorem us_31 (tk : Nat → Int) {k : Nat} (hk : k ≤ 8) : us tk k < 2147483648 := Nat.lt_of_lt_of_le (us_lt tk k) (Nat.le_trans (Nat.pow_le_pow_right (by decide) hk) (by decide))
theorem us_cong {tk tk' : Nat → Int} : ∀ {k : Nat}, (∀ i, i < k → tk i = tk' i) → us tk k = us tk' k
  | 0, _ => rfl
  | k + 1, h => by
    unfold us
    rw [h k (by omega), us_cong fun i hi => h i (by omega)]
abbrev Scr3 (B : Nat) : Nat → Nat → Prop := fun a k => (a = B + 165 ∧ 38 ≤ k ∧ k ≤ 41) ∨ a = B + 165 + 23 ∨ a = B + 165 + 24 ∨ a = B + 165 + 26 ∨ a = B + 165 + 27
theorem Scr3.of {B : Nat} {f f' : FI} (h : Fr (Scr B) f f') : Fr (Scr3 B) f f' := fun a k hk => h a k (by unfold Scr; omega)
theorem Scr3.T {B : Nat} {f f' : FI} (h : Fr (Scr3 B) f f') : SameT f f' B := fun a h1 h2 => by
  funext k
  exact h a k (by omega)
theorem Scr3.itb {B : Nat} {f f' : FI} {nn : Nat → Nat} (hB : ITb f B nn) (h : Fr (Scr3 B) f f') : ITb f' B nn := hB.fr (Scr3.T h) fun a h1 h2 => by
  funext k
  exact h a k (by omega)
theorem Scr3.il {B : Nat} {f f' : FI} {g : FL} (hL : IL f g B) (h : Fr (Scr3 B) f f') : IL f' g B := hL.fr (by
  funext k
  exact h _ k (by omega)) (h _ _ (by omega)) rfl
theorem IS.of {f f' : FI} {B : Nat} {s : Int} (h : IS f B s) (e1 : f' (B + 165) 39 = f (B + 165) 39) (e2 : f' (B + 165 + 24) = f (B + 165 + 24)) : IS f' B s := ⟨⟨by rw [e1]; exact h.1.1, h.1.2⟩, fun i hi => by rw [e2]; exact h.2 i hi⟩
theorem x_endsByTicks {σ : St} {f : FI} {g : FL} {B : Nat} {nn : Nat → Nat} {s : Int} (hm : Sh12 σ (B + 165)) (hB0 : ITb f B nn) (hL : IL f g B) (hS : IS f B s) (hs : s < 1999990000) : ∃ (f' : FI) (s' : Int), Ex mt 5 308 (il σ f g) [vR 12 (some (B + 165))] (il σ f' g, []) ∧ (∀ q : Nat, q < 512 → f' (B + 165 + 26) q = enD (GB f g B 0) (q : Int) ∧ f' (B + 165 + 27) q = enD (GB f g B (us (f (B + 165 + 54)) 8 : Nat)) (q : Int)) ∧ (IS f' B s' ∧ s' ≤ s + 1024) ∧ Fr (Scr3 B) f f' := by
  have u8 := us_8 (f (B + 165 + 54))
  have loop2 : ∀ k i : Nat, i + k = 512 → ∀ (fi : FI) (si : Int), IS fi B si → si ≤ s + 2 * i → Fr (Scr3 B) f fi → (∀ q : Nat, q < i → fi (B + 165 + 26) q = enD (GB f g B 0) (q : Int) ∧ fi (B + 165 + 27) q = enD (GB f g B (us (f (B + 165 + 54)) 8 : Nat)) (q : Int)) → ∃ (f' : FI) (s' : Int), A_X12_endsByTicks_38 σ fi g (B + 165) (us (f (B + 165 + 54)) 8 : Nat) (i : Int) (il σ f' g, []) ∧ (∀ q : Nat, q < 512 → f' (B + 165 + 26) q = enD (GB f g B 0) (q : Int) ∧ f' (B + 165 + 27) q = enD (GB f g B (us (f (B + 165 + 54)) 8 : Nat)) (q : Int)) ∧ (IS f' B s' ∧ s' ≤ s + 1024) ∧ Fr (Scr3 B) f f' := by
    intro k
    induction k with
    | zero =>
      intro i hi fi si hSi hsi hF hj
      obtain rfl : i = 512 := by omega
      exact ⟨fi, si, bk_X12_endsByTicks_38 hm ⟨fun _ => rfl, fun z => absurd (by decide) z⟩, hj, ⟨hSi, by omega⟩, hF⟩
    | succ k ih =>
      intro i hi fi si hSi hsi hF hj
      obtain ⟨f1, -, E1, -, -, -, -, S1, F1⟩ := x_endsAs (g := g) (p := (i : Int)) (b := 0) hm (Scr3.itb hB0 hF) (Scr3.il hL hF) hSi (by omega) (by omega) (by omega)
      have e0 : enD (GB fi g B 0) (i : Int) = enD (GB f g B 0) (i : Int) := enD_cong fun z hz => GB_of hz (Scr3.T hF) rfl
      rw [e0] at E1
      have F1' := (hF.trans (Scr3.of F1)).up (a := B + 165 + 26) (k := i) (v := enD (GB f g B 0) (i : Int)) (Or.inr (Or.inr (Or.inr (Or.inl rfl))))
      have S1' : IS (up2 f1 (B + 165 + 26) i (enD (GB f g B 0) (i : Int))) B (si + 1) := S1.of (u2_a (by omega)) (up2_ne (by omega))
      obtain ⟨f2, -, E2, -, -, -, -, S2, F2⟩ := x_endsAs (g := g) (p := (i : Int)) (b := (us (f (B + 165 + 54)) 8 : Nat)) hm (Scr3.itb hB0 F1') (Scr3.il hL F1') S1' (by omega) (by omega) (by omega)
      have e1 : enD (GB (up2 f1 (B + 165 + 26) i (enD (GB f g B 0) (i : Int))) g B (us (f (B + 165 + 54)) 8 : Nat)) (i : Int) = enD (GB f g B (us (f (B + 165 + 54)) 8 : Nat)) (i : Int) := enD_cong fun z hz => GB_of hz (Scr3.T F1') rfl
      rw [e1] at E2
      have F2' := (F1'.trans (Scr3.of F2)).up (a := B + 165 + 27) (k := i) (v := enD (GB f g B (us (f (B + 165 + 54)) 8 : Nat)) (i : Int)) (Or.inr (Or.inr (Or.inr (Or.inr rfl))))
      have S2' : IS (up2 f2 (B + 165 + 27) i (enD (GB f g B (us (f (B + 165 + 54)) 8 : Nat)) (i : Int))) B (si + 1 + 1) := S2.of (u2_a (by omega)) (up2_ne (by omega))
      obtain ⟨f', s', A, r⟩ := ih (i + 1) (by omega) _ _ S2' (by omega) F2' (fun q hq => by
        have g1 : ∀ j, f2 (B + 165 + 26) j = up2 f1 (B + 165 + 26) i (enD (GB f g B 0) (i : Int)) (B + 165 + 26) j := fun j => F2 _ j (by unfold Scr; omega)
        have g2 : ∀ j, f2 (B + 165 + 27) j = fi (B + 165 + 27) j := fun j => by rw [F2 _ j (by unfold Scr; omega), u2_a (by omega), F1 _ j (by unfold Scr; omega)]
        rw [u2_a (by omega), g1]
        by_cases z : q = i
        · subst z
          exact ⟨u2_s, u2_s⟩
        · rw [u2_i z, u2_i z, g2, F1 _ q (by unfold Scr; omega)]
          exact hj q (by omega))
      exact ⟨f', s', bk_X12_endsByTicks_38 hm ⟨fun z => absurd z (by omega), fun _ => ⟨f1, g, _, E1, by omega, f2, g, _, E2, ⟨by omega, by omega⟩, A⟩⟩, r⟩
  obtain ⟨f', s', A, r⟩ := loop2 512 0 rfl f s hS (by omega) Fr.rfl' (fun q hq => absurd hq (Nat.not_lt_zero q))
  have loop : ∀ k i : Nat, i + k = 8 → A_X12_endsByTicks_4 σ f g (B + 165) (us (f (B + 165 + 54)) i : Nat) (i : Int) (il σ f' g, []) := by
    intro k
    induction k with
    | zero =>
      intro i hi
      obtain rfl : i = 8 := by omega
      exact bk_X12_endsByTicks_4 hm ⟨fun _ => A, fun z => absurd (by decide) z⟩
    | succ k ih =>
      intro i hi
      have A := ih (i + 1) (by omega)
      have ul := us_31 (f (B + 165 + 54)) (k := i) (by omega)
      refine bk_X12_endsByTicks_4 hm ⟨fun z => absurd z (by omega), fun _ => ⟨by omega, fun z => ⟨by omega, ?_⟩, fun z => ⟨by omega, by omega, ?_⟩⟩⟩
      · have z : f (B + 165 + 54) i = -1 := z
        rw [iOr_0 ul]
        unfold us at A
        rw [if_pos z] at A
        exact A
      · have z : ¬ f (B + 165 + 54) i = -1 := z
        rw [iOr_p2 ul (by omega)]
        unfold us at A
        rw [if_neg z] at A
        exact A
  exact ⟨f', s', bk_X12_endsByTicks_0 hm (loop 8 0 rfl), r⟩
theorem sn_rg {G : Int → Int → Int} (h : ∀ t p, pk p → G t p = -2 ∨ (0 ≤ G t p ∧ G t p < 1024)) : ∀ (k : Nat) (t p : Int), pk p → sn G k t p = -3 ∨ sn G k t p = -2 ∨ pk (sn G k t p)
  | 0, _, _, _ => Or.inl rfl
  | k + 1, t, p, hp => by
    by_cases z : pk (G t p)
    · rw [sn_s z]
      exact sn_rg h k _ _ z
    · rw [sn_e z]
      have := h t p hp
      unfold endB_
      split <;> omega
theorem c_neither {σ : St} {f : FI} {g : FL} {B : Nat} (hs : Sh11 σ B) (hm : Sh12 σ (B + 165)) {nn : Nat → Nat} {s : Int} (hB0 : ITb f B nn) (hL : IL f g B) (hE : IE f B) (hD : ID f B) (hS : IS f B s) (hsl : s < 1999990000) {x y : Int} (rx : -2147483648 ≤ x ∧ x ≤ 2147483647) (ry : -2147483648 ≤ y ∧ y ≤ 2147483647) : ∃ (v : Int) (f1 f2 : FI), Ex mt 5 185 (il σ f g) [vR 11 (some B), vI x, vI y] (il σ f1 g, [vI v]) ∧ Ex mt 6 309 (il σ f1 g) [vR 12 (some (B + 165)), vI x, vI y] (il σ f2 g, [vI v]) ∧ (∃ s2, IS f2 B s2 ∧ s2 ≤ s + 1024) ∧ Fr (fun a k => a = B + 149 ∨ a = B + 150 ∨ a = B + 165 + 54 ∨ Scr3 B a k) f f2 := by
  by_cases hc : 0 ≤ x ∧ x ≤ 999
  · by_cases hy : -1 ≤ y
    · have u8 := us_8 (f (B + 145))
      obtain ⟨fa, Ea, a1, a2⟩ := x_fillEnds (f := f) (g := g) (e := B + 149) (b := 0) hs.net hs.o10.l6 (by omega) (by omega) hB0.tcs hE.2
      have eTa : SameT f fa B := fun a h1 h2 => a1 a (by omega)
      obtain ⟨fc, Ec, c1, c2⟩ := x_fillEnds (f := fa) (g := g) (e := B + 150) (b := (us (f (B + 145)) 8 : Nat)) hs.net hs.o10.l7 (by omega) (by omega) (hB0.tcs.of eTa) (by rw [a1 _ (by omega)]; exact hE.2)
      have ec : ∀ a, a ≠ B + 149 → a ≠ B + 150 → fc a = f a := fun a h1 h2 => by rw [c1 a h2, a1 a h1]
      have eTc : SameT f fc B := fun a h1 h2 => ec a (by omega) (by omega)
      have hBc : ITb fc B nn := hB0.fr eTc fun a h1 h2 => ec a (by omega) (by omega)
      have hLc : IL fc g B := hL.fr (ec _ (by omega) (by omega)) (by rw [ec _ (by omega) (by omega)]) rfl
      have hSc : IS fc B s := hS.of (by rw [ec _ (by omega) (by omega)]) (ec _ (by omega) (by omega))
      have o1 : ∀ q : Nat, q < 512 → En f B q → fc (B + 149) q = enD (GB f g B 0) (q : Int) := fun q hq hEq => by rw [c1 _ (by omega)]; exact a2 q hq hEq
      have o2 : ∀ q : Nat, q < 512 → En f B q → fc (B + 150) q = enD (GB f g B (us (f (B + 145)) 8 : Nat)) (q : Int) := fun q hq hEq => by
        rw [c2 q hq (by unfold En at hEq ⊢; rw [a1 _ (by omega)]; exact hEq)]
        exact enD_cong fun z hz => GB_of hz eTa rfl
      obtain ⟨fd, Ed, d1, Fd⟩ := x_asTold (f := fc) (g := g) hm
      have ed : ∀ a, a ≠ B + 165 + 54 → fd a = fc a := fun a ha => by
        funext k
        exact Fd a k ha
      have eTd : SameT fc fd B := fun a h1 h2 => ed a (by omega)
      have hBd : ITb fd B nn := hBc.fr eTd fun a h1 h2 => ed a (by omega)
      have hLd : IL fd g B := hLc.fr (ed _ (by omega)) (by rw [ed _ (by omega)]) rfl
      have hSd : IS fd B s := hSc.of (by rw [ed _ (by omega)]) (ed _ (by omega))
      have et : ∀ i, i < 8 → fd (B + 165 + 54) i = f (B + 145) i := fun i hi => by rw [d1 i hi, ec _ (by omega) (by omega), (hD i hi).1]
      obtain ⟨fe, s', Ee, e1, e2, Fe⟩ := x_endsByTicks (f := fd) (g := g) hm hBd hLd hSd hsl
      have hBe := Scr3.itb hBd Fe
      have hLe := Scr3.il hLd Fe
      have eu : us (fd (B + 165 + 54)) 8 = us (f (B + 145)) 8 := us_cong et
      have eTe : SameT f fe B := fun a h1 h2 => by rw [Scr3.T Fe a h1 h2, eTd a h1 h2, eTc a h1 h2]
      have ete : ∀ i, i < 8 → fe (B + 165 + 54) i = f (B + 145) i := fun i hi => by rw [Fe _ i (by omega)]; exact et i hi
      have p1 : ∀ q : Nat, q < 512 → fe (B + 165 + 26) q = enD (GB f g B 0) (q : Int) := fun q hq => by
        rw [(e1 q hq).1]
        exact enD_cong fun z hz => (GB_of hz eTd rfl).trans (GB_of hz eTc rfl)
      have p2' : ∀ q : Nat, q < 512 → fe (B + 165 + 27) q = enD (GB f g B (us (f (B + 145)) 8 : Nat)) (q : Int) := fun q hq => by
        rw [(e1 q hq).2, eu]
        exact enD_cong fun z hz => (GB_of hz eTd rfl).trans (GB_of hz eTc rfl)
      have en1 : fc (B + 43) 2 = f (B + 43) 2 := by rw [ec _ (by omega) (by omega)]
      have en2 : ∀ fi : FI, Fr (Scr2 B) fe fi → fi (B + 165) 33 = f (B + 43) 2 := fun fi hF => by rw [hF _ _ (by omega), Fe _ _ (by omega), ed _ (by omega), ec _ (by omega) (by omega), hE.1]
      have loop : ∀ k i : Nat, i + k = 512 → ∀ (n : Nat) (fi : FI), n ≤ i → Fr (Scr2 B) fe fi → ∃ (v : Int) (f' : FI), A_X5_countNeither_70 σ fc g (B + 43) x y (n : Int) (i : Int) (il σ fc g, [vI v]) ∧ A_X12_neither_27 σ fi g (B + 165) x y (n : Int) (i : Int) (il σ f' g, [vI v]) ∧ Fr (Scr2 B) fe f' := by
        intro k
        induction k with
        | zero =>
          intro i hi n fi hn hF
          obtain rfl : i = 512 := by omega
          by_cases hy1 : y = -1
          · exact ⟨n, fi, bk_X5_countNeither_70 hs.o10 ⟨fun _ => ⟨fun z => absurd hy1 z, fun _ => rfl⟩, fun z => absurd (by decide) z⟩, bk_X12_neither_27 hm ⟨fun _ => ⟨fun z => absurd hy1 z, fun _ => rfl⟩, fun z => absurd (by decide) z⟩, hF⟩
          · exact ⟨-1, fi, bk_X5_countNeither_70 hs.o10 ⟨fun _ => ⟨fun _ => rfl, fun z => absurd z hy1⟩, fun z => absurd (by decide) z⟩, bk_X12_neither_27 hm ⟨fun _ => ⟨fun _ => rfl, fun z => absurd z hy1⟩, fun z => absurd (by decide) z⟩, hF⟩
        | succ k ih =>
          intro i hi n fi hn hF
          have ob1 : ((0 : Int) ≤ (i : Int) ∧ (i : Int) < 512) ∧ ((0 : Int) ≤ fc (B + 43) 2 ∧ fc (B + 43) 2 ≤ 255) := by rw [en1]; exact ⟨by omega, hE.2⟩
          have ob2 : ((0 : Int) ≤ (i : Int) ∧ (i : Int) < 512) ∧ ((0 : Int) ≤ fi (B + 165) 33 ∧ fi (B + 165) 33 ≤ 255) := by rw [en2 fi hF]; exact ⟨by omega, hE.2⟩
          by_cases hEn : hB (f (B + 43) 2) ((i : Int) / 64)
          · have W := x_watch (f := fc) (g := g) (p := (i : Int)) (t := x) hs.o10 hBc.tcs (by omega) (by omega)
            have eTi : SameT f fi B := fun a h1 h2 => by
              funext j
              rw [hF a j (by omega), eTe a h1 h2]
            have hBi : ITb fi B nn := hBe.fr (fun a h1 h2 => by rw [eTi a h1 h2, eTe a h1 h2]) fun a h1 h2 => by
              funext j
              exact hF a j (by omega)
            have hLi : IL fi g B := hLe.fr (by
              funext j
              exact hF _ j (by omega)) (hF _ _ (by omega)) rfl
            have eti : ∀ j, j < 8 → fi (B + 165 + 54) j = f (B + 145) j := fun j hj => by rw [hF _ j (by omega)]; exact ete j hj
            obtain ⟨f2, Q, F2⟩ := x_seenAs (f := fi) (g := g) (p := (i : Int)) (t := x) hm hBi hLi (fun j hj => by rw [eti j hj]; exact (hD j hj).2.2) (by omega) (by omega)
            have q1 : sn (GK fc g B (fc (B + 145))) 100 x (i : Int) = sn (GK f g B (f (B + 145))) 100 x (i : Int) := sn_cong (fun t p hp => GK_of hp eTc rfl fun j hj => by rw [ec _ (by omega) (by omega)]) 100 x _ (by omega)
            have q2 : sn (GK fi g B (fi (B + 165 + 54))) 100 x (i : Int) = sn (GK f g B (f (B + 145))) 100 x (i : Int) := sn_cong (fun t p hp => GK_of hp eTi rfl eti) 100 x _ (by omega)
            rw [q1] at W
            rw [q2] at Q
            generalize sn (GK f g B (f (B + 145))) 100 x (i : Int) = e at W Q
            have N1 := x_neiC (σ := σ) (f := fc) (g := g) (p := (i : Int)) (v := e) hs.o10 (by omega)
            have N2 := x_neiM (σ := σ) (f := f2) (g := g) (p := (i : Int)) (v := e) hm (by omega)
            have w1 : fc (B + 149) (i : Int).toNat = enD (GB f g B 0) (i : Int) := o1 i (by omega) hEn
            have w2 : fc (B + 150) (i : Int).toNat = enD (GB f g B (us (f (B + 145)) 8 : Nat)) (i : Int) := o2 i (by omega) hEn
            have w3 : f2 (B + 165 + 26) (i : Int).toNat = enD (GB f g B 0) (i : Int) := by rw [F2 _ _ (by omega), hF _ _ (by omega)]; exact p1 i (by omega)
            have w4 : f2 (B + 165 + 27) (i : Int).toNat = enD (GB f g B (us (f (B + 145)) 8 : Nat)) (i : Int) := by rw [F2 _ _ (by omega), hF _ _ (by omega)]; exact p2' i (by omega)
            rw [w1, w2] at N1
            rw [w3, w4] at N2
            generalize bI (¬ e = enD (GB f g B 0) (i : Int) ∧ ¬ e = enD (GB f g B (us (f (B + 145)) 8 : Nat)) (i : Int)) = b at N1 N2
            have mk : ∀ (v : Int) (f' : FI), (b = 0 → A_X5_countNeither_70 σ fc g (B + 43) x y (n : Int) ((i : Int) + 1) (il σ fc g, [vI v]) ∧ A_X12_neither_27 σ f2 g (B + 165) x y (n : Int) ((i : Int) + 1) (il σ f' g, [vI v])) → (¬ b = 0 → ¬ (n : Int) = y → A_X5_countNeither_70 σ fc g (B + 43) x y ((n : Int) + 1) ((i : Int) + 1) (il σ fc g, [vI v]) ∧ A_X12_neither_27 σ f2 g (B + 165) x y ((n : Int) + 1) ((i : Int) + 1) (il σ f' g, [vI v])) → (¬ b = 0 → (n : Int) = y → v = i ∧ f' = f2) → A_X5_countNeither_70 σ fc g (B + 43) x y (n : Int) (i : Int) (il σ fc g, [vI v]) ∧ A_X12_neither_27 σ fi g (B + 165) x y (n : Int) (i : Int) (il σ f' g, [vI v]) := fun v f' h1 h2 h3 => ⟨bk_X5_countNeither_70 hs.o10 ⟨fun z => absurd z (by omega), fun _ => ⟨ob1, fun z => absurd (by rw [en1]; exact hEn) z, fun _ => ⟨fc, g, _, W, fc, g, _, N1, fun z => ⟨by omega, (h1 z).1⟩, fun z => ⟨fun y => ⟨by omega, by omega, (h2 z y).1⟩, fun y => by rw [(h3 z y).1]⟩⟩⟩⟩, bk_X12_neither_27 hm ⟨fun z => absurd z (by omega), fun _ => ⟨ob2, fun z => absurd (by rw [en2 fi hF]; exact hEn) z, fun _ => ⟨f2, g, _, Q, f2, g, _, N2, fun z => ⟨by omega, (h1 z).2⟩, fun z => ⟨fun y => ⟨by omega, by omega, (h2 z y).2⟩, fun y => by rw [(h3 z y).1, (h3 z y).2]⟩⟩⟩⟩⟩
            by_cases hb : b = 0
            · obtain ⟨v, f', A1, A2, F⟩ := ih (i + 1) (by omega) n f2 (by omega) (hF.trans F2)
              obtain ⟨c1, c2⟩ := mk v f' (fun _ => ⟨A1, A2⟩) (fun z => absurd hb z) (fun z => absurd hb z)
              exact ⟨v, f', c1, c2, F⟩
            · by_cases hn2 : (n : Int) = y
              · obtain ⟨c1, c2⟩ := mk i f2 (fun z => absurd z hb) (fun _ z => absurd hn2 z) (fun _ _ => ⟨rfl, rfl⟩)
                exact ⟨i, f2, c1, c2, hF.trans F2⟩
              · obtain ⟨v, f', A1, A2, F⟩ := ih (i + 1) (by omega) (n + 1) f2 (by omega) (hF.trans F2)
                obtain ⟨c1, c2⟩ := mk v f' (fun z => absurd z hb) (fun _ _ => ⟨A1, A2⟩) (fun _ z => absurd z hn2)
                exact ⟨v, f', c1, c2, F⟩
          · obtain ⟨v, f', A1, A2, F⟩ := ih (i + 1) (by omega) n fi (by omega) hF
            exact ⟨v, f', bk_X5_countNeither_70 hs.o10 ⟨fun z => absurd z (by omega), fun _ => ⟨ob1, fun _ => ⟨by omega, A1⟩, fun z => absurd (by rw [en1] at z; exact z) hEn⟩⟩, bk_X12_neither_27 hm ⟨fun z => absurd z (by omega), fun _ => ⟨ob2, fun _ => ⟨by omega, A2⟩, fun z => absurd (by rw [en2 fi hF] at z; exact z) hEn⟩⟩, F⟩
      obtain ⟨v, f', A1, A2, F⟩ := loop 512 0 rfl 0 fe (by omega) Fr.rfl'
      have loop5 : ∀ k i : Nat, i + k = 8 → A_X5_countNeither_5 σ f g (B + 43) x y (us (f (B + 145)) i : Nat) (i : Int) (il σ fc g, [vI v]) := by
        intro k
        induction k with
        | zero =>
          intro i hi
          obtain rfl : i = 8 := by omega
          exact bk_X5_countNeither_5 hs.o10 ⟨fun _ => ⟨fa, g, Ea, fc, g, Ec, A1⟩, fun z => absurd (by decide) z⟩
        | succ k ih =>
          intro i hi
          have A := ih (i + 1) (by omega)
          have ul := us_31 (f (B + 145)) (k := i) (by omega)
          refine bk_X5_countNeither_5 hs.o10 ⟨fun z => absurd z (by omega), fun _ => ⟨by omega, fun z => ⟨by omega, by omega, ?_⟩, fun z => ⟨by omega, ?_⟩⟩⟩
          · have z : ¬ f (B + 145) i = -1 := z
            rw [iOr_p2 ul (by omega)]
            unfold us at A
            rw [if_neg z] at A
            exact A
          · have z : f (B + 145) i = -1 := z
            rw [iOr_0 ul]
            unfold us at A
            rw [if_pos z] at A
            exact A
      refine ⟨v, fc, f', bk_X11_neither_0 hs ⟨fun z => absurd hc z, fun _ => ⟨fun _ => ⟨fc, g, v, bk_X5_countNeither_0 hs.o10 (loop5 8 0 rfl), rfl⟩, fun z => absurd hy z⟩⟩, bk_X12_neither_0 hm ⟨by omega, fun _ => ⟨fd, g, Ed, fe, g, Ee, A2⟩, fun z => absurd hc z⟩, ⟨s', e2.1.of (F _ _ (by omega)) (by
        funext k
        exact F _ k (by omega)), e2.2⟩, fun a k hk => ?_⟩
      rw [F a k (by omega), Fe a k (by omega), Fd a k (by omega), ec a (by omega) (by omega)]
    · -- no such k: the class says so at once, the model counts through
      obtain ⟨fd, Ed, d1, Fd⟩ := x_asTold (f := f) (g := g) hm
      have ed : ∀ a, a ≠ B + 165 + 54 → fd a = f a := fun a ha => by
        funext k
        exact Fd a k ha
      have eTd : SameT f fd B := fun a h1 h2 => ed a (by omega)
      have hBd : ITb fd B nn := hB0.fr eTd fun a h1 h2 => ed a (by omega)
      have hLd : IL fd g B := hL.fr (ed _ (by omega)) (by rw [ed _ (by omega)]) rfl
      have hSd : IS fd B s := hS.of (by rw [ed _ (by omega)]) (ed _ (by omega))
      have et : ∀ i, i < 8 → fd (B + 165 + 54) i = f (B + 145) i := fun i hi => by rw [d1 i hi, (hD i hi).1]
      obtain ⟨fe, s', Ee, e1, e2, Fe⟩ := x_endsByTicks (f := fd) (g := g) hm hBd hLd hSd hsl
      have hBe := Scr3.itb hBd Fe
      have hLe := Scr3.il hLd Fe
      have ete : ∀ i, i < 8 → fe (B + 165 + 54) i = f (B + 145) i := fun i hi => by rw [Fe _ i (by omega)]; exact et i hi
      have en2 : ∀ fi : FI, Fr (Scr2 B) fe fi → fi (B + 165) 33 = f (B + 43) 2 := fun fi hF => by rw [hF _ _ (by omega), Fe _ _ (by omega), ed _ (by omega), hE.1]
      have loop : ∀ k i : Nat, i + k = 512 → ∀ (n : Nat) (fi : FI), n ≤ i → Fr (Scr2 B) fe fi → ∃ f' : FI, A_X12_neither_27 σ fi g (B + 165) x y (n : Int) (i : Int) (il σ f' g, [vI (-1)]) ∧ Fr (Scr2 B) fe f' := by
        intro k
        induction k with
        | zero =>
          intro i hi n fi hn hF
          obtain rfl : i = 512 := by omega
          exact ⟨fi, bk_X12_neither_27 hm ⟨fun _ => ⟨fun _ => rfl, fun z => absurd z (by omega)⟩, fun z => absurd (by decide) z⟩, hF⟩
        | succ k ih =>
          intro i hi n fi hn hF
          have ob2 : ((0 : Int) ≤ (i : Int) ∧ (i : Int) < 512) ∧ ((0 : Int) ≤ fi (B + 165) 33 ∧ fi (B + 165) 33 ≤ 255) := by rw [en2 fi hF]; exact ⟨by omega, hE.2⟩
          by_cases hEn : hB (fi (B + 165) 33) ((i : Int) / 64)
          · have hBi : ITb fi B nn := hBe.fr (fun a h1 h2 => by
              funext j
              exact hF a j (by omega)) fun a h1 h2 => by
              funext j
              exact hF a j (by omega)
            have hLi : IL fi g B := hLe.fr (by
              funext j
              exact hF _ j (by omega)) (hF _ _ (by omega)) rfl
            obtain ⟨f2, Q, F2⟩ := x_seenAs (f := fi) (g := g) (p := (i : Int)) (t := x) hm hBi hLi (fun j hj => by rw [hF _ j (by omega), ete j hj]; exact (hD j hj).2.2) (by omega) (by omega)
            have N2 := x_neiM (σ := σ) (f := f2) (g := g) (p := (i : Int)) (v := sn (GK fi g B (fi (B + 165 + 54))) 100 x (i : Int)) hm (by omega)
            obtain ⟨f3, A3, F3⟩ := ih (i + 1) (by omega) n f2 (by omega) (hF.trans F2)
            obtain ⟨f4, A4, F4⟩ := ih (i + 1) (by omega) (n + 1) f2 (by omega) (hF.trans F2)
            by_cases hb : bI (¬ sn (GK fi g B (fi (B + 165 + 54))) 100 x (i : Int) = f2 (B + 165 + 26) (i : Int).toNat ∧ ¬ sn (GK fi g B (fi (B + 165 + 54))) 100 x (i : Int) = f2 (B + 165 + 27) (i : Int).toNat) = 0
            · exact ⟨f3, bk_X12_neither_27 hm ⟨fun z => absurd z (by omega), fun _ => ⟨ob2, fun z => absurd hEn z, fun _ => ⟨f2, g, _, Q, f2, g, _, N2, fun _ => ⟨by omega, A3⟩, fun z => absurd hb z⟩⟩⟩, F3⟩
            · exact ⟨f4, bk_X12_neither_27 hm ⟨fun z => absurd z (by omega), fun _ => ⟨ob2, fun z => absurd hEn z, fun _ => ⟨f2, g, _, Q, f2, g, _, N2, fun z => absurd z hb, fun _ => ⟨fun _ => ⟨by omega, by omega, A4⟩, fun z => absurd z (by omega)⟩⟩⟩⟩, F4⟩
          · obtain ⟨f', A2, F⟩ := ih (i + 1) (by omega) n fi (by omega) hF
            exact ⟨f', bk_X12_neither_27 hm ⟨fun z => absurd z (by omega), fun _ => ⟨ob2, fun _ => ⟨by omega, A2⟩, fun z => absurd z hEn⟩⟩, F⟩
      obtain ⟨f', A2, F⟩ := loop 512 0 rfl 0 fe (by omega) Fr.rfl'
      refine ⟨-1, f, f', bk_X11_neither_0 hs ⟨fun z => absurd hc z, fun _ => ⟨fun z => absurd z hy, fun _ => rfl⟩⟩, bk_X12_neither_0 hm ⟨by omega, fun _ => ⟨fd, g, Ed, fe, g, Ee, A2⟩, fun z => absurd hc z⟩, ⟨s', e2.1.of (F _ _ (by omega)) (by
        funext k
        exact F _ k (by omega)), e2.2⟩, fun a k hk => ?_⟩
      rw [F a k (by omega), Fe a k (by omega), Fd a k (by omega)]
  · exact ⟨-1, f, f, bk_X11_neither_0 hs ⟨fun _ => rfl, fun z => absurd z hc⟩, bk_X12_neither_0 hm ⟨by omega, fun z => absurd z hc, fun _ => rfl⟩, ⟨s, hS, by omega⟩, Fr.rfl'⟩
