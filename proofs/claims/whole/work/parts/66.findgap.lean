/-! gap: the class finds it; the model looks at each tick -/
def A_X5_findGap_13 (σ : St) (f : FI) (g : FL) (n : Nat) (x1 : Int) (x2 : Int) (r : St × List Vl) : Prop := Gx mt 4 cd_X5_findGap (il σ f g) (cd_X5_findGap 13) [some (vR 5 (some (n + 101))), some (vI x1), some (vI x2)] [] r
def A_X5_findGap_83 (σ : St) (f : FI) (g : FL) (n : Nat) (x2 : Int) (r : St × List Vl) : Prop := ∀ (y1 : Int), Gx mt 4 cd_X5_findGap (il σ f g) (cd_X5_findGap 83) [some (vR 5 (some (n + 101))), some (vI y1), some (vI x2)] [] r
theorem bk_X5_findGap_0 {σ : St} {f : FI} {g : FL} {n : Nat} {r : St × List Vl} (hs : Sh5 σ n) (h : ((0 < (f (n + 101) 3) → (A_X5_findGap_13 σ f g n 0 0 r)) ∧ (¬ 0 < (f (n + 101) 3) → (r = ((il σ f g), [vI (-1)]))))) : Ex mt 4 80 (il σ f g) [vR 5 (some (n + 101))] r := Ex.mk mt_80 (show Gx mt 4 cd_X5_findGap (il σ f g) b_X5_findGap_0 [some (vR 5 (some (n + 101))), none, none] [] r from (go_loadA rfl (gi_getI (gq_if_gt (fun e3 => have h1 := h.1 e3; (go_pushI rfl (go_stoI rfl rfl (go_pushI rfl (go_stoI rfl rfl (go_fall (h1))))))) (fun e3 => have h2 := h.2 e3; (go_pushI rfl (h2 ▸ gq_retI)))))))
theorem bk_X5_findGap_13 {σ : St} {f : FI} {g : FL} {n : Nat} {x1 : Int} {x2 : Int} {r : St × List Vl} (hs : Sh5 σ n) (h : (((f (n + 101) 3) ≤ x2 → (∃ (f4 : FI) (g5 : FL), Ex mt 3 46 (il σ f g) [vR 3 (some n), vI 0, vR 14 (some (n + 106))] ((il σ f4 g5), []) ∧ (∃ (f7 : FI) (g8 : FL), Ex mt 3 46 (il σ f4 g5) [vR 3 (some n), vI x1, vR 14 (some (n + 107))] ((il σ f7 g8), []) ∧ (∃ (f10 : FI) (g11 : FL), Ex mt 2 81 (il σ f7 g8) [vR 5 (some (n + 101)), vI x1] ((il σ f10 g11), []) ∧ (∃ (f13 : FI) (g14 : FL) (v16 : Int), Ex mt 2 85 (il σ f10 g11) [vR 5 (some (n + 101)), vR 14 (some (n + 108))] ((il σ f13 g14), [vI v16]) ∧ ((¬ v16 = 0 → (A_X5_findGap_83 σ f13 g14 n 1 r)) ∧ (v16 = 0 → (r = ((il σ f13 g14), [vI (-2)]))))))))) ∧ (¬ (f (n + 101) 3) ≤ x2 → ((0 ≤ x2 ∧ x2 < 8) ∧ (0 ≤ (f (n + 103) ((x2).toNat)) ∧ (f (n + 103) ((x2).toNat)) < 31) ∧ (-2147483648 ≤ (x2 + 1) ∧ (x2 + 1) ≤ 2147483647)) ∧ (A_X5_findGap_13 σ f g n (iOr x1 (p2 (f (n + 103) ((x2).toNat)))) (x2 + 1) r)))) : A_X5_findGap_13 σ f g n x1 x2 r := (show Gx mt 4 cd_X5_findGap (il σ f g) b_X5_findGap_13 [some (vR 5 (some (n + 101))), some (vI x1), some (vI x2)] [] r from (go_loadI rfl (go_loadA rfl (gi_getI (gq_icmp_ge (fun e3 => have h1 := h.1 e3; (go_loadA rfl (gi_getR (Sh5.r0 hs) (go_pushI rfl (go_loadA rfl (gi_getR (Sh5.r6 hs) (Exists.elim h1 fun f4 w24 => Exists.elim w24 fun g5 h6 => (go_callV rfl rfl rfl h6.1 (go_loadA rfl (gi_getR (Sh5.r0 hs) (go_loadI rfl (go_loadA rfl (gi_getR (Sh5.r7 hs) (Exists.elim h6.2 fun f7 w23 => Exists.elim w23 fun g8 h9 => (go_callV rfl rfl rfl h9.1 (go_loadA rfl (go_loadI rfl (Exists.elim h9.2 fun f10 w22 => Exists.elim w22 fun g11 h12 => (go_callV rfl rfl rfl h12.1 (go_loadA rfl (go_loadA rfl (gi_getR (Sh5.r8 hs) (Exists.elim h12.2 fun f13 w20 => Exists.elim w20 fun g14 w21 => Exists.elim w21 fun v16 h15 => (go_callV rfl rfl rfl h15.1 (gq_if_ne (fun e19 => have h17 := h15.2.1 e19; (go_pushI rfl (go_stoI rfl rfl (go_fall (h17 _))))) (fun e19 => have h18 := h15.2.2 e19; (go_pushI rfl (h18 ▸ gq_retI)))))))))))))))))))))))))))) (fun e3 => have h2 := h.2 e3; (go_loadI rfl (go_pushI rfl (go_loadA rfl (gi_getR (Sh5.r2 hs) (go_loadI rfl (gi_iald (inl_ (Sh5.l2 hs) h2.1.1) (go_ishl (iShl_1 h2.1.2.1) (go_ior rfl (go_stoI rfl rfl (go_iinc rfl h2.1.2.2 rfl (go_goto (h2.2))))))))))))))))))
theorem bk_X5_findGap_83 {σ : St} {f : FI} {g : FL} {n : Nat} {x2 : Int} {r : St × List Vl} (hs : Sh5 σ n) (h : ((9 < x2 → (r = ((il σ f g), [vI (-2)]))) ∧ (¬ 9 < x2 → (∃ (σ7 : St) (f4 : FI) (g5 : FL) (v8 : Int), Ex mt 3 82 (il σ f g) [vR 5 (some (n + 101)), vI x2] ((il σ7 f4 g5), [vI v8]) ∧ ((v8 = 0 → ((-2147483648 ≤ (x2 + 1) ∧ (x2 + 1) ≤ 2147483647)) ∧ (A_X5_findGap_83 σ7 f4 g5 n (x2 + 1) r)) ∧ (¬ v8 = 0 → (r = ((il σ7 f4 g5), [vI x2])))))))) : A_X5_findGap_83 σ f g n x2 r := fun y1 => (show Gx mt 4 cd_X5_findGap (il σ f g) b_X5_findGap_83 [some (vR 5 (some (n + 101))), some (vI y1), some (vI x2)] [] r from (go_loadI rfl (go_pushI rfl (gq_icmp_gt (fun e3 => have h1 := h.1 e3; (go_pushI rfl (h1 ▸ gq_retI))) (fun e3 => have h2 := h.2 e3; (go_loadA rfl (go_loadI rfl (Exists.elim h2 fun σ7 w12 => Exists.elim w12 fun f4 w13 => Exists.elim w13 fun g5 w14 => Exists.elim w14 fun v8 h6 => (go_callV rfl rfl rfl h6.1 (gq_if_eq (fun e11 => have h9 := h6.2.1 e11; (go_iinc rfl h9.1 rfl (go_goto (h9.2 _)))) (fun e11 => have h10 := h6.2.2 e11; (go_loadI rfl (h10 ▸ gq_retI)))))))))))))
def A_X12_gap_12 (σ : St) (f : FI) (g : FL) (a : Nat) (x1 : Int) (r : St × List Vl) : Prop := ∀ (y2 : Option Vl) (y3 : Option Vl) (y4 : Option Vl), Gx mt 6 cd_X12_gap (il σ f g) (cd_X12_gap 12) [some (vR 12 (some a)), some (vI x1), y2, y3, y4] [] r
def A_X12_gap_20 (σ : St) (f : FI) (g : FL) (a : Nat) (x1 : Int) (x2 : Int) (r : St × List Vl) : Prop := ∀ (y3 : Option Vl) (y4 : Option Vl), Gx mt 6 cd_X12_gap (il σ f g) (cd_X12_gap 20) [some (vR 12 (some a)), some (vI x1), some (vI x2), y3, y4] [] r
def A_X12_gap_41 (σ : St) (f : FI) (g : FL) (a : Nat) (x1 : Int) (x2 : Int) (r : St × List Vl) : Prop := ∀ (y3 : Option Vl) (y4 : Option Vl), Gx mt 6 cd_X12_gap (il σ f g) (cd_X12_gap 41) [some (vR 12 (some a)), some (vI x1), some (vI x2), y3, y4] [] r
def A_X12_gap_77 (σ : St) (f : FI) (g : FL) (a : Nat) (x1 : Int) (x2 : Int) (x3 : Int) (r : St × List Vl) : Prop := ∀ (y4 : Option Vl), Gx mt 6 cd_X12_gap (il σ f g) (cd_X12_gap 77) [some (vR 12 (some a)), some (vI x1), some (vI x2), some (vI x3), y4] [] r
def A_X12_gap_94 (σ : St) (f : FI) (g : FL) (a : Nat) (x1 : Int) (x2 : Int) (x3 : Int) (x4 : Int) (r : St × List Vl) : Prop := Gx mt 6 cd_X12_gap (il σ f g) (cd_X12_gap 94) [some (vR 12 (some a)), some (vI x1), some (vI x2), some (vI x3), some (vI x4)] [] r
theorem bk_X12_gap_0 {σ : St} {f : FI} {g : FL} {a : Nat} {r : St × List Vl} (hs : Sh12 σ a) (h : ((1 ≤ (f a 51) → (A_X12_gap_12 σ f g a 1 r)) ∧ (¬ 1 ≤ (f a 51) → (r = ((il σ f g), [vI (-1)]))))) : Ex mt 6 310 (il σ f g) [vR 12 (some a)] r := Ex.mk mt_310 (show Gx mt 6 cd_X12_gap (il σ f g) b_X12_gap_0 [some (vR 12 (some a)), none, none, none, none] [] r from (go_loadA rfl (gi_getI (go_pushI rfl (gq_icmp_ge (fun e3 => have h1 := h.1 e3; (go_pushI rfl (go_stoI rfl rfl (go_fall (h1 _ _ _))))) (fun e3 => have h2 := h.2 e3; (go_pushI rfl (h2 ▸ gq_retI))))))))
theorem bk_X12_gap_12 {σ : St} {f : FI} {g : FL} {a : Nat} {x1 : Int} {r : St × List Vl} (hs : Sh12 σ a) (h : ((10 ≤ x1 → (r = ((il σ f g), [vI (-2)]))) ∧ (¬ 10 ≤ x1 → (A_X12_gap_20 σ f g a x1 0 r)))) : A_X12_gap_12 σ f g a x1 r := fun y2 y3 y4 => (show Gx mt 6 cd_X12_gap (il σ f g) b_X12_gap_12 [some (vR 12 (some a)), some (vI x1), y2, y3, y4] [] r from (go_loadI rfl (go_pushI rfl (gq_icmp_ge (fun e3 => have h1 := h.1 e3; (go_pushI rfl (h1 ▸ gq_retI))) (fun e3 => have h2 := h.2 e3; (go_pushI rfl (go_stoI rfl rfl (go_fall (h2 _ _)))))))))
theorem bk_X12_gap_20 {σ : St} {f : FI} {g : FL} {a : Nat} {x1 : Int} {x2 : Int} {r : St × List Vl} (hs : Sh12 σ a) (h : ((8 ≤ x2 → (A_X12_gap_41 σ f g a x1 0 r)) ∧ (¬ 8 ≤ x2 → ((0 ≤ x2 ∧ x2 < 8) ∧ (-2147483648 ≤ (x2 + 1) ∧ (x2 + 1) ≤ 2147483647)) ∧ (A_X12_gap_20 σ (up2 f (a + 54) ((x2).toNat) (-1)) g a x1 (x2 + 1) r)))) : A_X12_gap_20 σ f g a x1 x2 r := fun y3 y4 => (show Gx mt 6 cd_X12_gap (il σ f g) b_X12_gap_20 [some (vR 12 (some a)), some (vI x1), some (vI x2), y3, y4] [] r from (go_loadI rfl (go_pushI rfl (gq_icmp_ge (fun e3 => have h1 := h.1 e3; (go_pushI rfl (go_stoI rfl rfl (go_fall (h1 _ _))))) (fun e3 => have h2 := h.2 e3; (go_loadA rfl (gi_getR (Sh12.r78 hs) (go_loadI rfl (go_pushI rfl (gi_iast (inl_ (Sh12.l78 hs) h2.1.1) (go_iinc rfl h2.1.2 rfl (go_goto (h2.2 _ _)))))))))))))
theorem bk_X12_gap_41 {σ : St} {f : FI} {g : FL} {a : Nat} {x1 : Int} {x2 : Int} {r : St × List Vl} (hs : Sh12 σ a) (h : (((f a 51) ≤ x2 → (∃ (f4 : FI) (g5 : FL), Ex mt 5 308 (il σ f g) [vR 12 (some a)] ((il σ f4 g5), []) ∧ (A_X12_gap_77 σ f4 g5 a x1 1 0 r))) ∧ (¬ (f a 51) ≤ x2 → ((0 ≤ x2 ∧ x2 < 8) ∧ (-2147483648 ≤ (x1 * x2) ∧ (x1 * x2) ≤ 2147483647) ∧ (0 ≤ (f (a + 33) ((x2).toNat)) ∧ (f (a + 33) ((x2).toNat)) < 8) ∧ (-2147483648 ≤ (x2 + 1) ∧ (x2 + 1) ≤ 2147483647)) ∧ (A_X12_gap_41 σ (up2 f (a + 54) (((f (a + 33) ((x2).toNat))).toNat) (x1 * x2)) g a x1 (x2 + 1) r)))) : A_X12_gap_41 σ f g a x1 x2 r := fun y3 y4 => (show Gx mt 6 cd_X12_gap (il σ f g) b_X12_gap_41 [some (vR 12 (some a)), some (vI x1), some (vI x2), y3, y4] [] r from (go_loadI rfl (go_loadA rfl (gi_getI (gq_icmp_ge (fun e3 => have h1 := h.1 e3; (go_loadA rfl (Exists.elim h1 fun f4 w7 => Exists.elim w7 fun g5 h6 => (go_callV rfl rfl rfl h6.1 (go_pushI rfl (go_stoI rfl rfl (go_pushI rfl (go_stoI rfl rfl (go_fall (h6.2 _)))))))))) (fun e3 => have h2 := h.2 e3; (go_loadA rfl (gi_getR (Sh12.r78 hs) (go_loadA rfl (gi_getR (Sh12.r50 hs) (go_loadI rfl (gi_iald (inl_ (Sh12.l50 hs) h2.1.1) (go_loadI rfl (go_loadI rfl (go_imul h2.1.2.1 (gi_iast (inl_ (Sh12.l78 hs) h2.1.2.2.1) (go_iinc rfl h2.1.2.2.2 rfl (go_goto (h2.2 _ _)))))))))))))))))))
theorem bk_X12_gap_77 {σ : St} {f : FI} {g : FL} {a : Nat} {x1 : Int} {x2 : Int} {x3 : Int} {r : St × List Vl} (hs : Sh12 σ a) (h : ((-2147483648 ≤ (x1 * (f a 51)) ∧ (x1 * (f a 51)) ≤ 2147483647)) ∧ (((x1 * (f a 51)) < x3 → ((x2 = 0 → ((-2147483648 ≤ (x1 + 1) ∧ (x1 + 1) ≤ 2147483647)) ∧ (A_X12_gap_12 σ f g a (x1 + 1) r)) ∧ (¬ x2 = 0 → (r = ((il σ f g), [vI x1]))))) ∧ (¬ (x1 * (f a 51)) < x3 → ((x2 = 0 → ((x2 = 0 → ((-2147483648 ≤ (x1 + 1) ∧ (x1 + 1) ≤ 2147483647)) ∧ (A_X12_gap_12 σ f g a (x1 + 1) r)) ∧ (¬ x2 = 0 → (r = ((il σ f g), [vI x1]))))) ∧ (¬ x2 = 0 → (A_X12_gap_94 σ f g a x1 x2 x3 0 r)))))) : A_X12_gap_77 σ f g a x1 x2 x3 r := fun y4 => (show Gx mt 6 cd_X12_gap (il σ f g) b_X12_gap_77 [some (vR 12 (some a)), some (vI x1), some (vI x2), some (vI x3), y4] [] r from (go_loadI rfl (go_loadI rfl (go_loadA rfl (gi_getI (go_imul h.1 (gq_icmp_gt (fun e3 => have h1 := h.2.1 e3; (go_loadI rfl (gq_if_eq (fun e6 => have h4 := h1.1 e6; (go_iinc rfl h4.1 rfl (go_goto (h4.2 _ _ _)))) (fun e6 => have h5 := h1.2 e6; (go_loadI rfl (h5 ▸ gq_retI)))))) (fun e3 => have h2 := h.2.2 e3; (go_loadI rfl (gq_if_eq (fun e9 => have h7 := h2.1 e9; (go_loadI rfl (gq_if_eq (fun e12 => have h10 := h7.1 e12; (go_iinc rfl h10.1 rfl (go_goto (h10.2 _ _ _)))) (fun e12 => have h11 := h7.2 e12; (go_loadI rfl (h11 ▸ gq_retI)))))) (fun e9 => have h8 := h2.2 e9; (go_pushI rfl (go_stoI rfl rfl (go_fall (h8)))))))))))))))
theorem bk_X12_gap_94 {σ : St} {f : FI} {g : FL} {a : Nat} {x1 : Int} {x2 : Int} {x3 : Int} {x4 : Int} {r : St × List Vl} (hs : Sh12 σ a) (h : ((512 ≤ x4 → ((-2147483648 ≤ (x3 + 1) ∧ (x3 + 1) ≤ 2147483647)) ∧ (A_X12_gap_77 σ f g a x1 x2 (x3 + 1) r)) ∧ (¬ 512 ≤ x4 → ((x2 = 0 → ((-2147483648 ≤ (x3 + 1) ∧ (x3 + 1) ≤ 2147483647)) ∧ (A_X12_gap_77 σ f g a x1 x2 (x3 + 1) r)) ∧ (¬ x2 = 0 → ((0 ≤ x4 ∧ x4 < 512) ∧ (0 ≤ f a 33 ∧ f a 33 ≤ 255)) ∧ ((¬ ((hB (f a 33) (x4 / 64))) → ((-2147483648 ≤ (x4 + 1) ∧ (x4 + 1) ≤ 2147483647)) ∧ (A_X12_gap_94 σ f g a x1 1 x3 (x4 + 1) r)) ∧ (((hB (f a 33) (x4 / 64))) → (∃ (f10 : FI) (g11 : FL) (v13 : Int), Ex mt 4 306 (il σ f g) [vR 12 (some a), vI x4, vI x3] ((il σ f10 g11), [vI v13]) ∧ (∃ (f14 : FI) (g15 : FL) (v17 : Int), Ex mt 0 268 (il σ f10 g11) [vR 12 (some a), vI x4, vI v13] ((il σ f14 g15), [vI v17]) ∧ ((¬ v17 = 0 → ((-2147483648 ≤ (x4 + 1) ∧ (x4 + 1) ≤ 2147483647)) ∧ (A_X12_gap_94 σ f14 g15 a x1 0 x3 (x4 + 1) r)) ∧ (v17 = 0 → ((-2147483648 ≤ (x4 + 1) ∧ (x4 + 1) ≤ 2147483647)) ∧ (A_X12_gap_94 σ f14 g15 a x1 1 x3 (x4 + 1) r)))))))))))) : A_X12_gap_94 σ f g a x1 x2 x3 x4 r := (show Gx mt 6 cd_X12_gap (il σ f g) b_X12_gap_94 [some (vR 12 (some a)), some (vI x1), some (vI x2), some (vI x3), some (vI x4)] [] r from (go_loadI rfl (go_pushI rfl (gq_icmp_ge (fun e3 => have h1 := h.1 e3; (go_iinc rfl h1.1 rfl (go_goto (h1.2 _)))) (fun e3 => have h2 := h.2 e3; (go_loadI rfl (gq_if_eq (fun e6 => have h4 := h2.1 e6; (go_iinc rfl h4.1 rfl (go_goto (h4.2 _)))) (fun e6 => have h5 := h2.2 e6; (go_loadA rfl (go_loadI rfl (go_callV rfl rfl rfl (pu_enters hs h5.1.1 h5.1.2) (go_ifb_eq (fun e9 => have h7 := h5.2.1 e9; (go_pushI rfl (go_goto (go_stoI rfl rfl (go_iinc rfl h7.1 rfl (go_goto (h7.2))))))) (fun e9 => have h8 := h5.2.2 e9; (go_loadA rfl (go_loadI rfl (go_loadA rfl (go_loadI rfl (go_loadI rfl (Exists.elim h8 fun f10 w23 => Exists.elim w23 fun g11 w24 => Exists.elim w24 fun v13 h12 => (go_callV rfl rfl rfl h12.1 (Exists.elim h12.2 fun f14 w21 => Exists.elim w21 fun g15 w22 => Exists.elim w22 fun v17 h16 => (go_callV rfl rfl rfl h16.1 (gq_if_ne (fun e20 => have h18 := h16.2.1 e20; (go_pushI rfl (go_fall (go_stoI rfl rfl (go_iinc rfl h18.1 rfl (go_goto (h18.2))))))) (fun e20 => have h19 := h16.2.2 e20; (go_fall (go_pushI rfl (go_goto (go_stoI rfl rfl (go_iinc rfl h19.1 rfl (go_goto (h19.2)))))))))))))))))))))))))))))))
theorem bk_X11_gap_0 {σ : St} {f : FI} {g : FL} {a : Nat} {r : St × List Vl} (hs : Sh11 σ a) (h : (∃ (σ4 : St) (f1 : FI) (g2 : FL) (v5 : Int), Ex mt 4 80 (il σ f g) [vR 5 (some (a + 144))] ((il σ4 f1 g2), [vI v5]) ∧ (r = ((il σ4 f1 g2), [vI v5])))) : Ex mt 5 186 (il σ f g) [vR 11 (some a)] r := Ex.mk mt_186 (show Gx mt 5 cd_X11_gap (il σ f g) b_X11_gap_0 [some (vR 11 (some a))] [] r from (go_loadA rfl (gi_getR (Sh11.r10 hs) (Exists.elim h fun σ4 w6 => Exists.elim w6 fun f1 w7 => Exists.elim w7 fun g2 w8 => Exists.elim w8 fun v5 h3 => (go_callV rfl rfl rfl h3.1 (h3.2 ▸ gq_retI))))))
theorem sn_ge {G G' : Int → Int → Int} {T : Int} (h : ∀ t p, T ≤ t → pk p → G t p = G' t p) : ∀ (k : Nat) (t p : Int), T ≤ t → pk p → sn G k t p = sn G' k t p
  | 0, _, _, _, _ => rfl
  | k + 1, t, p, ht, hp => by
    have e := h t p ht hp
    by_cases z : pk (G t p)
    · rw [sn_s z, sn_s (by rw [← e]; exact z), ← e]
      exact sn_ge h k (t + 1) _ (by omega) z
    · rw [sn_e z, sn_e (by rw [← e]; exact z), e]
theorem sn_con {G : Int → Int} : ∀ (k : Nat) (t t' p : Int), sn (fun _ z => G z) k t p = sn (fun _ z => G z) k t' p
  | 0, _, _, _ => rfl
  | k + 1, t, t', p => by
    by_cases z : pk (G p)
    · rw [sn_s (G := fun _ z => G z) (t := t) z, sn_s (G := fun _ z => G z) (t := t') z]
      exact sn_con k _ _ _
    · rw [sn_e (G := fun _ z => G z) (t := t) z, sn_e (G := fun _ z => G z) (t := t') z]
theorem Qu_of {f f' : FI} {B : Nat} {G G' : Int → Int → Int} {o1 o1' o2 o2' : Nat → Int} {t : Int} (eE : f' (B + 43) 2 = f (B + 43) 2) (eG : ∀ t' p, t ≤ t' → pk p → G' t' p = G t' p) (e1 : ∀ q : Nat, q < 512 → En f B q → o1' q = o1 q) (e2 : ∀ q : Nat, q < 512 → En f B q → o2' q = o2 q) : Qu f' B G' o1' o2' t ↔ Qu f B G o1 o2 t := by
  have eN : ∀ q : Int, En f' B q ↔ En f B q := fun q => by unfold En; rw [eE]
  have es : ∀ q : Nat, q < 512 → sn G' 100 t (q : Int) = sn G 100 t (q : Int) := fun q hq => sn_ge eG 100 t _ (by omega) (by omega)
  unfold Qu
  constructor
  · intro h q hq hE
    rw [← es q hq, ← e1 q hq hE, ← e2 q hq hE]
    exact h q hq ((eN _).mpr hE)
  · intro h q hq hE
    have hE' := (eN _).mp hE
    rw [es q hq, e1 q hq hE', e2 q hq hE']
    exact h q hq hE'
theorem tkg_cong {o o' : Nat → Int} {gp : Int} {b : Nat} : ∀ k, (∀ i, i < k → o' i = o i) → tkg o' gp k b = tkg o gp k b
  | 0, _ => rfl
  | k + 1, h => by
    by_cases e : o k = (b : Int)
    · rw [tkg_1 e, tkg_1 (by rw [h k (by omega)]; exact e)]
    · rw [tkg_2 e, tkg_2 (by rw [h k (by omega)]; exact e), tkg_cong k fun i hi => h i (by omega)]
theorem wbN_cong {o o' : Nat → Int} {gp t : Int} : ∀ k, (∀ i, i < k → o' i = o i) → wbN o' gp t k = wbN o gp t k
  | 0, _ => rfl
  | k + 1, h => by
    by_cases e : t < (k : Int) * gp
    · rw [wbN_1 e, wbN_1 e, wbN_cong k fun i hi => h i (by omega)]
    · rw [wbN_2 e, wbN_2 e, wbN_cong k fun i hi => h i (by omega), h k (by omega)]
/-- with this gap nobody is seen as neither -/
def GQ (f : FI) (g : FL) (B n : Nat) (gp : Int) : Prop := ∀ t : Int, 0 ≤ t → t ≤ gp * (n : Int) → Qu f B (GK f g B (tkg (f (B + 146)) gp n)) (fun q => enD (GB f g B 0) (q : Int)) (fun q => enD (GB f g B (wbN (f (B + 146)) 0 0 n : Nat)) (q : Int)) t
/-- the least such gap -/
def Ga (P : Int → Prop) (a v : Int) : Prop := (v = -2 ∧ ∀ x, a ≤ x → x ≤ 9 → ¬ P x) ∨ ((a ≤ v ∧ v ≤ 9) ∧ P v ∧ ∀ x, a ≤ x → x < v → ¬ P x)
theorem Ga.one {P : Int → Prop} {v w : Int} (h : Ga P 1 v) (h2 : Ga P 1 w) : v = w := by
  rcases h with ⟨a1, a2⟩ | ⟨a1, a2, a3⟩ <;> rcases h2 with ⟨b1, b2⟩ | ⟨b1, b2, b3⟩
  · omega
  · exact absurd b2 (a2 w (by omega) (by omega))
  · exact absurd a2 (b2 v (by omega) (by omega))
  · rcases Int.lt_trichotomy v w with z | z | z
    · exact absurd a2 (b3 v (by omega) z)
    · exact z
    · exact absurd b2 (a3 w (by omega) z)
theorem Ga.back {P : Int → Prop} {a v : Int} (h : Ga P (a + 1) v) (hn : ¬ P a) : Ga P a v := by
  have k : ∀ x, a ≤ x → x < a + 1 → ¬ P x := fun x h1 h2 => by
    obtain rfl : x = a := by omega
    exact hn
  rcases h with ⟨a1, a2⟩ | ⟨a1, a2, a3⟩
  · refine Or.inl ⟨a1, fun x h1 h2 => ?_⟩
    by_cases z : x < a + 1
    · exact k x h1 z
    · exact a2 x (by omega) h2
  · refine Or.inr ⟨by omega, a2, fun x h1 h2 => ?_⟩
    by_cases z : x < a + 1
    · exact k x h1 z
    · exact a3 x (by omega) h2
/-- from the last write on all ticks are alike -/
theorem GK_late {f : FI} {g : FL} {B n : Nat} {o : Nat → Int} {gp : Int} (hg : 0 ≤ gp) (ho : ∀ i, i < n → 0 ≤ o i ∧ o i ≤ 7) (hd : ∀ i j, i < j → j < n → ¬ o i = o j) {t p : Int} (ht : gp * ((n : Int) - 1) ≤ t) (hp : pk p) : GK f g B (tkg o gp n) t p = GB f g B (wbN o 0 0 n : Nat) p := by
  rw [← GB_wb ho hd hg hp, wbN_all n fun i hi => ?_]
  rw [Int.mul_comm]
  exact Int.le_trans (Int.mul_le_mul_of_nonneg_left (by omega) hg) ht
theorem x_findGap {σ : St} {f : FI} {g : FL} {B n : Nat} {nn : Nat → Nat} (hs : Sh5 σ (B + 43)) (hT : TCs f B nn) (hen : 0 ≤ f (B + 43) 2 ∧ f (B + 43) 2 ≤ 255) (hn : f (B + 144) 3 = (n : Int)) (h8 : 1 ≤ n ∧ n ≤ 8) (ho : ∀ i, i < n → 0 ≤ f (B + 146) i ∧ f (B + 146) i ≤ 7) (hd : ∀ i j, i < j → j < n → ¬ f (B + 146) i = f (B + 146) j) : ∃ (σ' : St) (f' : FI) (v : Int), Ga (GQ f g B n) 1 v ∧ Ex mt 4 80 (il σ f g) [vR 5 (some (B + 144))] (il σ' f' g, [vI v]) ∧ Sw B σ σ' ∧ (∀ c, c < B + 149 ∨ B + 153 < c → f' c = f c) := by
  have wl : wbN (f (B + 146)) 0 0 n < 256 := wbN_lt n ho
  obtain ⟨f1, E1, a1, a2⟩ := x_fillEnds (σ := σ) (f := f) (g := g) (e := B + 149) (b := 0) hs.o0 hs.l6 (by omega) (by omega) hT hen
  have eT1 : SameT f f1 B := fun a h1 h2 => a1 a (by omega)
  obtain ⟨f2, E2, b1, b2⟩ := x_fillEnds (σ := σ) (f := f1) (g := g) (e := B + 150) (b := (wbN (f (B + 146)) 0 0 n : Nat)) hs.o0 hs.l7 (by omega) (by omega) (hT.of eT1) (by rw [a1 _ (by omega)]; exact hen)
  have eT2 : SameT f f2 B := fun a h1 h2 => by rw [b1 a (by omega), a1 a (by omega)]
  obtain ⟨f3, E3, c1, c2⟩ := x_settleAll (σ := σ) (f := f2) (g := g) (b := (wbN (f (B + 146)) 0 0 n : Nat)) hs (hT.of eT2) (by omega)
  have e3 : ∀ c, c < B + 149 ∨ B + 153 < c → f3 c = f c := fun c hc => by rw [c1 c (by omega), b1 c (by omega), a1 c (by omega)]
  have eT3 : SameT f f3 B := fun a h1 h2 => e3 a (by omega)
  have o1 : ∀ q : Nat, q < 512 → En f B q → f3 (B + 149) q = enD (GB f g B 0) (q : Int) := fun q hq hE => by rw [c1 _ (by omega), b1 _ (by omega)]; exact a2 q hq hE
  have o2 : ∀ q : Nat, q < 512 → En f B q → f3 (B + 150) q = enD (GB f g B (wbN (f (B + 146)) 0 0 n : Nat)) (q : Int) := fun q hq hE => by
    rw [c1 _ (by omega), b2 q hq (by unfold En at hE ⊢; rw [a1 _ (by omega)]; exact hE)]
    exact enD_cong fun z hz => GB_of hz eT1 rfl
  have eG2 : ∀ z, pk z → GB f2 g B (wbN (f (B + 146)) 0 0 n : Nat) z = GB f g B (wbN (f (B + 146)) 0 0 n : Nat) z := fun z hz => GB_of hz eT2 rfl
  obtain ⟨v0, u1, u2, E4⟩ := x_quietAhead (σ := σ) (f := f3) (g := g) (B := B) (e := B + 151) hs hs.l8 (by rw [e3 _ (by omega)]; exact hen)
  -- the settled row is quiet
  have u3 : ∀ gp : Int, 1 ≤ gp → ∀ t, gp * ((n : Int) - 1) ≤ t → (v0 = 1 ↔ Qu f B (GK f g B (tkg (f (B + 146)) gp n)) (fun q => enD (GB f g B 0) (q : Int)) (fun q => enD (GB f g B (wbN (f (B + 146)) 0 0 n : Nat)) (q : Int)) t) := fun gp hg t ht => by
    have s : Qu f3 B (fun _ z => GB f2 g B (wbN (f (B + 146)) 0 0 n : Nat) z) (f3 (B + 149)) (f3 (B + 150)) t ↔ Qu f B (GK f g B (tkg (f (B + 146)) gp n)) (fun q => enD (GB f g B 0) (q : Int)) (fun q => enD (GB f g B (wbN (f (B + 146)) 0 0 n : Nat)) (q : Int)) t := Qu_of (by rw [e3 _ (by omega)]) (fun t' p h1 hp => by rw [GK_late (by omega) ho hd (by omega) hp]; exact eG2 p hp) o1 o2
    rw [← s, u2]
    unfold Qu
    constructor
    · intro h q hq hE
      rw [(c2 t).at hq]
      exact h q hq hE
    · intro h q hq hE
      have := h q hq hE
      rw [(c2 t).at hq] at this
      exact this
  have loop : ∀ k i : Nat, i + k = 10 → 1 ≤ i → v0 = 1 → ∀ (σi : St) (fi : FI), Sw B σ σi → (∀ c, c ≠ B + 152 → c ≠ B + 153 → fi c = f3 c) → ∃ (σ' : St) (f' : FI) (v : Int), Ga (GQ f g B n) (i : Int) v ∧ A_X5_findGap_83 σi fi g (B + 43) (i : Int) (il σ' f' g, [vI v]) ∧ Sw B σ σ' ∧ (∀ c, c ≠ B + 152 → c ≠ B + 153 → f' c = f3 c) := by
    intro k
    induction k with
    | zero =>
      intro i hi h1 hv σi fi hSw hF
      obtain rfl : i = 10 := by omega
      exact ⟨σi, fi, -2, Or.inl ⟨rfl, fun x h1 h2 => absurd h1 (by omega)⟩, bk_X5_findGap_83 (hSw.ks.sh5 hs) ⟨fun _ => rfl, fun z => absurd (by decide) z⟩, hSw, hF⟩
    | succ k ih =>
      intro i hi h1 hv σi fi hSw hF
      have hsi := hSw.ks.sh5 hs
      have ef : ∀ c, c < B + 149 → fi c = f c := fun c hc => by rw [hF c (by omega) (by omega), e3 c (by omega)]
      have eT : SameT f fi B := fun a h3 h4 => ef a (by omega)
      have e146 : fi (B + 146) = f (B + 146) := ef _ (by omega)
      have eK : ∀ t p, pk p → GK fi g B (tkg (fi (B + 146)) (i : Int) n) t p = GK f g B (tkg (f (B + 146)) (i : Int) n) t p := fun t p hp => by
        rw [e146]
        exact GK_of hp eT rfl fun _ _ => rfl
      obtain ⟨σ2, f4, v, w1, w2, E5, S5, F5⟩ := x_isQuiet (σ := σi) (f := fi) (g := g) (B := B) (n := n) (gp := (i : Int)) hsi (hT.of eT) (by rw [ef _ (by omega)]; exact hen) (by rw [ef _ (by omega)]; exact hn) h8 (by rw [e146]; exact ho) (by rw [e146]; exact hd) (by omega) (by
        intro p hp
        have := c2 ((i : Int) * ((n : Int) - 1)) p hp
        dsimp only at this ⊢
        rw [hF (B + 151) (by omega) (by omega)]
        refine ⟨this.1, fun k hk => ?_⟩
        rw [← this.2 k hk]
        exact sn_ge (T := (i : Int) * ((n : Int) - 1)) (fun t' q h3 hq => by
          rw [eK t' q hq, GK_late (by omega) ho hd h3 hq]
          exact (eG2 q hq).symm) k _ _ (by omega) (by omega))
      have w3 : v = 1 ↔ GQ f g B n (i : Int) := by
        have eq : ∀ t, Qu fi B (GK fi g B (tkg (fi (B + 146)) (i : Int) n)) (fi (B + 149)) (fi (B + 150)) t ↔ Qu f B (GK f g B (tkg (f (B + 146)) (i : Int) n)) (fun q => enD (GB f g B 0) (q : Int)) (fun q => enD (GB f g B (wbN (f (B + 146)) 0 0 n : Nat)) (q : Int)) t := fun t => Qu_of (by rw [ef _ (by omega)]) (fun t' p _ hp => eK t' p hp) (fun q hq hE => by rw [hF _ (by omega) (by omega)]; exact o1 q hq hE) (fun q hq hE => by rw [hF _ (by omega) (by omega)]; exact o2 q hq hE)
        rw [w2]
        unfold GQ
        constructor
        · intro h t h2 h3
          by_cases z : t < (i : Int) * ((n : Int) - 1)
          · exact (eq t).mp (h t h2 z)
          · exact (u3 i (by omega) t (by omega)).mp hv
        · intro h t h2 h3
          refine (eq t).mpr (h t h2 (Int.le_trans (Int.le_of_lt h3) (Int.mul_le_mul_of_nonneg_left (by omega) (by omega))))
      have hF4 : ∀ c, c ≠ B + 152 → c ≠ B + 153 → f4 c = f3 c := fun c h2 h3 => by rw [F5 c h2 h3, hF c h2 h3]
      rcases w1 with rfl | rfl
      · obtain ⟨σ', f', v, G, A, r⟩ := ih (i + 1) (by omega) (by omega) hv σ2 f4 (hSw.trans S5) hF4
        exact ⟨σ', f', v, Ga.back G fun z => absurd (w3.mpr z) (by decide), bk_X5_findGap_83 hsi ⟨fun z => absurd z (by omega), fun _ => ⟨σ2, f4, g, 0, E5, fun _ => ⟨by omega, A⟩, fun z => absurd rfl z⟩⟩, r⟩
      · exact ⟨σ2, f4, i, Or.inr ⟨by omega, w3.mp rfl, fun x h2 h3 => absurd h3 (by omega)⟩, bk_X5_findGap_83 hsi ⟨fun z => absurd z (by omega), fun _ => ⟨σ2, f4, g, 1, E5, fun z => absurd z (by decide), fun _ => rfl⟩⟩, hSw.trans S5, hF4⟩
  have fin : ∃ (σ' : St) (f' : FI) (v : Int), Ga (GQ f g B n) 1 v ∧ A_X5_findGap_13 σ f g (B + 43) (wbN (f (B + 146)) 0 0 n : Nat) (n : Int) (il σ' f' g, [vI v]) ∧ Sw B σ σ' ∧ (∀ c, c < B + 149 ∨ B + 153 < c → f' c = f c) := by
    rcases u1 with rfl | rfl
    · refine ⟨σ, f3, -2, Or.inl ⟨rfl, fun x h1 h2 z => absurd ((u3 x h1 (x * (n : Int)) ?_).mpr (z (x * (n : Int)) (Int.mul_nonneg (by omega) (by omega)) (by omega))) (by decide)⟩, bk_X5_findGap_13 hs ⟨fun _ => ⟨f1, g, E1, f2, g, E2, f3, g, E3, f3, g, 0, E4, fun z => absurd rfl z, fun _ => rfl⟩, fun z => absurd (by rw [show f (B + 43 + 101) 3 = (n : Int) from hn]; omega) z⟩, Sw.rfl' hs, e3⟩
      exact Int.mul_le_mul_of_nonneg_left (by omega) (by omega)
    · obtain ⟨σ', f', v, G, A, S, F⟩ := loop 9 1 rfl (by omega) rfl σ f3 (Sw.rfl' hs) (fun _ _ _ => rfl)
      exact ⟨σ', f', v, G, bk_X5_findGap_13 hs ⟨fun _ => ⟨f1, g, E1, f2, g, E2, f3, g, E3, f3, g, 1, E4, fun _ => A, fun z => absurd z (by decide)⟩, fun z => absurd (by rw [show f (B + 43 + 101) 3 = (n : Int) from hn]; omega) z⟩, S, fun c hc => by rw [F c (by omega) (by omega)]; exact e3 c hc⟩
  obtain ⟨σ', f', v, G, A, r⟩ := fin
  have loop13 : ∀ k i : Nat, i + k = n → A_X5_findGap_13 σ f g (B + 43) (wbN (f (B + 146)) 0 0 i : Nat) (i : Int) (il σ' f' g, [vI v]) := by
    intro k
    induction k with
    | zero =>
      intro i hi
      obtain rfl : i = n := by omega
      exact A
    | succ k ih =>
      intro i hi
      have A := ih (i + 1) (by omega)
      have oi := ho i (by omega)
      have ul := wbN_31 (o := f (B + 146)) (gp := 0) (t := 0) (k := i) fun j hj => ho j (by omega)
      have e : f (B + 146) i = ((f (B + 146) i).toNat : Int) := by omega
      refine bk_X5_findGap_13 hs ⟨fun z => absurd z (by rw [show f (B + 43 + 101) 3 = (n : Int) from hn]; omega), fun _ => ⟨⟨by omega, ?_, by omega⟩, ?_⟩⟩
      · show 0 ≤ f (B + 146) i ∧ f (B + 146) i < 31
        omega
      · rw [wbN_2 (by omega)] at A
        rw [show p2 (f (B + 43 + 103) ((i : Int)).toNat) = p2 (((f (B + 146) i).toNat : Nat) : Int) from congrArg p2 e, iOr_p2 ul (by omega)]
        exact A
  exact ⟨σ', f', v, G, bk_X5_findGap_0 hs ⟨fun _ => loop13 n 0 (by omega), fun z => absurd (by rw [show f (B + 43 + 101) 3 = (n : Int) from hn]; omega) z⟩, r⟩
