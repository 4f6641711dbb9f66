/-! packed: the model, and the call pair -/
theorem bk_X12_deal_0 {σ : St} {f : FI} {g : FL} {a : Nat} {x1 : Int} {x2 : Int} {r : St × List Vl} (hs : Sh12 σ a) (h : ((x1 = (-1) → (r = ((il σ f g), [vI (-1)]))) ∧ (¬ x1 = (-1) → ((0 ≤ x1 ∧ x1 < 192)) ∧ ((¬ (f (a + 20) ((x1).toNat)) = 9 → ((0 ≤ x1 ∧ x1 < 192) ∧ (0 ≤ (f (a + 19) ((x1).toNat)) ∧ (f (a + 19) ((x1).toNat)) ≤ 124) ∧ (0 ≤ x2 ∧ x2 < 512) ∧ (-2147483648 ≤ (16 * (setF (f (a + 19) ((x1).toNat)) x2)) ∧ (16 * (setF (f (a + 19) ((x1).toNat)) x2)) ≤ 2147483647) ∧ (-2147483648 ≤ ((16 * (setF (f (a + 19) ((x1).toNat)) x2)) + (f (a + 20) ((x1).toNat))) ∧ ((16 * (setF (f (a + 19) ((x1).toNat)) x2)) + (f (a + 20) ((x1).toNat))) ≤ 2147483647)) ∧ (r = ((il σ f g), [vI ((16 * (setF (f (a + 19) ((x1).toNat)) x2)) + (f (a + 20) ((x1).toNat)))]))) ∧ ((f (a + 20) ((x1).toNat)) = 9 → (r = ((il σ f g), [vI (-1)]))))))) : Ex mt 2 263 (il σ f g) [vR 12 (some a), vI x1, vI x2] r := Ex.mk mt_263 (show Gx mt 2 cd_X12_deal (il σ f g) b_X12_deal_0 [some (vR 12 (some a)), some (vI x1), some (vI x2)] [] r from (go_loadI rfl (go_pushI rfl (gq_icmp_eq (fun e3 => have h1 := h.1 e3; (go_pushI rfl (go_goto (h1 ▸ gq_retI)))) (fun e3 => have h2 := h.2 e3; (go_loadA rfl (gi_getR (Sh12.r30 hs) (go_loadI rfl (gi_iald (inl_ (Sh12.l30 hs) h2.1) (go_pushI rfl (gq_icmp_ne (fun e6 => have h4 := h2.2.1 e6; (go_pushI rfl (go_loadA rfl (gi_getR (Sh12.r29 hs) (go_loadI rfl (gi_iald (inl_ (Sh12.l29 hs) h4.1.1) (go_loadI rfl (go_callS rfl rfl rfl (pu_set h4.1.2.1 h4.1.2.2.1) (go_imul h4.1.2.2.2.1 (go_loadA rfl (gi_getR (Sh12.r30 hs) (go_loadI rfl (gi_iald (inl_ (Sh12.l30 hs) h4.1.1) (go_iadd h4.1.2.2.2.2 (go_fall (h4.2 ▸ gq_retI)))))))))))))))) (fun e6 => have h5 := h2.2.2 e6; (go_fall (go_pushI rfl (go_goto (h5 ▸ gq_retI))))))))))))))))
def A_X12_dealsAlike_6 (σ : St) (f : FI) (g : FL) (a : Nat) (x1 : Int) (x2 : Int) (x3 : Int) (x4 : Int) (x5 : Int) (r : St × List Vl) : Prop := ∀ (y6 : Option Vl) (y7 : Option Vl), Gx mt 3 cd_X12_dealsAlike (il σ f g) (cd_X12_dealsAlike 6) [some (vR 12 (some a)), some (vI x1), some (vI x2), some (vI x3), some (vI x4), some (vI x5), y6, y7] [] r
def A_X12_dealsAlike_32 (σ : St) (f : FI) (g : FL) (a : Nat) (x1 : Int) (x2 : Int) (x3 : Int) (x5 : Int) (x6 : Int) (x7 : Int) (r : St × List Vl) : Prop := ∀ (y4 : Int), Gx mt 3 cd_X12_dealsAlike (il σ f g) (cd_X12_dealsAlike 32) [some (vR 12 (some a)), some (vI x1), some (vI x2), some (vI x3), some (vI y4), some (vI x5), some (vI x6), some (vI x7)] [] r
def A_X12_dealsAlike_56 (σ : St) (f : FI) (g : FL) (a : Nat) (x1 : Int) (x2 : Int) (x3 : Int) (x5 : Int) (x6 : Int) (x7 : Int) (r : St × List Vl) : Prop := ∀ (y4 : Int), Gx mt 3 cd_X12_dealsAlike (il σ f g) (cd_X12_dealsAlike 56) [some (vR 12 (some a)), some (vI x1), some (vI x2), some (vI x3), some (vI y4), some (vI x5), some (vI x6), some (vI x7)] [] r
def A_X12_dealsAlike_73 (σ : St) (f : FI) (g : FL) (a : Nat) (x1 : Int) (x2 : Int) (x3 : Int) (x5 : Int) (s0 : Nat) (s1 : Int) (r : St × List Vl) : Prop := ∀ (y4 : Int) (y6 : Int) (y7 : Int), Gx mt 3 cd_X12_dealsAlike (il σ f g) (cd_X12_dealsAlike 73) [some (vR 12 (some a)), some (vI x1), some (vI x2), some (vI x3), some (vI y4), some (vI x5), some (vI y6), some (vI y7)] [vI s1, vR 12 (some s0)] r
def A_X12_dealsAlike_98 (σ : St) (f : FI) (g : FL) (a : Nat) (x1 : Int) (x2 : Int) (x3 : Int) (x5 : Int) (s0 : Int) (r : St × List Vl) : Prop := ∀ (y4 : Int) (y6 : Int) (y7 : Int), Gx mt 3 cd_X12_dealsAlike (il σ f g) (cd_X12_dealsAlike 98) [some (vR 12 (some a)), some (vI x1), some (vI x2), some (vI x3), some (vI y4), some (vI x5), some (vI y6), some (vI y7)] [vI s0] r
theorem bk_X12_dealsAlike_0 {σ : St} {f : FI} {g : FL} {a : Nat} {x1 : Int} {x2 : Int} {x3 : Int} {r : St × List Vl} (hs : Sh12 σ a) (h : (A_X12_dealsAlike_6 σ f g a x1 x2 x3 1 0 r)) : Ex mt 3 266 (il σ f g) [vR 12 (some a), vI x1, vI x2, vI x3] r := Ex.mk mt_266 (show Gx mt 3 cd_X12_dealsAlike (il σ f g) b_X12_dealsAlike_0 [some (vR 12 (some a)), some (vI x1), some (vI x2), some (vI x3), none, none, none, none] [] r from (go_pushI rfl (go_stoI rfl rfl (go_pushI rfl (go_stoI rfl rfl (go_fall (h _ _)))))))
theorem bk_X12_dealsAlike_6 {σ : St} {f : FI} {g : FL} {a : Nat} {x1 : Int} {x2 : Int} {x3 : Int} {x4 : Int} {x5 : Int} {r : St × List Vl} (hs : Sh12 σ a) (h : ((64 ≤ x5 → ((0 ≤ x4 ∧ x4 ≤ 1)) ∧ (r = ((il σ f g), [vI x4]))) ∧ (¬ 64 ≤ x5 → ((x4 = 0 → ((0 ≤ x4 ∧ x4 ≤ 1)) ∧ (r = ((il σ f g), [vI x4]))) ∧ (¬ x4 = 0 → ((0 ≤ x5 ∧ x5 < 64)) ∧ (A_X12_dealsAlike_32 σ f g a x1 x2 x3 x5 (iAnd (f (a + 29) ((x5).toNat)) x3) 0 r)))))) : A_X12_dealsAlike_6 σ f g a x1 x2 x3 x4 x5 r := fun y6 y7 => (show Gx mt 3 cd_X12_dealsAlike (il σ f g) b_X12_dealsAlike_6 [some (vR 12 (some a)), some (vI x1), some (vI x2), some (vI x3), some (vI x4), some (vI x5), y6, y7] [] r from (go_loadI rfl (go_pushI rfl (gq_icmp_ge (fun e3 => have h1 := h.1 e3; (go_loadI rfl (h1.2 ▸ (gq_retZ h1.1)))) (fun e3 => have h2 := h.2 e3; (go_loadI rfl (gq_if_eq (fun e6 => have h4 := h2.1 e6; (go_loadI rfl (h4.2 ▸ (gq_retZ h4.1)))) (fun e6 => have h5 := h2.2 e6; (go_loadA rfl (gi_getR (Sh12.r46 hs) (go_loadI rfl (gi_iald (inl_ (Sh12.l46 hs) h5.1) (go_loadI rfl (go_iand rfl (go_stoI rfl rfl (go_pushI rfl (go_stoI rfl rfl (go_fall (h5.2 _)))))))))))))))))))
theorem bk_X12_dealsAlike_32 {σ : St} {f : FI} {g : FL} {a : Nat} {x1 : Int} {x2 : Int} {x3 : Int} {x5 : Int} {x6 : Int} {x7 : Int} {r : St × List Vl} (hs : Sh12 σ a) (h : ((-2147483648 ≤ x6 ∧ x6 ≤ 2147483647) ∧ (0 ≤ x7 ∧ x7 < 32)) ∧ (((x6 / p2 x7) = 0 → (A_X12_dealsAlike_56 σ f g a x1 x2 x3 x5 x6 x7 r)) ∧ (¬ (x6 / p2 x7) = 0 → ((-2147483648 ≤ x6 ∧ x6 ≤ 2147483647) ∧ (0 ≤ x7 ∧ x7 < 32)) ∧ ((¬ ((x6 / p2 x7) % 2) = 0 → (A_X12_dealsAlike_56 σ f g a x1 x2 x3 x5 x6 x7 r)) ∧ (((x6 / p2 x7) % 2) = 0 → ((-2147483648 ≤ (x7 + 1) ∧ (x7 + 1) ≤ 2147483647)) ∧ (A_X12_dealsAlike_32 σ f g a x1 x2 x3 x5 x6 (x7 + 1) r)))))) : A_X12_dealsAlike_32 σ f g a x1 x2 x3 x5 x6 x7 r := fun y4 => (show Gx mt 3 cd_X12_dealsAlike (il σ f g) b_X12_dealsAlike_32 [some (vR 12 (some a)), some (vI x1), some (vI x2), some (vI x3), some (vI y4), some (vI x5), some (vI x6), some (vI x7)] [] r from (go_loadI rfl (go_loadI rfl (go_ishr (iShr_v h.1.1 h.1.2) (gq_if_eq (fun e3 => have h1 := h.2.1 e3; (h1 _)) (fun e3 => have h2 := h.2.2 e3; (go_loadI rfl (go_loadI rfl (go_ishr (iShr_v h2.1.1 h2.1.2) (go_pushI rfl (go_iand (iAnd_m1 _) (gq_if_ne (fun e6 => have h4 := h2.2.1 e6; (h4 _)) (fun e6 => have h5 := h2.2.2 e6; (go_iinc rfl h5.1 rfl (go_goto (h5.2 _))))))))))))))))
theorem bk_X12_dealsAlike_56 {σ : St} {f : FI} {g : FL} {a : Nat} {x1 : Int} {x2 : Int} {x3 : Int} {x5 : Int} {x6 : Int} {x7 : Int} {r : St × List Vl} (hs : Sh12 σ a) (h : ((¬ x6 = 0 → ((-2147483648 ≤ (12 * x1) ∧ (12 * x1) ≤ 2147483647) ∧ (-2147483648 ≤ ((12 * x1) + x7) ∧ ((12 * x1) + x7) ≤ 2147483647)) ∧ (A_X12_dealsAlike_73 σ f g a x1 x2 x3 x5 a ((12 * x1) + x7) r)) ∧ (x6 = 0 → (A_X12_dealsAlike_73 σ f g a x1 x2 x3 x5 a (-1) r)))) : A_X12_dealsAlike_56 σ f g a x1 x2 x3 x5 x6 x7 r := fun y4 => (show Gx mt 3 cd_X12_dealsAlike (il σ f g) b_X12_dealsAlike_56 [some (vR 12 (some a)), some (vI x1), some (vI x2), some (vI x3), some (vI y4), some (vI x5), some (vI x6), some (vI x7)] [] r from (go_loadA rfl (go_loadI rfl (gq_if_ne (fun e3 => have h1 := h.1 e3; (go_pushI rfl (go_loadI rfl (go_imul h1.1.1 (go_loadI rfl (go_iadd h1.1.2 (go_fall (h1.2 _ _ _)))))))) (fun e3 => have h2 := h.2 e3; (go_pushI rfl (go_goto (h2 _ _ _))))))))
theorem bk_X12_dealsAlike_73 {σ : St} {f : FI} {g : FL} {a : Nat} {x1 : Int} {x2 : Int} {x3 : Int} {x5 : Int} {s0 : Nat} {s1 : Int} {r : St × List Vl} (hs : Sh12 σ a) (h : ((-2147483648 ≤ (64 * x2) ∧ (64 * x2) ≤ 2147483647) ∧ (-2147483648 ≤ ((64 * x2) + x5) ∧ ((64 * x2) + x5) ≤ 2147483647)) ∧ (∃ (f1 : FI) (g2 : FL) (v4 : Int), Ex mt 2 263 (il σ f g) [vR 12 (some s0), vI s1, vI ((64 * x2) + x5)] ((il σ f1 g2), [vI v4]) ∧ ((0 ≤ x5 ∧ x5 < 64)) ∧ ((¬ v4 = (f1 (a + 30) ((x5).toNat)) → (A_X12_dealsAlike_98 σ f1 g2 a x1 x2 x3 x5 0 r)) ∧ (v4 = (f1 (a + 30) ((x5).toNat)) → (A_X12_dealsAlike_98 σ f1 g2 a x1 x2 x3 x5 1 r))))) : A_X12_dealsAlike_73 σ f g a x1 x2 x3 x5 s0 s1 r := fun y4 y6 y7 => (show Gx mt 3 cd_X12_dealsAlike (il σ f g) b_X12_dealsAlike_73 [some (vR 12 (some a)), some (vI x1), some (vI x2), some (vI x3), some (vI y4), some (vI x5), some (vI y6), some (vI y7)] [vI s1, vR 12 (some s0)] r from (go_pushI rfl (go_loadI rfl (go_imul h.1.1 (go_loadI rfl (go_iadd h.1.2 (Exists.elim h.2 fun f1 w8 => Exists.elim w8 fun g2 w9 => Exists.elim w9 fun v4 h3 => (go_callV rfl rfl rfl h3.1 (go_loadA rfl (gi_getR (Sh12.r47 hs) (go_loadI rfl (gi_iald (inl_ (Sh12.l47 hs) h3.2.1) (gq_icmp_ne (fun e7 => have h5 := h3.2.2.1 e7; (go_pushI rfl (go_fall (h5 _ _ _)))) (fun e7 => have h6 := h3.2.2.2 e7; (go_pushI rfl (go_goto (h6 _ _ _)))))))))))))))))
theorem bk_X12_dealsAlike_98 {σ : St} {f : FI} {g : FL} {a : Nat} {x1 : Int} {x2 : Int} {x3 : Int} {x5 : Int} {s0 : Int} {r : St × List Vl} (hs : Sh12 σ a) (h : ((-2147483648 ≤ (x5 + 1) ∧ (x5 + 1) ≤ 2147483647)) ∧ (A_X12_dealsAlike_6 σ f g a x1 x2 x3 s0 (x5 + 1) r)) : A_X12_dealsAlike_98 σ f g a x1 x2 x3 x5 s0 r := fun y4 y6 y7 => (show Gx mt 3 cd_X12_dealsAlike (il σ f g) b_X12_dealsAlike_98 [some (vR 12 (some a)), some (vI x1), some (vI x2), some (vI x3), some (vI y4), some (vI x5), some (vI y6), some (vI y7)] [vI s0] r from (go_stoI rfl rfl (go_iinc rfl h.1 rfl (go_goto (h.2 _ _)))))
def A_X12_packed_28 (σ : St) (f : FI) (g : FL) (a : Nat) (x2 : Int) (x3 : Int) (x4 : Int) (x5 : Int) (r : St × List Vl) : Prop := ∀ (y1 : Int) (y6 : Option Vl) (y7 : Option Vl) (y8 : Option Vl), Gx mt 4 cd_X12_packed (il σ f g) (cd_X12_packed 28) [some (vR 12 (some a)), some (vI y1), some (vI x2), some (vI x3), some (vI x4), some (vI x5), y6, y7, y8] [] r
def A_X12_packed_75 (σ : St) (f : FI) (g : FL) (a : Nat) (x2 : Int) (x3 : Int) (x4 : Int) (x5 : Int) (x6 : Int) (x7 : Int) (r : St × List Vl) : Prop := ∀ (y1 : Int) (y8 : Option Vl), Gx mt 4 cd_X12_packed (il σ f g) (cd_X12_packed 75) [some (vR 12 (some a)), some (vI y1), some (vI x2), some (vI x3), some (vI x4), some (vI x5), some (vI x6), some (vI x7), y8] [] r
def A_X12_packed_147 (σ : St) (f : FI) (g : FL) (a : Nat) (x2 : Int) (x3 : Int) (x4 : Int) (x5 : Int) (x6 : Int) (x7 : Int) (r : St × List Vl) : Prop := ∀ (y1 : Int) (y8 : Option Vl), Gx mt 4 cd_X12_packed (il σ f g) (cd_X12_packed 147) [some (vR 12 (some a)), some (vI y1), some (vI x2), some (vI x3), some (vI x4), some (vI x5), some (vI x6), some (vI x7), y8] [] r
theorem bk_X12_packed_0 {σ : St} {f : FI} {g : FL} {a : Nat} {x1 : Int} {x2 : Int} {r : St × List Vl} (hs : Sh12 σ a) (h : ((-2147483648 ≤ x1 ∧ x1 ≤ 2147483647) ∧ (-2147483648 ≤ x2 ∧ x2 ≤ 2147483647)) ∧ (((((0 ≤ x1 ∧ x1 ≤ 1) ∧ (0 ≤ x2 ∧ x2 ≤ 7))) → ((-2147483648 ≤ (8 * x1) ∧ (8 * x1) ≤ 2147483647) ∧ (-2147483648 ≤ ((8 * x1) + x2) ∧ ((8 * x1) + x2) ≤ 2147483647) ∧ (0 ≤ ((8 * x1) + x2) ∧ ((8 * x1) + x2) < 16)) ∧ (A_X12_packed_28 σ f g a x2 ((8 * x1) + x2) (f (a + 21) ((((8 * x1) + x2)).toNat)) 0 r)) ∧ (¬ (((0 ≤ x1 ∧ x1 ≤ 1) ∧ (0 ≤ x2 ∧ x2 ≤ 7))) → (r = ((il σ f g), [vI (-1)]))))) : Ex mt 4 264 (il σ f g) [vR 12 (some a), vI x1, vI x2] r := Ex.mk mt_264 (show Gx mt 4 cd_X12_packed (il σ f g) b_X12_packed_0 [some (vR 12 (some a)), some (vI x1), some (vI x2), none, none, none, none, none, none] [] r from (go_loadI rfl (go_loadI rfl (go_callS rfl rfl rfl (pu_isTable h.1.1 h.1.2) (go_ifb_ne (fun e3 => have h1 := h.2.1 e3; (go_pushI rfl (go_loadI rfl (go_imul h1.1.1 (go_loadI rfl (go_iadd h1.1.2.1 (go_stoI rfl rfl (go_loadA rfl (gi_getR (Sh12.r31 hs) (go_loadI rfl (gi_iald (inl_ (Sh12.l31 hs) h1.1.2.2) (go_stoI rfl rfl (go_pushI rfl (go_stoI rfl rfl (go_fall (h1.2 _ _ _ _)))))))))))))))) (fun e3 => have h2 := h.2.2 e3; (go_pushI rfl (h2 ▸ gq_retI))))))))
theorem bk_X12_packed_28 {σ : St} {f : FI} {g : FL} {a : Nat} {x2 : Int} {x3 : Int} {x4 : Int} {x5 : Int} {r : St × List Vl} (hs : Sh12 σ a) (h : ((64 ≤ x5 → ((0 ≤ x4 ∧ x4 < 31) ∧ (-2147483648 ≤ ((p2 x4) - 1) ∧ ((p2 x4) - 1) ≤ 2147483647)) ∧ (A_X12_packed_147 σ f g a x2 x3 x4 ((p2 x4) - 1) x4 0 r)) ∧ (¬ 64 ≤ x5 → ((-2147483648 ≤ (64 * x2) ∧ (64 * x2) ≤ 2147483647) ∧ (-2147483648 ≤ ((64 * x2) + x5) ∧ ((64 * x2) + x5) ≤ 2147483647)) ∧ (∃ (f4 : FI) (g5 : FL) (v7 : Int), Ex mt 2 253 (il σ f g) [vR 12 (some a), vI x3, vI ((64 * x2) + x5)] ((il σ f4 g5), [vI v7]) ∧ (∃ (f8 : FI) (g9 : FL) (v11 : Int), Ex mt 2 263 (il σ f4 g5) [vR 12 (some a), vI v7, vI ((64 * x2) + x5)] ((il σ f8 g9), [vI v11]) ∧ ((0 ≤ x5 ∧ x5 < 64)) ∧ (A_X12_packed_75 σ (up2 (up2 f8 (a + 30) ((x5).toNat) v11) (a + 29) ((x5).toNat) 0) g9 a x2 x3 x4 x5 ((64 * x2) + x5) 0 r)))))) : A_X12_packed_28 σ f g a x2 x3 x4 x5 r := fun y1 y6 y7 y8 => (show Gx mt 4 cd_X12_packed (il σ f g) b_X12_packed_28 [some (vR 12 (some a)), some (vI y1), some (vI x2), some (vI x3), some (vI x4), some (vI x5), y6, y7, y8] [] r from (go_loadI rfl (go_pushI rfl (gq_icmp_ge (fun e3 => have h1 := h.1 e3; (go_pushI rfl (go_loadI rfl (go_ishl (iShl_1 h1.1.1) (go_pushI rfl (go_isub h1.1.2 (go_stoI rfl rfl (go_loadI rfl (go_stoI rfl rfl (go_pushI rfl (go_stoI rfl rfl (go_fall (h1.2 _ _))))))))))))) (fun e3 => have h2 := h.2 e3; (go_pushI rfl (go_loadI rfl (go_imul h2.1.1 (go_loadI rfl (go_iadd h2.1.2 (go_stoI rfl rfl (go_loadA rfl (gi_getR (Sh12.r47 hs) (go_loadI rfl (go_loadA rfl (go_loadA rfl (go_loadI rfl (go_loadI rfl (Exists.elim h2.2 fun f4 w14 => Exists.elim w14 fun g5 w15 => Exists.elim w15 fun v7 h6 => (go_callV rfl rfl rfl h6.1 (go_loadI rfl (Exists.elim h6.2 fun f8 w12 => Exists.elim w12 fun g9 w13 => Exists.elim w13 fun v11 h10 => (go_callV rfl rfl rfl h10.1 (gi_iast (inl_ (Sh12.l47 hs) h10.2.1) (go_loadA rfl (gi_getR (Sh12.r46 hs) (go_loadI rfl (go_pushI rfl (gi_iast (inl_ (Sh12.l46 hs) h10.2.1) (go_pushI rfl (go_stoI rfl rfl (go_fall (h10.2.2 _ _)))))))))))))))))))))))))))))))))
theorem bk_X12_packed_75 {σ : St} {f : FI} {g : FL} {a : Nat} {x2 : Int} {x3 : Int} {x4 : Int} {x5 : Int} {x6 : Int} {x7 : Int} {r : St × List Vl} (hs : Sh12 σ a) (h : ((x4 ≤ x7 → ((-2147483648 ≤ (x5 + 1) ∧ (x5 + 1) ≤ 2147483647)) ∧ (A_X12_packed_28 σ f g a x2 x3 x4 (x5 + 1) r)) ∧ (¬ x4 ≤ x7 → ((0 ≤ x5 ∧ x5 < 64) ∧ (-2147483648 ≤ (12 * x3) ∧ (12 * x3) ≤ 2147483647) ∧ (-2147483648 ≤ ((12 * x3) + x7) ∧ ((12 * x3) + x7) ≤ 2147483647) ∧ (0 ≤ ((12 * x3) + x7) ∧ ((12 * x3) + x7) < 192) ∧ (0 ≤ (f (a + 18) ((((12 * x3) + x7)).toNat)) ∧ (f (a + 18) ((((12 * x3) + x7)).toNat)) ≤ 124) ∧ (0 ≤ x6 ∧ x6 < 512)) ∧ ((¬ ((matP (f (a + 18) ((((12 * x3) + x7)).toNat)) x6)) → ((0 ≤ x5 ∧ x5 < 64) ∧ (-2147483648 ≤ (x7 + 1) ∧ (x7 + 1) ≤ 2147483647)) ∧ (A_X12_packed_75 σ (up2 f (a + 29) ((x5).toNat) (iOr (f (a + 29) ((x5).toNat)) 0)) g a x2 x3 x4 x5 x6 (x7 + 1) r)) ∧ (((matP (f (a + 18) ((((12 * x3) + x7)).toNat)) x6)) → ((0 ≤ x7 ∧ x7 < 31)) ∧ ((0 ≤ x5 ∧ x5 < 64) ∧ (-2147483648 ≤ (x7 + 1) ∧ (x7 + 1) ≤ 2147483647)) ∧ (A_X12_packed_75 σ (up2 f (a + 29) ((x5).toNat) (iOr (f (a + 29) ((x5).toNat)) (p2 x7))) g a x2 x3 x4 x5 x6 (x7 + 1) r)))))) : A_X12_packed_75 σ f g a x2 x3 x4 x5 x6 x7 r := fun y1 y8 => (show Gx mt 4 cd_X12_packed (il σ f g) b_X12_packed_75 [some (vR 12 (some a)), some (vI y1), some (vI x2), some (vI x3), some (vI x4), some (vI x5), some (vI x6), some (vI x7), y8] [] r from (go_loadI rfl (go_loadI rfl (gq_icmp_ge (fun e3 => have h1 := h.1 e3; (go_iinc rfl h1.1 rfl (go_goto (h1.2 _ _ _ _)))) (fun e3 => have h2 := h.2 e3; (go_loadA rfl (gi_getR (Sh12.r46 hs) (go_loadI rfl (go_dup2 (gi_iald (inl_ (Sh12.l46 hs) h2.1.1) (go_loadA rfl (gi_getR (Sh12.r28 hs) (go_pushI rfl (go_loadI rfl (go_imul h2.1.2.1 (go_loadI rfl (go_iadd h2.1.2.2.1 (gi_iald (inl_ (Sh12.l28 hs) h2.1.2.2.2.1) (go_loadI rfl (go_callS rfl rfl rfl (pu_matches h2.1.2.2.2.2.1 h2.1.2.2.2.2.2) (go_ifb_eq (fun e6 => have h4 := h2.2.1 e6; (go_pushI rfl (go_fall (go_ior rfl (gi_iast (inl_ (Sh12.l46 hs) h4.1.1) (go_iinc rfl h4.1.2 rfl (go_goto (h4.2 _ _)))))))) (fun e6 => have h5 := h2.2.2 e6; (go_pushI rfl (go_loadI rfl (go_ishl (iShl_1 h5.1) (go_goto (go_ior rfl (gi_iast (inl_ (Sh12.l46 hs) h5.2.1.1) (go_iinc rfl h5.2.1.2 rfl (go_goto (h5.2.2 _ _)))))))))))))))))))))))))))))))
theorem bk_X12_packed_147 {σ : St} {f : FI} {g : FL} {a : Nat} {x2 : Int} {x3 : Int} {x4 : Int} {x5 : Int} {x6 : Int} {x7 : Int} {r : St × List Vl} (hs : Sh12 σ a) (h : ((0 ≤ x4 ∧ x4 < 31)) ∧ (((p2 x4) ≤ x7 → (r = ((il σ f g), [vI x5]))) ∧ (¬ (p2 x4) ≤ x7 → (∃ (f4 : FI) (g5 : FL) (v7 : Int), Ex mt 0 265 (il σ f g) [vI x7] ((il σ f4 g5), [vI v7]) ∧ ((x6 ≤ v7 → ((-2147483648 ≤ (x7 + 1) ∧ (x7 + 1) ≤ 2147483647)) ∧ (A_X12_packed_147 σ f4 g5 a x2 x3 x4 x5 x6 (x7 + 1) r)) ∧ (¬ x6 ≤ v7 → (∃ (f11 : FI) (g12 : FL) (v14 : Int), Ex mt 3 266 (il σ f4 g5) [vR 12 (some a), vI x3, vI x2, vI x7] ((il σ f11 g12), [vI v14]) ∧ ((v14 = 0 → ((-2147483648 ≤ (x7 + 1) ∧ (x7 + 1) ≤ 2147483647)) ∧ (A_X12_packed_147 σ f11 g12 a x2 x3 x4 x5 x6 (x7 + 1) r)) ∧ (¬ v14 = 0 → ((-2147483648 ≤ (x7 + 1) ∧ (x7 + 1) ≤ 2147483647)) ∧ (A_X12_packed_147 σ f11 g12 a x2 x3 x4 x7 v7 (x7 + 1) r)))))))))) : A_X12_packed_147 σ f g a x2 x3 x4 x5 x6 x7 r := fun y1 y8 => (show Gx mt 4 cd_X12_packed (il σ f g) b_X12_packed_147 [some (vR 12 (some a)), some (vI y1), some (vI x2), some (vI x3), some (vI x4), some (vI x5), some (vI x6), some (vI x7), y8] [] r from (go_loadI rfl (go_pushI rfl (go_loadI rfl (go_ishl (iShl_1 h.1) (gq_icmp_ge (fun e3 => have h1 := h.2.1 e3; (go_loadI rfl (h1 ▸ gq_retI))) (fun e3 => have h2 := h.2.2 e3; (go_loadI rfl (Exists.elim h2 fun f4 w20 => Exists.elim w20 fun g5 w21 => Exists.elim w21 fun v7 h6 => (go_callS rfl rfl rfl h6.1 (go_stoI rfl rfl (go_loadI rfl (go_loadI rfl (gq_icmp_ge (fun e10 => have h8 := h6.2.1 e10; (go_iinc rfl h8.1 rfl (go_goto (h8.2 _ _)))) (fun e10 => have h9 := h6.2.2 e10; (go_loadA rfl (go_loadI rfl (go_loadI rfl (go_loadI rfl (Exists.elim h9 fun f11 w18 => Exists.elim w18 fun g12 w19 => Exists.elim w19 fun v14 h13 => (go_callV rfl rfl rfl h13.1 (gq_if_eq (fun e17 => have h15 := h13.2.1 e17; (go_iinc rfl h15.1 rfl (go_goto (h15.2 _ _)))) (fun e17 => have h16 := h13.2.2 e17; (go_loadI rfl (go_stoI rfl rfl (go_loadI rfl (go_stoI rfl rfl (go_fall (go_iinc rfl h16.1 rfl (go_goto (h16.2 _ _)))))))))))))))))))))))))))))))
/-- what the model tells of a deed -/
def deM (st to : Nat → Int) (q r : Int) : Int := if r = -1 then -1 else if to r.toNat = 9 then -1 else 16 * setF (st r.toNat) q + to r.toNat
def Rws (st to : Nat → Int) (n : Nat) : Prop := ∀ k, k < n → (0 ≤ st k ∧ st k ≤ 124) ∧ (0 ≤ to k ∧ to k ≤ 9)
theorem deq {st to : Nat → Int} {n : Nat} (h : Rws st to n) {b p r s : Int} (hb : 0 ≤ b ∧ b < 8) (hp : 0 ≤ p ∧ p < 64) (hr : r = -1 ∨ (0 ≤ r ∧ r < n)) (hs : s = -1 ∨ (0 ≤ s ∧ s < n)) : deM st to (64 * b + p) r = deM st to (64 * b + p) s ↔ deF st to p r = deF st to p s := by
  have one : ∀ r : Int, (r = -1 ∨ (0 ≤ r ∧ r < n)) → (deM st to (64 * b + p) r = -1 ∧ deF st to p r = -2) ∨ ∃ x y : Int, deM st to (64 * b + p) r = 16 * (64 * b + x) + y ∧ deF st to p r = 64 * y + x ∧ (0 ≤ x ∧ x < 64) ∧ (0 ≤ y ∧ y ≤ 8) := fun r hr => by
    unfold deM deF
    by_cases z : r = -1
    · rw [if_pos z, if_pos z]
      exact Or.inl ⟨rfl, rfl⟩
    · rw [if_neg z, if_neg z]
      by_cases y : to r.toNat = 9
      · rw [if_pos y, if_pos y]
        exact Or.inl ⟨rfl, rfl⟩
      · rw [if_neg y, if_neg y]
        have hk := h r.toNat (by omega)
        obtain ⟨s1, s2, s3⟩ := setF_split hk.1 hp hb
        exact Or.inr ⟨setF (st r.toNat) p, to r.toNat, by rw [s1], rfl, ⟨s2, s3⟩, by omega⟩
  rcases one r hr with ⟨a1, a2⟩ | ⟨x, y, a1, a2, a3, a4⟩ <;> rcases one s hs with ⟨b1, b2⟩ | ⟨x', y', b1, b2, b3, b4⟩
  · rw [a1, a2, b1, b2]
    exact ⟨fun _ => rfl, fun _ => rfl⟩
  · rw [a1, a2, b1, b2]
    constructor <;> intro <;> omega
  · rw [a1, a2, b1, b2]
    constructor <;> intro <;> omega
  · rw [a1, a2, b1, b2]
    constructor <;> intro <;> omega
theorem x_deal {σ : St} {f : FI} {g : FL} {M t n : Nat} {st to : Nat → Int} {q r : Int} (hm : Sh12 σ M) (ht : t < 16) (hn : n ≤ 12) (hR : Rws st to n) (h : ∀ k, k < n → f (M + 19) (12 * t + k) = st k ∧ f (M + 20) (12 * t + k) = to k) (hq : 0 ≤ q ∧ q < 512) (hr : r = -1 ∨ (0 ≤ r ∧ r < n)) : Ex mt 2 263 (il σ f g) [vR 12 (some M), vI (if r = -1 then -1 else 12 * (t : Int) + r), vI q] (il σ f g, [vI (deM st to q r)]) := by
  unfold deM
  by_cases z : r = -1
  · rw [if_pos z, if_pos z]
    exact bk_X12_deal_0 hm ⟨fun _ => rfl, fun y => absurd rfl y⟩
  · rw [if_neg z, if_neg z]
    have hk := h r.toNat (by omega)
    have hk2 := hR r.toNat (by omega)
    have e1 : (12 * (t : Int) + r).toNat = 12 * t + r.toNat := by omega
    have sr := setF_rg hk2.1 hq
    refine bk_X12_deal_0 hm ⟨fun y => absurd y (by omega), fun _ => ⟨by omega, fun y => ?_, fun y => ?_⟩⟩
    · rw [e1, hk.2] at y
      rw [if_neg y, e1, hk.1, hk.2]
      exact ⟨⟨by omega, hk2.1, hq, by omega, by omega⟩, rfl⟩
    · rw [e1, hk.2] at y
      rw [if_pos y]
/-- the rows that match a packet, as bits -/
def mtB (R : Nat → Int) (p : Int) : Nat → Nat
  | 0 => 0
  | k + 1 => if matP (R k) p then mtB R p k ||| 2 ^ k else mtB R p k
theorem mtB_lt (R : Nat → Int) (p : Int) : ∀ k, mtB R p k < 2 ^ k
  | 0 => by show 0 < 1; omega
  | k + 1 => by
    have ih := mtB_lt R p k
    unfold mtB
    split
    · exact or_lt (by rw [Nat.pow_succ]; omega) (by omega)
    · rw [Nat.pow_succ]; omega
theorem mtB_bit (R : Nat → Int) (p : Int) (j : Nat) : ∀ k, ((mtB R p k).testBit j = true ↔ j < k ∧ matP (R j) p)
  | 0 => by simp [mtB]
  | k + 1 => by
    have ih := mtB_bit R p j k
    unfold mtB
    by_cases z : matP (R k) p
    · rw [if_pos z, or_bit]
      by_cases y : k = j
      · subst y
        rw [decide_eq_true rfl, Bool.or_true]
        exact ⟨fun _ => ⟨by omega, z⟩, fun _ => rfl⟩
      · rw [decide_eq_false y, Bool.or_false, ih]
        exact ⟨fun x => ⟨by omega, x.2⟩, fun x => ⟨by omega, x.2⟩⟩
    · rw [if_neg z, ih]
      constructor
      · exact fun x => ⟨by omega, x.2⟩
      · intro x
        refine ⟨?_, x.2⟩
        by_cases y : j = k
        · subst y; exact absurd x.2 z
        · omega
theorem mtB_31 (R : Nat → Int) (p : Int) {k : Nat} (hk : k ≤ 12) : mtB R p k < 2147483648 := Nat.lt_of_lt_of_le (mtB_lt R p k) (Nat.le_trans (Nat.pow_le_pow_right (by decide) hk) (by decide))
theorem div_p2 (a i : Nat) : (a : Int) / p2 (i : Int) = ((a / 2 ^ i : Nat) : Int) := by
  rw [p2_Nat, Int.natCast_ediv]
theorem x_dealsM {σ : St} {f : FI} {g : FL} {M t n b S : Nat} {R st to : Nat → Int} (hm : Sh12 σ M) (ht : t < 16) (hb : b < 8) (hn : n ≤ 12) (hS : S < 4096) (hR : Rws st to n) (h : ∀ k, k < n → f (M + 19) (12 * t + k) = st k ∧ f (M + 20) (12 * t + k) = to k) (h29 : ∀ p : Nat, p < 64 → f (M + 29) p = (mtB R (p : Int) n : Nat)) (h30 : ∀ p : Nat, p < 64 → f (M + 30) p = deM st to (64 * (b : Int) + (p : Int)) (frF R (p : Int) n)) : ∃ v : Int, (v = 0 ∨ v = 1) ∧ (v = 1 ↔ ∀ p : Nat, p < 64 → deM st to (64 * (b : Int) + (p : Int)) (frS S R (p : Int) n) = deM st to (64 * (b : Int) + (p : Int)) (frF R (p : Int) n)) ∧ Ex mt 3 266 (il σ f g) [vR 12 (some M), vI (t : Int), vI (b : Int), vI (S : Int)] (il σ f g, [vI v]) := by
  have loop : ∀ k i : Nat, i + k = 64 → (∀ p : Nat, p < i → deM st to (64 * (b : Int) + (p : Int)) (frS S R (p : Int) n) = deM st to (64 * (b : Int) + (p : Int)) (frF R (p : Int) n)) → ∃ v : Int, (v = 0 ∨ v = 1) ∧ (v = 1 ↔ ∀ p : Nat, p < 64 → deM st to (64 * (b : Int) + (p : Int)) (frS S R (p : Int) n) = deM st to (64 * (b : Int) + (p : Int)) (frF R (p : Int) n)) ∧ A_X12_dealsAlike_6 σ f g M (t : Int) (b : Int) (S : Int) 1 (i : Int) (il σ f g, [vI v]) := by
    intro k
    induction k with
    | zero =>
      intro i hi hO
      obtain rfl : i = 64 := by omega
      exact ⟨1, Or.inr rfl, ⟨fun _ => hO, fun _ => rfl⟩, bk_X12_dealsAlike_6 hm ⟨fun _ => ⟨by decide, rfl⟩, fun z => absurd (by decide) z⟩⟩
    | succ k ih =>
      intro i hi hO
      have E := x_deal (σ := σ) (f := f) (g := g) (q := 64 * (b : Int) + (i : Int)) (r := frS S R (i : Int) n) hm ht hn hR h (by omega) (frS_rg _ _ _ _)
      -- from the choice on
      have fin : ∃ v : Int, (v = 0 ∨ v = 1) ∧ (v = 1 ↔ ∀ p : Nat, p < 64 → deM st to (64 * (b : Int) + (p : Int)) (frS S R (p : Int) n) = deM st to (64 * (b : Int) + (p : Int)) (frF R (p : Int) n)) ∧ A_X12_dealsAlike_73 σ f g M (t : Int) (b : Int) (S : Int) (i : Int) M (if frS S R (i : Int) n = -1 then -1 else 12 * (t : Int) + frS S R (i : Int) n) (il σ f g, [vI v]) := by
        by_cases ok : deM st to (64 * (b : Int) + (i : Int)) (frS S R (i : Int) n) = deM st to (64 * (b : Int) + (i : Int)) (frF R (i : Int) n)
        · obtain ⟨v, v1, v2, A⟩ := ih (i + 1) (by omega) (fun p hp => by
            by_cases z : p = i
            · subst z; exact ok
            · exact hO p (by omega))
          refine ⟨v, v1, v2, bk_X12_dealsAlike_73 hm ⟨⟨by omega, by omega⟩, f, g, _, E, by omega, fun z => absurd (show _ = f (M + 30) i by rw [h30 i (by omega)]; exact ok) z, fun _ => bk_X12_dealsAlike_98 hm ⟨by omega, A⟩⟩⟩
        · refine ⟨0, Or.inl rfl, ⟨fun z => absurd z (by decide), fun z => absurd (z i (by omega)) ok⟩, bk_X12_dealsAlike_73 hm ⟨⟨by omega, by omega⟩, f, g, _, E, by omega, fun _ => bk_X12_dealsAlike_98 hm ⟨by omega, ?_⟩, fun z => absurd (show _ = f (M + 30) i from z) (by rw [h30 i (by omega)]; exact ok)⟩⟩
          by_cases y : (64 : Int) ≤ (i : Int) + 1
          · exact bk_X12_dealsAlike_6 hm ⟨fun _ => ⟨by decide, rfl⟩, fun z => absurd y z⟩
          · exact bk_X12_dealsAlike_6 hm ⟨fun z => absurd z y, fun _ => ⟨fun _ => ⟨by decide, rfl⟩, fun z => absurd rfl z⟩⟩
      obtain ⟨v, v1, v2, A⟩ := fin
      refine ⟨v, v1, v2, bk_X12_dealsAlike_6 hm ⟨fun z => absurd z (by omega), fun _ => ⟨fun z => absurd z (by decide), fun _ => ⟨by omega, ?_⟩⟩⟩⟩
      have m31 := mtB_31 R (i : Int) hn
      have eL : iAnd (f (M + 29) ((i : Int)).toNat) (S : Int) = ((mtB R (i : Int) n &&& S : Nat) : Int) := by
        rw [show f (M + 29) ((i : Int)).toNat = _ from h29 i (by omega), iAnd_nat m31 (by omega)]
      rw [eL]
      have lb : ∀ j, (mtB R (i : Int) n &&& S).testBit j = true ↔ j < n ∧ matP (R j) (i : Int) ∧ S.testBit j = true := fun j => by
        rw [Nat.testBit_and, Bool.and_eq_true, mtB_bit]
        exact ⟨fun z => ⟨z.1.1, z.1.2, z.2⟩, fun z => ⟨⟨z.1, z.2.1⟩, z.2.2⟩⟩
      have ll : mtB R (i : Int) n &&& S < 4096 := Nat.lt_of_le_of_lt Nat.and_le_right hS
      generalize hLe : mtB R (i : Int) n &&& S = Le at lb ll
      rcases frS_spec S R (i : Int) n with ⟨e1, e2⟩ | ⟨c, e1, e2, e3, e4⟩
      · have z0 : Le = 0 := Nat.eq_of_testBit_eq fun j => by
          rw [Nat.zero_testBit]
          cases hj : Le.testBit j
          · rfl
          · have := (lb j).mp hj
            exact absurd ⟨this.2.2, this.2.1⟩ (e2 j this.1)
        subst z0
        rw [e1] at A
        exact bk_X12_dealsAlike_32 hm ⟨⟨by decide, by decide⟩, fun _ => bk_X12_dealsAlike_56 hm ⟨fun z => absurd rfl z, fun _ => A⟩, fun z => absurd (show ((0 : Nat) : Int) / p2 0 = 0 by decide) z⟩
      · have lc : Le.testBit c = true := (lb c).mpr ⟨e2, e3.2, e3.1⟩
        have ge := Nat.ge_two_pow_of_testBit lc
        have walk : ∀ d j : Nat, j + d = c → A_X12_dealsAlike_32 σ f g M (t : Int) (b : Int) (S : Int) (i : Int) (Le : Int) (j : Int) (il σ f g, [vI v]) := by
          intro d
          induction d with
          | zero =>
            intro j hj
            obtain rfl : j = c := by omega
            rw [e1, if_neg (by omega)] at A
            have h1 := hB_nat.mpr lc
            refine bk_X12_dealsAlike_32 hm ⟨⟨by omega, by omega⟩, fun z => ?_, fun _ => ⟨⟨by omega, by omega⟩, fun _ => bk_X12_dealsAlike_56 hm ⟨fun _ => ⟨⟨by omega, by omega⟩, A⟩, fun z => ?_⟩, fun z => ?_⟩⟩
            · unfold hB at h1
              rw [z] at h1
              exact absurd h1 (by decide)
            · have : 0 < 2 ^ j := Nat.two_pow_pos j
              omega
            · unfold hB at h1
              rw [h1] at z
              exact absurd z (by decide)
          | succ d ihd =>
            intro j hj
            have A2 := ihd (j + 1) (by omega)
            have nb : ¬ Le.testBit j = true := fun z => by
              have := (lb j).mp z
              exact e4 j (by omega) ⟨this.2.2, this.2.1⟩
            have nz : ¬ (Le : Int) / p2 (j : Int) = 0 := by
              rw [div_p2]
              have h1 : 2 ^ j ≤ Le := Nat.le_trans (Nat.pow_le_pow_right (by decide) (by omega)) ge
              have h2 := Nat.div_pos h1 (Nat.two_pow_pos j)
              omega
            have h0 : (Le : Int) / p2 (j : Int) % 2 = 0 := (Int.emod_two_eq _).resolve_right fun z => nb (hB_nat.mp z)
            exact bk_X12_dealsAlike_32 hm ⟨⟨by omega, by omega⟩, fun z => absurd z nz, fun _ => ⟨⟨by omega, by omega⟩, fun z => absurd h0 z, fun _ => ⟨by omega, A2⟩⟩⟩
        exact walk c 0 (by omega)
  obtain ⟨v, v1, v2, A⟩ := loop 64 0 rfl (fun p hp => absurd hp (Nat.not_lt_zero p))
  exact ⟨v, v1, v2, bk_X12_dealsAlike_0 hm A⟩
/-- the model's tables for the packing -/
theorem m_pack {σ : St} {f : FI} {g : FL} {M t n b : Nat} {R st to : Nat → Int} (hm : Sh12 σ M) (ht : t < 16) (hb : b < 8) (hn : n ≤ 12) (hR : Rws st to n) (hR2 : ∀ k, k < n → 0 ≤ R k ∧ R k ≤ 124) (h : ∀ k, k < n → f (M + 18) (12 * t + k) = R k ∧ f (M + 19) (12 * t + k) = st k ∧ f (M + 20) (12 * t + k) = to k) (h21 : f (M + 21) t = (n : Int)) : ∀ k i : Nat, i + k = 64 → ∀ fi : FI, Fr (fun a _ => a = M + 29 ∨ a = M + 30) f fi → (∀ p : Nat, p < i → fi (M + 29) p = (mtB R (p : Int) n : Nat) ∧ fi (M + 30) p = deM st to (64 * (b : Int) + (p : Int)) (frF R (p : Int) n)) → ∃ f' : FI, Fr (fun a _ => a = M + 29 ∨ a = M + 30) f f' ∧ (∀ p : Nat, p < 64 → f' (M + 29) p = (mtB R (p : Int) n : Nat) ∧ f' (M + 30) p = deM st to (64 * (b : Int) + (p : Int)) (frF R (p : Int) n)) ∧ ∀ r, A_X12_packed_28 σ f' g M (b : Int) (t : Int) (n : Int) 64 r → A_X12_packed_28 σ fi g M (b : Int) (t : Int) (n : Int) (i : Int) r := by
  intro k
  induction k with
  | zero =>
    intro i hi fi hF hj
    obtain rfl : i = 64 := by omega
    exact ⟨fi, hF, hj, fun r A => A⟩
  | succ k ih =>
    intro i hi fi hF hj
    have e18 : ∀ fi : FI, Fr (fun a _ => a = M + 29 ∨ a = M + 30) f fi → ∀ k, k < n → fi (M + 18) (12 * t + k) = R k := fun fi hF k hk => by rw [hF _ _ (by omega)]; exact (h k hk).1
    have q0 : (0 : Int) ≤ 64 * (b : Int) + (i : Int) ∧ 64 * (b : Int) + (i : Int) < 512 := by omega
    have E1 := x_rowFor (σ := σ) (f := fi) (g := g) (R := R) (q := 64 * (b : Int) + (i : Int)) hm ht hn (by rw [hF _ _ (by omega)]; exact h21) (fun k hk => ⟨e18 fi hF k hk, hR2 k hk⟩) q0
    have em : ∀ m, matP m (64 * (b : Int) + (i : Int)) ↔ matP m (i : Int) := fun m => by
      rw [matP_64 m _ (by omega), show (64 * (b : Int) + (i : Int)) % 64 = (i : Int) by omega]
    have ef : frF R (64 * (b : Int) + (i : Int)) n = frF R (i : Int) n := frF_cong (fun _ _ => rfl) em
    rw [ef] at E1
    have fr := frF_rg R (i : Int) n
    have E2 := x_deal (σ := σ) (f := fi) (g := g) (q := 64 * (b : Int) + (i : Int)) (r := frF R (i : Int) n) hm ht hn hR (fun k hk => by rw [hF _ _ (by omega), hF _ _ (by omega)]; exact (h k hk).2) q0 (by omega)
    -- the rows that match
    have inner : ∀ d j : Nat, j + d = n → ∀ fj : FI, Fr (fun a _ => a = M + 29 ∨ a = M + 30) f fj → (∀ p : Nat, p < i → fj (M + 29) p = (mtB R (p : Int) n : Nat) ∧ fj (M + 30) p = deM st to (64 * (b : Int) + (p : Int)) (frF R (p : Int) n)) → fj (M + 29) i = (mtB R (i : Int) j : Nat) → fj (M + 30) i = deM st to (64 * (b : Int) + (i : Int)) (frF R (i : Int) n) → ∃ f' : FI, Fr (fun a _ => a = M + 29 ∨ a = M + 30) f f' ∧ (∀ p : Nat, p < i + 1 → f' (M + 29) p = (mtB R (p : Int) n : Nat) ∧ f' (M + 30) p = deM st to (64 * (b : Int) + (p : Int)) (frF R (p : Int) n)) ∧ ∀ r, A_X12_packed_28 σ f' g M (b : Int) (t : Int) (n : Int) ((i : Int) + 1) r → A_X12_packed_75 σ fj g M (b : Int) (t : Int) (n : Int) (i : Int) (64 * (b : Int) + (i : Int)) (j : Int) r := by
      intro d
      induction d with
      | zero =>
        intro j hjn fj hFj h1 h2 h3
        obtain rfl : j = n := by omega
        refine ⟨fj, hFj, fun p hp => ?_, fun r A => bk_X12_packed_75 hm ⟨fun _ => ⟨by omega, A⟩, fun z => absurd (by omega) z⟩⟩
        by_cases z : p = i
        · subst z; exact ⟨h2, h3⟩
        · exact h1 p (by omega)
      | succ d ihd =>
        intro j hjn fj hFj h1 h2 h3
        have e12 : (12 * (t : Int) + (j : Int)).toNat = 12 * t + j := by omega
        have e18j := e18 fj hFj j (by omega)
        have m31 := mtB_31 R (i : Int) (show j ≤ 12 by omega)
        have step : ∀ w : Int, w = (mtB R (i : Int) (j + 1) : Nat) → ∃ f' : FI, Fr (fun a _ => a = M + 29 ∨ a = M + 30) f f' ∧ (∀ p : Nat, p < i + 1 → f' (M + 29) p = (mtB R (p : Int) n : Nat) ∧ f' (M + 30) p = deM st to (64 * (b : Int) + (p : Int)) (frF R (p : Int) n)) ∧ ∀ r, A_X12_packed_28 σ f' g M (b : Int) (t : Int) (n : Int) ((i : Int) + 1) r → A_X12_packed_75 σ (up2 fj (M + 29) i w) g M (b : Int) (t : Int) (n : Int) (i : Int) (64 * (b : Int) + (i : Int)) ((j : Int) + 1) r := fun w hw => ihd (j + 1) (by omega) _ (hFj.up (Or.inl rfl)) (fun p hp => by
          rw [u2_i (by omega), u2_a (by omega)]
          exact h1 p hp) (by rw [u2_s]; exact hw) (by rw [u2_a (by omega)]; exact h3)
        by_cases z : matP (R j) (i : Int)
        · obtain ⟨f', r1, r2, K⟩ := step (iOr (fj (M + 29) i) (p2 (j : Int))) (by
            rw [h2, iOr_p2 m31 (by omega)]
            show _ = ((if matP (R j) (i : Int) then mtB R (i : Int) j ||| 2 ^ j else mtB R (i : Int) j : Nat) : Int)
            rw [if_pos z])
          refine ⟨f', r1, r2, fun r A => bk_X12_packed_75 hm ⟨fun y => absurd y (by omega), fun _ => ?_⟩⟩
          rw [e12, e18j]
          exact ⟨⟨by omega, by omega, by omega, by omega, hR2 j (by omega), q0⟩, fun y => absurd ((em _).mpr z) y, fun _ => ⟨by omega, ⟨by omega, by omega⟩, K r A⟩⟩
        · obtain ⟨f', r1, r2, K⟩ := step (iOr (fj (M + 29) i) 0) (by
            rw [h2, iOr_0 m31]
            show _ = ((if matP (R j) (i : Int) then mtB R (i : Int) j ||| 2 ^ j else mtB R (i : Int) j : Nat) : Int)
            rw [if_neg z])
          refine ⟨f', r1, r2, fun r A => bk_X12_packed_75 hm ⟨fun y => absurd y (by omega), fun _ => ?_⟩⟩
          rw [e12, e18j]
          exact ⟨⟨by omega, by omega, by omega, by omega, hR2 j (by omega), q0⟩, fun _ => ⟨⟨by omega, by omega⟩, K r A⟩, fun y => absurd ((em _).mp y) z⟩
    obtain ⟨f2, r1, r2, K⟩ := inner n 0 (by omega) (up2 (up2 fi (M + 30) i (deM st to (64 * (b : Int) + (i : Int)) (frF R (i : Int) n))) (M + 29) i 0) ((hF.up (Or.inr rfl)).up (Or.inl rfl)) (fun p hp => by
      rw [u2_i (by omega), u2_a (by omega), u2_a (by omega), u2_i (by omega)]
      exact hj p hp) u2_s (by rw [u2_a (by omega), u2_s])
    obtain ⟨f', s1, s2, K2⟩ := ih (i + 1) (by omega) f2 r1 r2
    exact ⟨f', s1, s2, fun r A => bk_X12_packed_28 hm ⟨fun z => absurd z (by omega), fun _ => ⟨⟨by omega, by omega⟩, fi, g, _, E1, fi, g, _, E2, by omega, K r (K2 r A)⟩⟩⟩
