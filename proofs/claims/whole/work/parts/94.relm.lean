/-! the model's relations -/
def A_X12_leaf_3 (σ : St) (f : FI) (g : FL) (a : Nat) (x1 : Int) (x2 : Int) (x3 : Int) (x4 : Int) (x5 : Int) (r : St × List Vl) : Prop := ∀ (y6 : Option Vl) (y7 : Option Vl) (y8 : Option Vl), Gx mt 1 cd_X12_leaf (il σ f g) (cd_X12_leaf 3) [some (vR 12 (some a)), some (vI x1), some (vI x2), some (vI x3), some (vI x4), some (vI x5), y6, y7, y8] [] r
def A_X12_leaf_27 (σ : St) (f : FI) (g : FL) (a : Nat) (x1 : Int) (x2 : Int) (x3 : Int) (x4 : Int) (x5 : Int) (x6 : Int) (x7 : Int) (r : St × List Vl) : Prop := ∀ (y8 : Option Vl), Gx mt 1 cd_X12_leaf (il σ f g) (cd_X12_leaf 27) [some (vR 12 (some a)), some (vI x1), some (vI x2), some (vI x3), some (vI x4), some (vI x5), some (vI x6), some (vI x7), y8] [] r
def A_X12_leaf_98 (σ : St) (f : FI) (g : FL) (a : Nat) (x1 : Int) (x2 : Int) (x3 : Int) (x4 : Int) (x5 : Int) (x6 : Int) (s0 : Int) (r : St × List Vl) : Prop := ∀ (y7 : Int) (y8 : Option Vl), Gx mt 1 cd_X12_leaf (il σ f g) (cd_X12_leaf 98) [some (vR 12 (some a)), some (vI x1), some (vI x2), some (vI x3), some (vI x4), some (vI x5), some (vI x6), some (vI y7), y8] [vI s0] r
def A_X12_leaf_118 (σ : St) (f : FI) (g : FL) (a : Nat) (x1 : Int) (x2 : Int) (x3 : Int) (x4 : Int) (x5 : Int) (x6 : Int) (x7 : Int) (s0 : Int) (r : St × List Vl) : Prop := ∀ (y8 : Option Vl), Gx mt 1 cd_X12_leaf (il σ f g) (cd_X12_leaf 118) [some (vR 12 (some a)), some (vI x1), some (vI x2), some (vI x3), some (vI x4), some (vI x5), some (vI x6), some (vI x7), y8] [vI s0] r
theorem bk_X12_leaf_0 {σ : St} {f : FI} {g : FL} {a : Nat} {x1 : Int} {x2 : Int} {x3 : Int} {x4 : Int} {r : St × List Vl} (hs : Sh12 σ a) (h : (A_X12_leaf_3 σ f g a x1 x2 x3 x4 0 r)) : Ex mt 1 224 (il σ f g) [vR 12 (some a), vI x1, vI x2, vI x3, vI x4] r := Ex.mk mt_224 (show Gx mt 1 cd_X12_leaf (il σ f g) b_X12_leaf_0 [some (vR 12 (some a)), some (vI x1), some (vI x2), some (vI x3), some (vI x4), none, none, none, none] [] r from (go_pushI rfl (go_stoI rfl rfl (go_fall (h _ _ _)))))
theorem bk_X12_leaf_3 {σ : St} {f : FI} {g : FL} {a : Nat} {x1 : Int} {x2 : Int} {x3 : Int} {x4 : Int} {x5 : Int} {r : St × List Vl} (hs : Sh12 σ a) (h : ((512 ≤ x5 → (r = ((il σ f g), []))) ∧ (¬ 512 ≤ x5 → ((-2147483648 ≤ (4096 * x1) ∧ (4096 * x1) ≤ 2147483647) ∧ (-2147483648 ≤ (8 * x5) ∧ (8 * x5) ≤ 2147483647) ∧ (-2147483648 ≤ ((4096 * x1) + (8 * x5)) ∧ ((4096 * x1) + (8 * x5)) ≤ 2147483647)) ∧ (A_X12_leaf_27 σ f g a x1 x2 x3 x4 x5 ((4096 * x1) + (8 * x5)) 0 r)))) : A_X12_leaf_3 σ f g a x1 x2 x3 x4 x5 r := fun y6 y7 y8 => (show Gx mt 1 cd_X12_leaf (il σ f g) b_X12_leaf_3 [some (vR 12 (some a)), some (vI x1), some (vI x2), some (vI x3), some (vI x4), some (vI x5), y6, y7, y8] [] r from (go_loadI rfl (go_pushI rfl (gq_icmp_ge (fun e3 => have h1 := h.1 e3; (h1 ▸ gq_retV)) (fun e3 => have h2 := h.2 e3; (go_pushI rfl (go_loadI rfl (go_imul h2.1.1 (go_pushI rfl (go_loadI rfl (go_imul h2.1.2.1 (go_iadd h2.1.2.2 (go_stoI rfl rfl (go_pushI rfl (go_stoI rfl rfl (go_fall (h2.2 _)))))))))))))))))
theorem bk_X12_leaf_27 {σ : St} {f : FI} {g : FL} {a : Nat} {x1 : Int} {x2 : Int} {x3 : Int} {x4 : Int} {x5 : Int} {x6 : Int} {x7 : Int} {r : St × List Vl} (hs : Sh12 σ a) (h : ((8 ≤ x7 → ((x2 = 1 → (A_X12_leaf_98 σ f g a x1 x2 x3 x4 x5 x6 1 r)) ∧ (¬ x2 = 1 → ((x2 = 4 → (A_X12_leaf_98 σ f g a x1 x2 x3 x4 x5 x6 1 r)) ∧ (¬ x2 = 4 → ((¬ x2 = 2 → ((¬ x2 = 3 → (A_X12_leaf_98 σ f g a x1 x2 x3 x4 x5 x6 0 r)) ∧ (x2 = 3 → ((-2147483648 ≤ x5 ∧ x5 ≤ 2147483647)) ∧ (((fO x5 x3) = x4 → (A_X12_leaf_98 σ f g a x1 x2 x3 x4 x5 x6 0 r)) ∧ (¬ (fO x5 x3) = x4 → (A_X12_leaf_98 σ f g a x1 x2 x3 x4 x5 x6 1 r)))))) ∧ (x2 = 2 → ((-2147483648 ≤ x5 ∧ x5 ≤ 2147483647)) ∧ (((fO x5 x3) = x4 → (A_X12_leaf_98 σ f g a x1 x2 x3 x4 x5 x6 1 r)) ∧ (¬ (fO x5 x3) = x4 → ((¬ x2 = 3 → (A_X12_leaf_98 σ f g a x1 x2 x3 x4 x5 x6 0 r)) ∧ (x2 = 3 → ((-2147483648 ≤ x5 ∧ x5 ≤ 2147483647)) ∧ (((fO x5 x3) = x4 → (A_X12_leaf_98 σ f g a x1 x2 x3 x4 x5 x6 0 r)) ∧ (¬ (fO x5 x3) = x4 → (A_X12_leaf_98 σ f g a x1 x2 x3 x4 x5 x6 1 r)))))))))))))) ∧ (¬ 8 ≤ x7 → ((-2147483648 ≤ (x6 + x7) ∧ (x6 + x7) ≤ 2147483647) ∧ (0 ≤ (x6 + x7) ∧ (x6 + x7) < 114688) ∧ (-2147483648 ≤ (x7 + 1) ∧ (x7 + 1) ≤ 2147483647)) ∧ (A_X12_leaf_27 σ f (up2 g (a + 9) (((x6 + x7)).toNat) (0#64)) a x1 x2 x3 x4 x5 x6 (x7 + 1) r)))) : A_X12_leaf_27 σ f g a x1 x2 x3 x4 x5 x6 x7 r := fun y8 => (show Gx mt 1 cd_X12_leaf (il σ f g) b_X12_leaf_27 [some (vR 12 (some a)), some (vI x1), some (vI x2), some (vI x3), some (vI x4), some (vI x5), some (vI x6), some (vI x7), y8] [] r from (go_loadI rfl (go_pushI rfl (gq_icmp_ge (fun e3 => have h1 := h.1 e3; (go_loadI rfl (go_pushI rfl (gq_icmp_eq (fun e6 => have h4 := h1.1 e6; (go_pushI rfl (go_goto (h4 _ _)))) (fun e6 => have h5 := h1.2 e6; (go_loadI rfl (go_pushI rfl (gq_icmp_eq (fun e9 => have h7 := h5.1 e9; (go_pushI rfl (go_goto (h7 _ _)))) (fun e9 => have h8 := h5.2 e9; (go_loadI rfl (go_pushI rfl (gq_icmp_ne (fun e12 => have h10 := h8.1 e12; (go_loadI rfl (go_pushI rfl (gq_icmp_ne (fun e15 => have h13 := h10.1 e15; (go_pushI rfl (go_fall (h13 _ _)))) (fun e15 => have h14 := h10.2 e15; (go_loadI rfl (go_loadI rfl (go_callS rfl rfl rfl (pu_fieldOf h14.1) (go_loadI rfl (gq_icmp_eq (fun e18 => have h16 := h14.2.1 e18; (go_pushI rfl (go_fall (h16 _ _)))) (fun e18 => have h17 := h14.2.2 e18; (go_fall (go_pushI rfl (go_goto (h17 _ _))))))))))))))) (fun e12 => have h11 := h8.2 e12; (go_loadI rfl (go_loadI rfl (go_callS rfl rfl rfl (pu_fieldOf h11.1) (go_loadI rfl (gq_icmp_eq (fun e21 => have h19 := h11.2.1 e21; (go_pushI rfl (go_goto (h19 _ _)))) (fun e21 => have h20 := h11.2.2 e21; (go_fall (go_loadI rfl (go_pushI rfl (gq_icmp_ne (fun e24 => have h22 := h20.1 e24; (go_pushI rfl (go_fall (h22 _ _)))) (fun e24 => have h23 := h20.2 e24; (go_loadI rfl (go_loadI rfl (go_callS rfl rfl rfl (pu_fieldOf h23.1) (go_loadI rfl (gq_icmp_eq (fun e27 => have h25 := h23.2.1 e27; (go_pushI rfl (go_fall (h25 _ _)))) (fun e27 => have h26 := h23.2.2 e27; (go_fall (go_pushI rfl (go_goto (h26 _ _)))))))))))))))))))))))))))))))))) (fun e3 => have h2 := h.2 e3; (go_loadA rfl (gi_getR (Sh12.r19 hs) (go_loadI rfl (go_loadI rfl (go_iadd h2.1.1 (go_pushL rfl (gi_last (inl_ (Sh12.l19 hs) h2.1.2.1) (go_iinc rfl h2.1.2.2 rfl (go_goto (h2.2 _)))))))))))))))
theorem bk_X12_leaf_98 {σ : St} {f : FI} {g : FL} {a : Nat} {x1 : Int} {x2 : Int} {x3 : Int} {x4 : Int} {x5 : Int} {x6 : Int} {s0 : Int} {r : St × List Vl} (hs : Sh12 σ a) (h : ((¬ x2 = 4 → (A_X12_leaf_118 σ f g a x1 x2 x3 x4 x5 x6 s0 x5 r)) ∧ (x2 = 4 → ((0 ≤ x5 ∧ x5 < 512) ∧ (0 ≤ x3 ∧ x3 < 4) ∧ (0 ≤ x4 ∧ x4 < 8) ∧ (x3 = 3 ∨ x4 < 4)) ∧ (A_X12_leaf_118 σ f g a x1 x2 x3 x4 x5 x6 s0 (chg x5 x3 x4) r)))) : A_X12_leaf_98 σ f g a x1 x2 x3 x4 x5 x6 s0 r := fun y7 y8 => (show Gx mt 1 cd_X12_leaf (il σ f g) b_X12_leaf_98 [some (vR 12 (some a)), some (vI x1), some (vI x2), some (vI x3), some (vI x4), some (vI x5), some (vI x6), some (vI y7), y8] [vI s0] r from (go_stoI rfl rfl (go_loadI rfl (go_pushI rfl (gq_icmp_ne (fun e3 => have h1 := h.1 e3; (go_loadI rfl (go_fall (h1 _)))) (fun e3 => have h2 := h.2 e3; (go_loadI rfl (go_loadI rfl (go_loadI rfl (go_callS rfl rfl rfl (pu_with h2.1.1 h2.1.2.1 h2.1.2.2.1 h2.1.2.2.2) (go_goto (h2.2 _))))))))))))
theorem bk_X12_leaf_118 {σ : St} {f : FI} {g : FL} {a : Nat} {x1 : Int} {x2 : Int} {x3 : Int} {x4 : Int} {x5 : Int} {x6 : Int} {x7 : Int} {s0 : Int} {r : St × List Vl} (hs : Sh12 σ a) (h : ((x7 = 0 → ((-2147483648 ≤ (x5 + 1) ∧ (x5 + 1) ≤ 2147483647)) ∧ (A_X12_leaf_3 σ f g a x1 x2 x3 x4 (x5 + 1) r)) ∧ (¬ x7 = 0 → ((-2147483648 ≤ s0 ∧ s0 ≤ 2147483647) ∧ (-2147483648 ≤ (x6 + (s0 / 64)) ∧ (x6 + (s0 / 64)) ≤ 2147483647) ∧ (0 ≤ (s0 % 64) ∧ (s0 % 64) < 64) ∧ (0 ≤ (x6 + (s0 / 64)) ∧ (x6 + (s0 / 64)) < 114688)) ∧ ((-2147483648 ≤ (x5 + 1) ∧ (x5 + 1) ≤ 2147483647)) ∧ (A_X12_leaf_3 σ f (up2 g (a + 9) (((x6 + (s0 / 64))).toNat) ((1#64) <<< ((s0 % 64)).toNat)) a x1 x2 x3 x4 (x5 + 1) r)))) : A_X12_leaf_118 σ f g a x1 x2 x3 x4 x5 x6 x7 s0 r := fun y8 => (show Gx mt 1 cd_X12_leaf (il σ f g) b_X12_leaf_118 [some (vR 12 (some a)), some (vI x1), some (vI x2), some (vI x3), some (vI x4), some (vI x5), some (vI x6), some (vI x7), y8] [vI s0] r from (go_stoI rfl rfl (go_loadI rfl (gq_if_eq (fun e3 => have h1 := h.1 e3; (go_iinc rfl h1.1 rfl (go_goto (h1.2 _ _ _)))) (fun e3 => have h2 := h.2 e3; (go_loadA rfl (gi_getR (Sh12.r19 hs) (go_loadI rfl (go_loadI rfl (go_pushI rfl (go_ishr (iShr_6 h2.1.1) (go_iadd h2.1.2.1 (go_pushL rfl (go_loadI rfl (go_pushI rfl (go_iand (iAnd_m63 _) (go_lshl (lShl_v h2.1.2.2.1) (gi_last (inl_ (Sh12.l19 hs) h2.1.2.2.2) (go_fall (go_iinc rfl h2.2.1 rfl (go_goto (h2.2.2 _ _ _))))))))))))))))))))))
def A_X12_follows_2 (σ : St) (f : FI) (g : FL) (a : Nat) (x1 : Int) (x2 : Int) (x3 : Int) (r : St × List Vl) : Prop := ∀ (y4 : Option Vl) (y5 : Option Vl) (y6 : Option Vl) (y7 : Option Vl) (y8 : Option Vl) (y9 : Option Vl) (y10 : Option Vl), Gx mt 0 cd_X12_follows (il σ f g) (cd_X12_follows 2) [some (vR 12 (some a)), some (vI x1), some (vI x2), some (vI x3), y4, y5, y6, y7, y8, y9, y10] [] r
def A_X12_follows_24 (σ : St) (f : FI) (g : FL) (a : Nat) (x1 : Int) (x2 : Int) (x3 : Int) (x4 : Int) (x5 : Int) (r : St × List Vl) : Prop := ∀ (y6 : Option Vl) (y7 : Option Vl) (y8 : Option Vl) (y9 : Option Vl) (y10 : Option Vl), Gx mt 0 cd_X12_follows (il σ f g) (cd_X12_follows 24) [some (vR 12 (some a)), some (vI x1), some (vI x2), some (vI x3), some (vI x4), some (vI x5), y6, y7, y8, y9, y10] [] r
def A_X12_follows_48 (σ : St) (f : FI) (g : FL) (a : Nat) (x1 : Int) (x2 : Int) (x3 : Int) (x4 : Int) (x5 : Int) (r : St × List Vl) : Prop := ∀ (y6 : Option Vl) (y7 : Option Vl) (y8 : Option Vl) (y9 : Option Vl) (y10 : Option Vl), Gx mt 0 cd_X12_follows (il σ f g) (cd_X12_follows 48) [some (vR 12 (some a)), some (vI x1), some (vI x2), some (vI x3), some (vI x4), some (vI x5), y6, y7, y8, y9, y10] [] r
def A_X12_follows_70 (σ : St) (f : FI) (g : FL) (a : Nat) (x1 : Int) (x2 : Int) (x3 : Int) (x4 : Int) (x5 : Int) (x6 : BitVec 64) (x8 : Int) (r : St × List Vl) : Prop := ∀ (y9 : Option Vl) (y10 : Option Vl), Gx mt 0 cd_X12_follows (il σ f g) (cd_X12_follows 70) [some (vR 12 (some a)), some (vI x1), some (vI x2), some (vI x3), some (vI x4), some (vI x5), some (vL x6), none, some (vI x8), y9, y10] [] r
def A_X12_follows_108 (σ : St) (f : FI) (g : FL) (a : Nat) (x1 : Int) (x2 : Int) (x3 : Int) (x4 : Int) (x5 : Int) (x6 : BitVec 64) (x8 : Int) (x9 : Int) (x10 : Int) (r : St × List Vl) : Prop := Gx mt 0 cd_X12_follows (il σ f g) (cd_X12_follows 108) [some (vR 12 (some a)), some (vI x1), some (vI x2), some (vI x3), some (vI x4), some (vI x5), some (vL x6), none, some (vI x8), some (vI x9), some (vI x10)] [] r
def A_X12_follows_162 (σ : St) (f : FI) (g : FL) (a : Nat) (x1 : Int) (x2 : Int) (x3 : Int) (x4 : Int) (x5 : Int) (r : St × List Vl) : Prop := ∀ (y6 : Option Vl) (y7 : Option Vl) (y8 : Option Vl) (y9 : Option Vl) (y10 : Option Vl), Gx mt 0 cd_X12_follows (il σ f g) (cd_X12_follows 162) [some (vR 12 (some a)), some (vI x1), some (vI x2), some (vI x3), some (vI x4), some (vI x5), y6, y7, y8, y9, y10] [] r
theorem bk_X12_follows_0 {σ : St} {f : FI} {g : FL} {a : Nat} {x1 : Int} {x2 : Int} {r : St × List Vl} (hs : Sh12 σ a) (h : (A_X12_follows_2 σ f g a x1 x2 0 r)) : Ex mt 0 225 (il σ f g) [vR 12 (some a), vI x1, vI x2] r := Ex.mk mt_225 (show Gx mt 0 cd_X12_follows (il σ f g) b_X12_follows_0 [some (vR 12 (some a)), some (vI x1), some (vI x2), none, none, none, none, none, none, none, none] [] r from (go_pushI rfl (go_stoI rfl rfl (go_fall (h _ _ _ _ _ _ _)))))
theorem bk_X12_follows_2 {σ : St} {f : FI} {g : FL} {a : Nat} {x1 : Int} {x2 : Int} {x3 : Int} {r : St × List Vl} (hs : Sh12 σ a) (h : ((512 ≤ x3 → (r = ((il σ f g), []))) ∧ (¬ 512 ≤ x3 → ((-2147483648 ≤ (4096 * x1) ∧ (4096 * x1) ≤ 2147483647) ∧ (-2147483648 ≤ (8 * x3) ∧ (8 * x3) ≤ 2147483647) ∧ (-2147483648 ≤ ((4096 * x1) + (8 * x3)) ∧ ((4096 * x1) + (8 * x3)) ≤ 2147483647)) ∧ (A_X12_follows_24 σ f g a x1 x2 x3 ((4096 * x1) + (8 * x3)) 0 r)))) : A_X12_follows_2 σ f g a x1 x2 x3 r := fun y4 y5 y6 y7 y8 y9 y10 => (show Gx mt 0 cd_X12_follows (il σ f g) b_X12_follows_2 [some (vR 12 (some a)), some (vI x1), some (vI x2), some (vI x3), y4, y5, y6, y7, y8, y9, y10] [] r from (go_loadI rfl (go_pushI rfl (gq_icmp_ge (fun e3 => have h1 := h.1 e3; (h1 ▸ gq_retV)) (fun e3 => have h2 := h.2 e3; (go_pushI rfl (go_loadI rfl (go_imul h2.1.1 (go_pushI rfl (go_loadI rfl (go_imul h2.1.2.1 (go_iadd h2.1.2.2 (go_stoI rfl rfl (go_pushI rfl (go_stoI rfl rfl (go_fall (h2.2 _ _ _ _ _)))))))))))))))))
theorem bk_X12_follows_24 {σ : St} {f : FI} {g : FL} {a : Nat} {x1 : Int} {x2 : Int} {x3 : Int} {x4 : Int} {x5 : Int} {r : St × List Vl} (hs : Sh12 σ a) (h : ((8 ≤ x5 → (A_X12_follows_48 σ f g a x1 x2 x3 x4 0 r)) ∧ (¬ 8 ≤ x5 → ((0 ≤ x5 ∧ x5 < 8) ∧ (-2147483648 ≤ (x5 + 1) ∧ (x5 + 1) ≤ 2147483647)) ∧ (A_X12_follows_24 σ f (up2 g (a + 11) ((x5).toNat) (0#64)) a x1 x2 x3 x4 (x5 + 1) r)))) : A_X12_follows_24 σ f g a x1 x2 x3 x4 x5 r := fun y6 y7 y8 y9 y10 => (show Gx mt 0 cd_X12_follows (il σ f g) b_X12_follows_24 [some (vR 12 (some a)), some (vI x1), some (vI x2), some (vI x3), some (vI x4), some (vI x5), y6, y7, y8, y9, y10] [] r from (go_loadI rfl (go_pushI rfl (gq_icmp_ge (fun e3 => have h1 := h.1 e3; (go_pushI rfl (go_stoI rfl rfl (go_fall (h1 _ _ _ _ _))))) (fun e3 => have h2 := h.2 e3; (go_loadA rfl (gi_getR (Sh12.r21 hs) (go_loadI rfl (go_pushL rfl (gi_last (inl_ (Sh12.l21 hs) h2.1.1) (go_iinc rfl h2.1.2 rfl (go_goto (h2.2 _ _ _ _ _)))))))))))))
theorem bk_X12_follows_48 {σ : St} {f : FI} {g : FL} {a : Nat} {x1 : Int} {x2 : Int} {x3 : Int} {x4 : Int} {x5 : Int} {r : St × List Vl} (hs : Sh12 σ a) (h : ((8 ≤ x5 → (A_X12_follows_162 σ f g a x1 x2 x3 x4 0 r)) ∧ (¬ 8 ≤ x5 → ((-2147483648 ≤ (x4 + x5) ∧ (x4 + x5) ≤ 2147483647) ∧ (0 ≤ (x4 + x5) ∧ (x4 + x5) < 114688)) ∧ (A_X12_follows_70 σ f g a x1 x2 x3 x4 x5 (g (a + 9) (((x4 + x5)).toNat)) 0 r)))) : A_X12_follows_48 σ f g a x1 x2 x3 x4 x5 r := fun y6 y7 y8 y9 y10 => (show Gx mt 0 cd_X12_follows (il σ f g) b_X12_follows_48 [some (vR 12 (some a)), some (vI x1), some (vI x2), some (vI x3), some (vI x4), some (vI x5), y6, y7, y8, y9, y10] [] r from (go_loadI rfl (go_pushI rfl (gq_icmp_ge (fun e3 => have h1 := h.1 e3; (go_pushI rfl (go_stoI rfl rfl (go_fall (h1 _ _ _ _ _))))) (fun e3 => have h2 := h.2 e3; (go_loadA rfl (gi_getR (Sh12.r19 hs) (go_loadI rfl (go_loadI rfl (go_iadd h2.1.1 (gi_lald (inl_ (Sh12.l19 hs) h2.1.2) (go_stoL rfl rfl (go_pushI rfl (go_stoI rfl rfl (go_fall (h2.2 _ _))))))))))))))))
theorem bk_X12_follows_70 {σ : St} {f : FI} {g : FL} {a : Nat} {x1 : Int} {x2 : Int} {x3 : Int} {x4 : Int} {x5 : Int} {x6 : BitVec 64} {x8 : Int} {r : St × List Vl} (hs : Sh12 σ a) (h : ((x6 = (0#64) → ((-2147483648 ≤ (x5 + 1) ∧ (x5 + 1) ≤ 2147483647)) ∧ (A_X12_follows_48 σ f g a x1 x2 x3 x4 (x5 + 1) r)) ∧ (¬ x6 = (0#64) → ((¬ (x6 &&& (1#64)) = (1#64) → ((-2147483648 ≤ (x8 + 1) ∧ (x8 + 1) ≤ 2147483647)) ∧ (A_X12_follows_70 σ f g a x1 x2 x3 x4 x5 (x6 >>> (1 : Int).toNat) (x8 + 1) r)) ∧ ((x6 &&& (1#64)) = (1#64) → ((-2147483648 ≤ (4096 * x2) ∧ (4096 * x2) ≤ 2147483647) ∧ (-2147483648 ≤ (64 * x5) ∧ (64 * x5) ≤ 2147483647) ∧ (-2147483648 ≤ ((64 * x5) + x8) ∧ ((64 * x5) + x8) ≤ 2147483647) ∧ (-2147483648 ≤ (8 * ((64 * x5) + x8)) ∧ (8 * ((64 * x5) + x8)) ≤ 2147483647) ∧ (-2147483648 ≤ ((4096 * x2) + (8 * ((64 * x5) + x8))) ∧ ((4096 * x2) + (8 * ((64 * x5) + x8))) ≤ 2147483647)) ∧ (A_X12_follows_108 σ f g a x1 x2 x3 x4 x5 x6 x8 ((4096 * x2) + (8 * ((64 * x5) + x8))) 0 r)))))) : A_X12_follows_70 σ f g a x1 x2 x3 x4 x5 x6 x8 r := fun y9 y10 => (show Gx mt 0 cd_X12_follows (il σ f g) b_X12_follows_70 [some (vR 12 (some a)), some (vI x1), some (vI x2), some (vI x3), some (vI x4), some (vI x5), some (vL x6), none, some (vI x8), y9, y10] [] r from (go_loadL rfl (go_pushL rfl (go_lcmp rfl (go_lif_eq (fun e3 => have h1 := h.1 e3; (go_iinc rfl h1.1 rfl (go_goto (h1.2 _ _ _ _ _)))) (fun e3 => have h2 := h.2 e3; (go_loadL rfl (go_pushL rfl (go_land (go_pushL rfl (go_lcmp rfl (go_lif_ne (fun e6 => have h4 := h2.1 e6; (go_loadL rfl (go_pushI rfl (go_lushr (lUshr_v ⟨by decide, by decide⟩) (go_stoL rfl rfl (go_iinc rfl h4.1 rfl (go_goto (h4.2 _ _)))))))) (fun e6 => have h5 := h2.2 e6; (go_pushI rfl (go_loadI rfl (go_imul h5.1.1 (go_pushI rfl (go_pushI rfl (go_loadI rfl (go_imul h5.1.2.1 (go_loadI rfl (go_iadd h5.1.2.2.1 (go_imul h5.1.2.2.2.1 (go_iadd h5.1.2.2.2.2 (go_stoI rfl rfl (go_pushI rfl (go_stoI rfl rfl (go_fall (h5.2)))))))))))))))))))))))))))))
theorem bk_X12_follows_108 {σ : St} {f : FI} {g : FL} {a : Nat} {x1 : Int} {x2 : Int} {x3 : Int} {x4 : Int} {x5 : Int} {x6 : BitVec 64} {x8 : Int} {x9 : Int} {x10 : Int} {r : St × List Vl} (hs : Sh12 σ a) (h : ((8 ≤ x10 → ((-2147483648 ≤ (x8 + 1) ∧ (x8 + 1) ≤ 2147483647)) ∧ (A_X12_follows_70 σ f g a x1 x2 x3 x4 x5 (x6 >>> (1 : Int).toNat) (x8 + 1) r)) ∧ (¬ 8 ≤ x10 → ((0 ≤ x10 ∧ x10 < 8) ∧ (-2147483648 ≤ (x9 + x10) ∧ (x9 + x10) ≤ 2147483647) ∧ (0 ≤ (x9 + x10) ∧ (x9 + x10) < 114688) ∧ (-2147483648 ≤ (x10 + 1) ∧ (x10 + 1) ≤ 2147483647)) ∧ (A_X12_follows_108 σ f (up2 g (a + 11) ((x10).toNat) ((g (a + 11) ((x10).toNat)) ||| (g (a + 9) (((x9 + x10)).toNat)))) a x1 x2 x3 x4 x5 x6 x8 x9 (x10 + 1) r)))) : A_X12_follows_108 σ f g a x1 x2 x3 x4 x5 x6 x8 x9 x10 r := (show Gx mt 0 cd_X12_follows (il σ f g) b_X12_follows_108 [some (vR 12 (some a)), some (vI x1), some (vI x2), some (vI x3), some (vI x4), some (vI x5), some (vL x6), none, some (vI x8), some (vI x9), some (vI x10)] [] r from (go_loadI rfl (go_pushI rfl (gq_icmp_ge (fun e3 => have h1 := h.1 e3; (go_loadL rfl (go_pushI rfl (go_lushr (lUshr_v ⟨by decide, by decide⟩) (go_stoL rfl rfl (go_iinc rfl h1.1 rfl (go_goto (h1.2 _ _)))))))) (fun e3 => have h2 := h.2 e3; (go_loadA rfl (gi_getR (Sh12.r21 hs) (go_loadI rfl (go_dup2 (gi_lald (inl_ (Sh12.l21 hs) h2.1.1) (go_loadA rfl (gi_getR (Sh12.r19 hs) (go_loadI rfl (go_loadI rfl (go_iadd h2.1.2.1 (gi_lald (inl_ (Sh12.l19 hs) h2.1.2.2.1) (go_lor (gi_last (inl_ (Sh12.l21 hs) h2.1.1) (go_iinc rfl h2.1.2.2.2 rfl (go_goto (h2.2)))))))))))))))))))))
theorem bk_X12_follows_162 {σ : St} {f : FI} {g : FL} {a : Nat} {x1 : Int} {x2 : Int} {x3 : Int} {x4 : Int} {x5 : Int} {r : St × List Vl} (hs : Sh12 σ a) (h : ((8 ≤ x5 → ((-2147483648 ≤ (x3 + 1) ∧ (x3 + 1) ≤ 2147483647)) ∧ (A_X12_follows_2 σ f g a x1 x2 (x3 + 1) r)) ∧ (¬ 8 ≤ x5 → ((-2147483648 ≤ (x4 + x5) ∧ (x4 + x5) ≤ 2147483647) ∧ (0 ≤ x5 ∧ x5 < 8) ∧ (0 ≤ (x4 + x5) ∧ (x4 + x5) < 114688) ∧ (-2147483648 ≤ (x5 + 1) ∧ (x5 + 1) ≤ 2147483647)) ∧ (A_X12_follows_162 σ f (up2 g (a + 9) (((x4 + x5)).toNat) (g (a + 11) ((x5).toNat))) a x1 x2 x3 x4 (x5 + 1) r)))) : A_X12_follows_162 σ f g a x1 x2 x3 x4 x5 r := fun y6 y7 y8 y9 y10 => (show Gx mt 0 cd_X12_follows (il σ f g) b_X12_follows_162 [some (vR 12 (some a)), some (vI x1), some (vI x2), some (vI x3), some (vI x4), some (vI x5), y6, y7, y8, y9, y10] [] r from (go_loadI rfl (go_pushI rfl (gq_icmp_ge (fun e3 => have h1 := h.1 e3; (go_iinc rfl h1.1 rfl (go_goto (h1.2 _ _ _ _ _ _ _)))) (fun e3 => have h2 := h.2 e3; (go_loadA rfl (gi_getR (Sh12.r19 hs) (go_loadI rfl (go_loadI rfl (go_iadd h2.1.1 (go_loadA rfl (gi_getR (Sh12.r21 hs) (go_loadI rfl (gi_lald (inl_ (Sh12.l21 hs) h2.1.2.1) (gi_last (inl_ (Sh12.l19 hs) h2.1.2.2.1) (go_iinc rfl h2.1.2.2.2 rfl (go_goto (h2.2 _ _ _ _ _))))))))))))))))))
def A_X12_closes_2 (σ : St) (f : FI) (g : FL) (a : Nat) (x1 : Int) (x2 : Int) (r : St × List Vl) : Prop := ∀ (y3 : Option Vl) (y4 : Option Vl) (y5 : Option Vl) (y6 : Option Vl), Gx mt 0 cd_X12_closes (il σ f g) (cd_X12_closes 2) [some (vR 12 (some a)), some (vI x1), some (vI x2), y3, y4, y5, y6] [] r
def A_X12_closes_46 (σ : St) (f : FI) (g : FL) (a : Nat) (x1 : Int) (x2 : Int) (r : St × List Vl) : Prop := ∀ (y3 : Option Vl) (y4 : Option Vl) (y5 : Option Vl) (y6 : Option Vl), Gx mt 0 cd_X12_closes (il σ f g) (cd_X12_closes 46) [some (vR 12 (some a)), some (vI x1), some (vI x2), y3, y4, y5, y6] [] r
def A_X12_closes_67 (σ : St) (f : FI) (g : FL) (a : Nat) (x1 : Int) (x2 : Int) (x3 : Int) (x4 : Int) (r : St × List Vl) : Prop := ∀ (y5 : Option Vl) (y6 : Option Vl), Gx mt 0 cd_X12_closes (il σ f g) (cd_X12_closes 67) [some (vR 12 (some a)), some (vI x1), some (vI x2), some (vI x3), some (vI x4), y5, y6] [] r
def A_X12_closes_115 (σ : St) (f : FI) (g : FL) (a : Nat) (x1 : Int) (x2 : Int) (x3 : Int) (x4 : Int) (x5 : Int) (x6 : Int) (r : St × List Vl) : Prop := Gx mt 0 cd_X12_closes (il σ f g) (cd_X12_closes 115) [some (vR 12 (some a)), some (vI x1), some (vI x2), some (vI x3), some (vI x4), some (vI x5), some (vI x6)] [] r
theorem bk_X12_closes_0 {σ : St} {f : FI} {g : FL} {a : Nat} {x1 : Int} {r : St × List Vl} (hs : Sh12 σ a) (h : (A_X12_closes_2 σ f g a x1 0 r)) : Ex mt 0 226 (il σ f g) [vR 12 (some a), vI x1] r := Ex.mk mt_226 (show Gx mt 0 cd_X12_closes (il σ f g) b_X12_closes_0 [some (vR 12 (some a)), some (vI x1), none, none, none, none, none] [] r from (go_pushI rfl (go_stoI rfl rfl (go_fall (h _ _ _ _)))))
theorem bk_X12_closes_2 {σ : St} {f : FI} {g : FL} {a : Nat} {x1 : Int} {x2 : Int} {r : St × List Vl} (hs : Sh12 σ a) (h : ((512 ≤ x2 → (A_X12_closes_46 σ f g a x1 0 r)) ∧ (¬ 512 ≤ x2 → ((-2147483648 ≤ (4096 * x1) ∧ (4096 * x1) ≤ 2147483647) ∧ (-2147483648 ≤ (8 * x2) ∧ (8 * x2) ≤ 2147483647) ∧ (-2147483648 ≤ ((4096 * x1) + (8 * x2)) ∧ ((4096 * x1) + (8 * x2)) ≤ 2147483647) ∧ (-2147483648 ≤ x2 ∧ x2 ≤ 2147483647) ∧ (-2147483648 ≤ (((4096 * x1) + (8 * x2)) + (x2 / 64)) ∧ (((4096 * x1) + (8 * x2)) + (x2 / 64)) ≤ 2147483647) ∧ (0 ≤ (((4096 * x1) + (8 * x2)) + (x2 / 64)) ∧ (((4096 * x1) + (8 * x2)) + (x2 / 64)) < 114688) ∧ (0 ≤ (x2 % 64) ∧ (x2 % 64) < 64) ∧ (-2147483648 ≤ (x2 + 1) ∧ (x2 + 1) ≤ 2147483647)) ∧ (A_X12_closes_2 σ f (up2 g (a + 9) (((((4096 * x1) + (8 * x2)) + (x2 / 64))).toNat) ((g (a + 9) (((((4096 * x1) + (8 * x2)) + (x2 / 64))).toNat)) ||| ((1#64) <<< ((x2 % 64)).toNat))) a x1 (x2 + 1) r)))) : A_X12_closes_2 σ f g a x1 x2 r := fun y3 y4 y5 y6 => (show Gx mt 0 cd_X12_closes (il σ f g) b_X12_closes_2 [some (vR 12 (some a)), some (vI x1), some (vI x2), y3, y4, y5, y6] [] r from (go_loadI rfl (go_pushI rfl (gq_icmp_ge (fun e3 => have h1 := h.1 e3; (go_pushI rfl (go_stoI rfl rfl (go_fall (h1 _ _ _ _))))) (fun e3 => have h2 := h.2 e3; (go_loadA rfl (gi_getR (Sh12.r19 hs) (go_pushI rfl (go_loadI rfl (go_imul h2.1.1 (go_pushI rfl (go_loadI rfl (go_imul h2.1.2.1 (go_iadd h2.1.2.2.1 (go_loadI rfl (go_pushI rfl (go_ishr (iShr_6 h2.1.2.2.2.1) (go_iadd h2.1.2.2.2.2.1 (go_dup2 (gi_lald (inl_ (Sh12.l19 hs) h2.1.2.2.2.2.2.1) (go_pushL rfl (go_loadI rfl (go_pushI rfl (go_iand (iAnd_m63 _) (go_lshl (lShl_v h2.1.2.2.2.2.2.2.1) (go_lor (gi_last (inl_ (Sh12.l19 hs) h2.1.2.2.2.2.2.1) (go_iinc rfl h2.1.2.2.2.2.2.2.2 rfl (go_goto (h2.2 _ _ _ _))))))))))))))))))))))))))))))
theorem bk_X12_closes_46 {σ : St} {f : FI} {g : FL} {a : Nat} {x1 : Int} {x2 : Int} {r : St × List Vl} (hs : Sh12 σ a) (h : ((512 ≤ x2 → (r = ((il σ f g), []))) ∧ (¬ 512 ≤ x2 → ((-2147483648 ≤ (4096 * x1) ∧ (4096 * x1) ≤ 2147483647) ∧ (-2147483648 ≤ (8 * x2) ∧ (8 * x2) ≤ 2147483647) ∧ (-2147483648 ≤ ((4096 * x1) + (8 * x2)) ∧ ((4096 * x1) + (8 * x2)) ≤ 2147483647)) ∧ (A_X12_closes_67 σ f g a x1 x2 ((4096 * x1) + (8 * x2)) 0 r)))) : A_X12_closes_46 σ f g a x1 x2 r := fun y3 y4 y5 y6 => (show Gx mt 0 cd_X12_closes (il σ f g) b_X12_closes_46 [some (vR 12 (some a)), some (vI x1), some (vI x2), y3, y4, y5, y6] [] r from (go_loadI rfl (go_pushI rfl (gq_icmp_ge (fun e3 => have h1 := h.1 e3; (h1 ▸ gq_retV)) (fun e3 => have h2 := h.2 e3; (go_pushI rfl (go_loadI rfl (go_imul h2.1.1 (go_pushI rfl (go_loadI rfl (go_imul h2.1.2.1 (go_iadd h2.1.2.2 (go_stoI rfl rfl (go_pushI rfl (go_stoI rfl rfl (go_fall (h2.2 _ _)))))))))))))))))
theorem bk_X12_closes_67 {σ : St} {f : FI} {g : FL} {a : Nat} {x1 : Int} {x2 : Int} {x3 : Int} {x4 : Int} {r : St × List Vl} (hs : Sh12 σ a) (h : ((512 ≤ x4 → ((-2147483648 ≤ (x2 + 1) ∧ (x2 + 1) ≤ 2147483647)) ∧ (A_X12_closes_46 σ f g a x1 (x2 + 1) r)) ∧ (¬ 512 ≤ x4 → ((-2147483648 ≤ (4096 * x1) ∧ (4096 * x1) ≤ 2147483647) ∧ (-2147483648 ≤ (8 * x4) ∧ (8 * x4) ≤ 2147483647) ∧ (-2147483648 ≤ ((4096 * x1) + (8 * x4)) ∧ ((4096 * x1) + (8 * x4)) ≤ 2147483647) ∧ (-2147483648 ≤ x2 ∧ x2 ≤ 2147483647) ∧ (-2147483648 ≤ (((4096 * x1) + (8 * x4)) + (x2 / 64)) ∧ (((4096 * x1) + (8 * x4)) + (x2 / 64)) ≤ 2147483647) ∧ (0 ≤ (((4096 * x1) + (8 * x4)) + (x2 / 64)) ∧ (((4096 * x1) + (8 * x4)) + (x2 / 64)) < 114688) ∧ (0 ≤ (x2 % 64) ∧ (x2 % 64) < 64)) ∧ ((¬ ((BitVec.sshiftRight (g (a + 9) (((((4096 * x1) + (8 * x4)) + (x2 / 64))).toNat)) (((x2 % 64)).toNat)) &&& (1#64)) = (1#64) → ((-2147483648 ≤ (x4 + 1) ∧ (x4 + 1) ≤ 2147483647)) ∧ (A_X12_closes_67 σ f g a x1 x2 x3 (x4 + 1) r)) ∧ (((BitVec.sshiftRight (g (a + 9) (((((4096 * x1) + (8 * x4)) + (x2 / 64))).toNat)) (((x2 % 64)).toNat)) &&& (1#64)) = (1#64) → (A_X12_closes_115 σ f g a x1 x2 x3 x4 ((4096 * x1) + (8 * x4)) 0 r)))))) : A_X12_closes_67 σ f g a x1 x2 x3 x4 r := fun y5 y6 => (show Gx mt 0 cd_X12_closes (il σ f g) b_X12_closes_67 [some (vR 12 (some a)), some (vI x1), some (vI x2), some (vI x3), some (vI x4), y5, y6] [] r from (go_loadI rfl (go_pushI rfl (gq_icmp_ge (fun e3 => have h1 := h.1 e3; (go_iinc rfl h1.1 rfl (go_goto (h1.2 _ _ _ _)))) (fun e3 => have h2 := h.2 e3; (go_pushI rfl (go_loadI rfl (go_imul h2.1.1 (go_pushI rfl (go_loadI rfl (go_imul h2.1.2.1 (go_iadd h2.1.2.2.1 (go_stoI rfl rfl (go_loadA rfl (gi_getR (Sh12.r19 hs) (go_loadI rfl (go_loadI rfl (go_pushI rfl (go_ishr (iShr_6 h2.1.2.2.2.1) (go_iadd h2.1.2.2.2.2.1 (gi_lald (inl_ (Sh12.l19 hs) h2.1.2.2.2.2.2.1) (go_loadI rfl (go_pushI rfl (go_iand (iAnd_m63 _) (go_lshr (lShr_v h2.1.2.2.2.2.2.2) (go_pushL rfl (go_land (go_pushL rfl (go_lcmp rfl (go_lif_ne (fun e6 => have h4 := h2.2.1 e6; (go_iinc rfl h4.1 rfl (go_goto (h4.2 _ _)))) (fun e6 => have h5 := h2.2.2 e6; (go_pushI rfl (go_stoI rfl rfl (go_fall (h5)))))))))))))))))))))))))))))))))))
theorem bk_X12_closes_115 {σ : St} {f : FI} {g : FL} {a : Nat} {x1 : Int} {x2 : Int} {x3 : Int} {x4 : Int} {x5 : Int} {x6 : Int} {r : St × List Vl} (hs : Sh12 σ a) (h : ((8 ≤ x6 → ((-2147483648 ≤ (x4 + 1) ∧ (x4 + 1) ≤ 2147483647)) ∧ (A_X12_closes_67 σ f g a x1 x2 x3 (x4 + 1) r)) ∧ (¬ 8 ≤ x6 → ((-2147483648 ≤ (x5 + x6) ∧ (x5 + x6) ≤ 2147483647) ∧ (0 ≤ (x5 + x6) ∧ (x5 + x6) < 114688) ∧ (-2147483648 ≤ (x3 + x6) ∧ (x3 + x6) ≤ 2147483647) ∧ (0 ≤ (x3 + x6) ∧ (x3 + x6) < 114688) ∧ (-2147483648 ≤ (x6 + 1) ∧ (x6 + 1) ≤ 2147483647)) ∧ (A_X12_closes_115 σ f (up2 g (a + 9) (((x5 + x6)).toNat) ((g (a + 9) (((x5 + x6)).toNat)) ||| (g (a + 9) (((x3 + x6)).toNat)))) a x1 x2 x3 x4 x5 (x6 + 1) r)))) : A_X12_closes_115 σ f g a x1 x2 x3 x4 x5 x6 r := (show Gx mt 0 cd_X12_closes (il σ f g) b_X12_closes_115 [some (vR 12 (some a)), some (vI x1), some (vI x2), some (vI x3), some (vI x4), some (vI x5), some (vI x6)] [] r from (go_loadI rfl (go_pushI rfl (gq_icmp_ge (fun e3 => have h1 := h.1 e3; (go_iinc rfl h1.1 rfl (go_goto (h1.2 _ _)))) (fun e3 => have h2 := h.2 e3; (go_loadA rfl (gi_getR (Sh12.r19 hs) (go_loadI rfl (go_loadI rfl (go_iadd h2.1.1 (go_dup2 (gi_lald (inl_ (Sh12.l19 hs) h2.1.2.1) (go_loadA rfl (gi_getR (Sh12.r19 hs) (go_loadI rfl (go_loadI rfl (go_iadd h2.1.2.2.1 (gi_lald (inl_ (Sh12.l19 hs) h2.1.2.2.2.1) (go_lor (gi_last (inl_ (Sh12.l19 hs) h2.1.2.1) (go_iinc rfl h2.1.2.2.2.2 rfl (go_goto (h2.2)))))))))))))))))))))))
def A_X12_works_4 (σ : St) (f : FI) (g : FL) (a : Nat) (x1 : Int) (x2 : Int) (x3 : Int) (r : St × List Vl) : Prop := ∀ (y4 : Option Vl) (y5 : Option Vl), Gx mt 2 cd_X12_works (il σ f g) (cd_X12_works 4) [some (vR 12 (some a)), some (vI x1), some (vI x2), some (vI x3), y4, y5] [] r
def A_X12_works_62 (σ : St) (f : FI) (g : FL) (a : Nat) (x1 : Int) (x2 : Int) (x3 : Int) (x5 : Int) (r : St × List Vl) : Prop := ∀ (y4 : Int), Gx mt 2 cd_X12_works (il σ f g) (cd_X12_works 62) [some (vR 12 (some a)), some (vI x1), some (vI x2), some (vI x3), some (vI y4), some (vI x5)] [] r
def A_X12_works_173 (σ : St) (f : FI) (g : FL) (a : Nat) (x1 : Int) (x3 : Int) (r : St × List Vl) : Prop := ∀ (y2 : Int) (y4 : Option Vl) (y5 : Option Vl), Gx mt 2 cd_X12_works (il σ f g) (cd_X12_works 173) [some (vR 12 (some a)), some (vI x1), some (vI y2), some (vI x3), y4, y5] [] r
theorem bk_X12_works_0 {σ : St} {f : FI} {g : FL} {a : Nat} {x1 : Int} {r : St × List Vl} (hs : Sh12 σ a) (h : (A_X12_works_4 σ f g a x1 0 0 r)) : Ex mt 2 223 (il σ f g) [vR 12 (some a), vI x1] r := Ex.mk mt_223 (show Gx mt 2 cd_X12_works (il σ f g) b_X12_works_0 [some (vR 12 (some a)), some (vI x1), none, none, none, none] [] r from (go_pushI rfl (go_stoI rfl rfl (go_pushI rfl (go_stoI rfl rfl (go_fall (h _ _)))))))
theorem bk_X12_works_4 {σ : St} {f : FI} {g : FL} {a : Nat} {x1 : Int} {x2 : Int} {x3 : Int} {r : St × List Vl} (hs : Sh12 σ a) (h : ((0 ≤ x1 ∧ x1 < 12)) ∧ (((f (a + 5) ((x1).toNat)) ≤ x3 → (A_X12_works_173 σ f g a x1 0 r)) ∧ (¬ (f (a + 5) ((x1).toNat)) ≤ x3 → ((-2147483648 ≤ (300 * x1) ∧ (300 * x1) ≤ 2147483647) ∧ (-2147483648 ≤ ((300 * x1) + x3) ∧ ((300 * x1) + x3) ≤ 2147483647) ∧ (0 ≤ ((300 * x1) + x3) ∧ ((300 * x1) + x3) < 3600)) ∧ ((¬ (f (a + 2) ((((300 * x1) + x3)).toNat)) = 5 → ((0 ≤ ((300 * x1) + x3) ∧ ((300 * x1) + x3) < 3600)) ∧ ((¬ (f (a + 2) ((((300 * x1) + x3)).toNat)) = 6 → ((0 ≤ ((300 * x1) + x3) ∧ ((300 * x1) + x3) < 3600)) ∧ ((¬ (f (a + 2) ((((300 * x1) + x3)).toNat)) = 7 → ((0 ≤ ((300 * x1) + x3) ∧ ((300 * x1) + x3) < 3600)) ∧ (∃ (f13 : FI) (g14 : FL), Ex mt 1 224 (il σ f g) [vR 12 (some a), vI x2, vI (f (a + 2) ((((300 * x1) + x3)).toNat)), vI (f (a + 3) ((((300 * x1) + x3)).toNat)), vI (f (a + 4) ((((300 * x1) + x3)).toNat))] ((il σ f13 g14), []) ∧ ((-2147483648 ≤ (x2 + 1) ∧ (x2 + 1) ≤ 2147483647)) ∧ ((-2147483648 ≤ (x3 + 1) ∧ (x3 + 1) ≤ 2147483647)) ∧ (A_X12_works_4 σ f13 g14 a x1 (x2 + 1) (x3 + 1) r))) ∧ ((f (a + 2) ((((300 * x1) + x3)).toNat)) = 7 → ((-2147483648 ≤ (x2 + (-1)) ∧ (x2 + (-1)) ≤ 2147483647) ∧ (-2147483648 ≤ ((x2 + (-1)) - 1) ∧ ((x2 + (-1)) - 1) ≤ 2147483647)) ∧ (∃ (f17 : FI) (g18 : FL), Ex mt 0 225 (il σ f g) [vR 12 (some a), vI ((x2 + (-1)) - 1), vI (x2 + (-1))] ((il σ f17 g18), []) ∧ ((-2147483648 ≤ (x3 + 1) ∧ (x3 + 1) ≤ 2147483647)) ∧ (A_X12_works_4 σ f17 g18 a x1 (x2 + (-1)) (x3 + 1) r))))) ∧ ((f (a + 2) ((((300 * x1) + x3)).toNat)) = 6 → ((-2147483648 ≤ (x2 + (-1)) ∧ (x2 + (-1)) ≤ 2147483647)) ∧ (A_X12_works_62 σ f g a x1 (x2 + (-1)) x3 0 r)))) ∧ ((f (a + 2) ((((300 * x1) + x3)).toNat)) = 5 → ((-2147483648 ≤ (x2 - 1) ∧ (x2 - 1) ≤ 2147483647)) ∧ (∃ (f21 : FI) (g22 : FL), Ex mt 0 226 (il σ f g) [vR 12 (some a), vI (x2 - 1)] ((il σ f21 g22), []) ∧ ((-2147483648 ≤ (x3 + 1) ∧ (x3 + 1) ≤ 2147483647)) ∧ (A_X12_works_4 σ f21 g22 a x1 x2 (x3 + 1) r))))))) : A_X12_works_4 σ f g a x1 x2 x3 r := fun y4 y5 => (show Gx mt 2 cd_X12_works (il σ f g) b_X12_works_4 [some (vR 12 (some a)), some (vI x1), some (vI x2), some (vI x3), y4, y5] [] r from (go_loadI rfl (go_loadA rfl (gi_getR (Sh12.r13 hs) (go_loadI rfl (gi_iald (inl_ (Sh12.l13 hs) h.1) (gq_icmp_ge (fun e3 => have h1 := h.2.1 e3; (go_pushI rfl (go_stoI rfl rfl (go_fall (h1 _ _ _))))) (fun e3 => have h2 := h.2.2 e3; (go_pushI rfl (go_loadI rfl (go_imul h2.1.1 (go_loadI rfl (go_iadd h2.1.2.1 (go_stoI rfl rfl (go_loadA rfl (gi_getR (Sh12.r10 hs) (go_loadI rfl (gi_iald (inl_ (Sh12.l10 hs) h2.1.2.2) (go_pushI rfl (gq_icmp_ne (fun e6 => have h4 := h2.2.1 e6; (go_loadA rfl (gi_getR (Sh12.r10 hs) (go_loadI rfl (gi_iald (inl_ (Sh12.l10 hs) h4.1) (go_pushI rfl (gq_icmp_ne (fun e9 => have h7 := h4.2.1 e9; (go_loadA rfl (gi_getR (Sh12.r10 hs) (go_loadI rfl (gi_iald (inl_ (Sh12.l10 hs) h7.1) (go_pushI rfl (gq_icmp_ne (fun e12 => have h10 := h7.2.1 e12; (go_loadA rfl (go_loadI rfl (go_loadA rfl (gi_getR (Sh12.r10 hs) (go_loadI rfl (gi_iald (inl_ (Sh12.l10 hs) h10.1) (go_loadA rfl (gi_getR (Sh12.r11 hs) (go_loadI rfl (gi_iald (inl_ (Sh12.l11 hs) h10.1) (go_loadA rfl (gi_getR (Sh12.r12 hs) (go_loadI rfl (gi_iald (inl_ (Sh12.l12 hs) h10.1) (Exists.elim h10.2 fun f13 w16 => Exists.elim w16 fun g14 h15 => (go_callV rfl rfl rfl h15.1 (go_iinc rfl h15.2.1 rfl (go_fall (go_iinc rfl h15.2.2.1 rfl (go_goto (h15.2.2.2 _ _)))))))))))))))))))))) (fun e12 => have h11 := h7.2.2 e12; (go_iinc rfl h11.1.1 rfl (go_loadA rfl (go_loadI rfl (go_pushI rfl (go_isub h11.1.2 (go_loadI rfl (Exists.elim h11.2 fun f17 w20 => Exists.elim w20 fun g18 h19 => (go_callV rfl rfl rfl h19.1 (go_goto (go_iinc rfl h19.2.1 rfl (go_goto (h19.2.2 _ _)))))))))))))))))))) (fun e9 => have h8 := h4.2.2 e9; (go_iinc rfl h8.1 rfl (go_pushI rfl (go_stoI rfl rfl (go_fall (h8.2 _))))))))))))) (fun e6 => have h5 := h2.2.2 e6; (go_loadA rfl (go_loadI rfl (go_pushI rfl (go_isub h5.1 (Exists.elim h5.2 fun f21 w24 => Exists.elim w24 fun g22 h23 => (go_callV rfl rfl rfl h23.1 (go_goto (go_iinc rfl h23.2.1 rfl (go_goto (h23.2.2 _ _)))))))))))))))))))))))))))))))
theorem bk_X12_works_62 {σ : St} {f : FI} {g : FL} {a : Nat} {x1 : Int} {x2 : Int} {x3 : Int} {x5 : Int} {r : St × List Vl} (hs : Sh12 σ a) (h : ((4096 ≤ x5 → ((-2147483648 ≤ (x3 + 1) ∧ (x3 + 1) ≤ 2147483647)) ∧ (A_X12_works_4 σ f g a x1 x2 (x3 + 1) r)) ∧ (¬ 4096 ≤ x5 → ((-2147483648 ≤ (x2 - 1) ∧ (x2 - 1) ≤ 2147483647) ∧ (-2147483648 ≤ (4096 * (x2 - 1)) ∧ (4096 * (x2 - 1)) ≤ 2147483647) ∧ (-2147483648 ≤ ((4096 * (x2 - 1)) + x5) ∧ ((4096 * (x2 - 1)) + x5) ≤ 2147483647) ∧ (0 ≤ ((4096 * (x2 - 1)) + x5) ∧ ((4096 * (x2 - 1)) + x5) < 114688) ∧ (-2147483648 ≤ (4096 * x2) ∧ (4096 * x2) ≤ 2147483647) ∧ (-2147483648 ≤ ((4096 * x2) + x5) ∧ ((4096 * x2) + x5) ≤ 2147483647) ∧ (0 ≤ ((4096 * x2) + x5) ∧ ((4096 * x2) + x5) < 114688) ∧ (-2147483648 ≤ (x5 + 1) ∧ (x5 + 1) ≤ 2147483647)) ∧ (A_X12_works_62 σ f (up2 g (a + 9) ((((4096 * (x2 - 1)) + x5)).toNat) ((g (a + 9) ((((4096 * (x2 - 1)) + x5)).toNat)) ||| (g (a + 9) ((((4096 * x2) + x5)).toNat)))) a x1 x2 x3 (x5 + 1) r)))) : A_X12_works_62 σ f g a x1 x2 x3 x5 r := fun y4 => (show Gx mt 2 cd_X12_works (il σ f g) b_X12_works_62 [some (vR 12 (some a)), some (vI x1), some (vI x2), some (vI x3), some (vI y4), some (vI x5)] [] r from (go_loadI rfl (go_pushI rfl (gq_icmp_ge (fun e3 => have h1 := h.1 e3; (go_goto (go_iinc rfl h1.1 rfl (go_goto (h1.2 _ _))))) (fun e3 => have h2 := h.2 e3; (go_loadA rfl (gi_getR (Sh12.r19 hs) (go_pushI rfl (go_loadI rfl (go_pushI rfl (go_isub h2.1.1 (go_imul h2.1.2.1 (go_loadI rfl (go_iadd h2.1.2.2.1 (go_dup2 (gi_lald (inl_ (Sh12.l19 hs) h2.1.2.2.2.1) (go_loadA rfl (gi_getR (Sh12.r19 hs) (go_pushI rfl (go_loadI rfl (go_imul h2.1.2.2.2.2.1 (go_loadI rfl (go_iadd h2.1.2.2.2.2.2.1 (gi_lald (inl_ (Sh12.l19 hs) h2.1.2.2.2.2.2.2.1) (go_lor (gi_last (inl_ (Sh12.l19 hs) h2.1.2.2.2.1) (go_iinc rfl h2.1.2.2.2.2.2.2.2 rfl (go_goto (h2.2 _)))))))))))))))))))))))))))))
theorem bk_X12_works_173 {σ : St} {f : FI} {g : FL} {a : Nat} {x1 : Int} {x3 : Int} {r : St × List Vl} (hs : Sh12 σ a) (h : ((4096 ≤ x3 → (r = ((il σ f g), []))) ∧ (¬ 4096 ≤ x3 → ((-2147483648 ≤ (4096 * x1) ∧ (4096 * x1) ≤ 2147483647) ∧ (-2147483648 ≤ ((4096 * x1) + x3) ∧ ((4096 * x1) + x3) ≤ 2147483647) ∧ (0 ≤ x3 ∧ x3 < 114688) ∧ (0 ≤ ((4096 * x1) + x3) ∧ ((4096 * x1) + x3) < 49152) ∧ (-2147483648 ≤ (x3 + 1) ∧ (x3 + 1) ≤ 2147483647)) ∧ (A_X12_works_173 σ f (up2 g (a + 10) ((((4096 * x1) + x3)).toNat) (g (a + 9) ((x3).toNat))) a x1 (x3 + 1) r)))) : A_X12_works_173 σ f g a x1 x3 r := fun y2 y4 y5 => (show Gx mt 2 cd_X12_works (il σ f g) b_X12_works_173 [some (vR 12 (some a)), some (vI x1), some (vI y2), some (vI x3), y4, y5] [] r from (go_loadI rfl (go_pushI rfl (gq_icmp_ge (fun e3 => have h1 := h.1 e3; (h1 ▸ gq_retV)) (fun e3 => have h2 := h.2 e3; (go_loadA rfl (gi_getR (Sh12.r20 hs) (go_pushI rfl (go_loadI rfl (go_imul h2.1.1 (go_loadI rfl (go_iadd h2.1.2.1 (go_loadA rfl (gi_getR (Sh12.r19 hs) (go_loadI rfl (gi_lald (inl_ (Sh12.l19 hs) h2.1.2.2.1) (gi_last (inl_ (Sh12.l20 hs) h2.1.2.2.2.1) (go_iinc rfl h2.1.2.2.2.2 rfl (go_goto (h2.2 _ _ _))))))))))))))))))))
/-- the words of one that waits -/
def mw (g : FL) (M n : Nat) : Nat → BitVec 64 := fun i => g (M + 9) (4096 * n + i)
/-- only that one was changed -/
def Fm (M n : Nat) (g g' : FL) : Prop := (∀ b, b ≠ M + 9 → b ≠ M + 11 → g' b = g b) ∧ ∀ k, (k < 4096 * n ∨ 4096 * n + 4096 ≤ k) → g' (M + 9) k = g (M + 9) k
theorem Fm.rfl' {M n : Nat} {g : FL} : Fm M n g g := ⟨fun _ _ _ => rfl, fun _ _ => rfl⟩
theorem Fm.up {M n k : Nat} {g g' : FL} {v : BitVec 64} (h : Fm M n g g') (hk : 4096 * n ≤ k ∧ k < 4096 * n + 4096) : Fm M n g (up2 g' (M + 9) k v) := ⟨fun b h1 h2 => by
  rw [← h.1 b h1 h2]
  exact funext fun j => u2_a h1, fun j hj => by rw [u2_i (by omega)]; exact h.2 j hj⟩
theorem Fm.tr {M n : Nat} {g g1 g2 : FL} (h : Fm M n g g1) (h2 : Fm M n g1 g2) : Fm M n g g2 := ⟨fun b z1 z2 => (h2.1 b z1 z2).trans (h.1 b z1 z2), fun k hk => (h2.2 k hk).trans (h.2 k hk)⟩
theorem Fm.oth {M n m : Nat} {g g' : FL} (h : Fm M n g g') (hm : m ≠ n) : ∀ i, i < 4096 → mw g' M m i = mw g M m i := fun i hi => h.2 _ (by omega)
theorem m_leaf {σ : St} {f : FI} {g : FL} {M n : Nat} {k fl v : Int} (hm : Sh12 σ M) (hn : n < 28) (hk : 0 ≤ k ∧ k ≤ 4) (hf : 0 ≤ fl ∧ fl < 4) (hv : 0 ≤ v ∧ v < 8) (hx : fl = 3 ∨ v < 4) : ∃ g' : FL, Ex mt 1 224 (il σ f g) [vR 12 (some M), vI (n : Int), vI k, vI fl, vI v] (il σ f g', []) ∧ Fm M n g g' ∧ Is (mw g' M n) (At k fl v) := by
  have w118 : ∀ (p m : Nat) (gi : FL) (r : St × List Vl), p < 512 → m < 512 → A_X12_leaf_3 σ f (up2 gi (M + 9) (4096 * n + (8 * p + m / 64)) (1#64 <<< (m % 64))) M (n : Int) k fl v ((p + 1 : Nat) : Int) r → A_X12_leaf_118 σ f gi M (n : Int) k fl v (p : Int) ((4096 * n + 8 * p : Nat) : Int) 1 (m : Int) r := fun p m gi r hp hq A => by
    refine bk_X12_leaf_118 hm ⟨fun y => absurd y (by decide), fun _ => ?_⟩
    rw [show (((4096 * n + 8 * p : Nat) : Int) + (m : Int) / 64).toNat = 4096 * n + (8 * p + m / 64) by omega, show ((m : Int) % 64).toNat = m % 64 by omega]
    exact ⟨⟨by omega, by omega, by omega, by omega⟩, by omega, A⟩
  have step : ∀ p : Nat, p < 512 → (∃ m, m < 512 ∧ (∀ q, q < 512 → (At k fl v p q ↔ q = m)) ∧ ∀ (gi : FL) (r : St × List Vl), A_X12_leaf_3 σ f (up2 gi (M + 9) (4096 * n + (8 * p + m / 64)) (1#64 <<< (m % 64))) M (n : Int) k fl v ((p + 1 : Nat) : Int) r → A_X12_leaf_27 σ f gi M (n : Int) k fl v (p : Int) ((4096 * n + 8 * p : Nat) : Int) 8 r) ∨ ((∀ q, q < 512 → ¬ At k fl v p q) ∧ ∀ (gi : FL) (r : St × List Vl), A_X12_leaf_3 σ f gi M (n : Int) k fl v ((p + 1 : Nat) : Int) r → A_X12_leaf_27 σ f gi M (n : Int) k fl v (p : Int) ((4096 * n + 8 * p : Nat) : Int) 8 r) := by
    intro p hp
    have ef : fO (p : Int) fl = vO (p : Int) fl := vO_fO (by omega)
    by_cases k4 : k = 4
    · have cr := chg_512 (p := (p : Int)) (by omega) hf hv hx
      obtain ⟨m, em⟩ := Int.eq_ofNat_of_zero_le cr.1
      refine Or.inl ⟨m, by omega, fun q hq => ⟨fun z => by unfold At at z; omega, fun z => Or.inr (Or.inr (Or.inr ⟨k4, by omega⟩))⟩, fun gi r A => bk_X12_leaf_27 hm ⟨fun _ => ⟨fun y => absurd y (by omega), fun _ => ⟨fun _ => bk_X12_leaf_98 hm ⟨fun y => absurd k4 y, fun _ => ⟨⟨by omega, by omega, by omega, by omega⟩, ?_⟩⟩, fun y => absurd k4 y⟩⟩, fun y => absurd (by decide) y⟩⟩
      rw [em]
      exact w118 p m gi r hp (by omega) A
    · have t98 : ∀ (gi : FL) (r : St × List Vl), A_X12_leaf_3 σ f (up2 gi (M + 9) (4096 * n + (8 * p + p / 64)) (1#64 <<< (p % 64))) M (n : Int) k fl v ((p + 1 : Nat) : Int) r → A_X12_leaf_98 σ f gi M (n : Int) k fl v (p : Int) ((4096 * n + 8 * p : Nat) : Int) 1 r := fun gi r A => bk_X12_leaf_98 hm ⟨fun _ => w118 p p gi r hp hp A, fun y => absurd y k4⟩
      have f98 : ∀ (gi : FL) (r : St × List Vl), A_X12_leaf_3 σ f gi M (n : Int) k fl v ((p + 1 : Nat) : Int) r → A_X12_leaf_98 σ f gi M (n : Int) k fl v (p : Int) ((4096 * n + 8 * p : Nat) : Int) 0 r := fun gi r A => bk_X12_leaf_98 hm ⟨fun _ => bk_X12_leaf_118 hm ⟨fun _ => ⟨by omega, A⟩, fun y => absurd rfl y⟩, fun y => absurd y k4⟩
      by_cases k1 : k = 1
      · exact Or.inl ⟨p, by omega, fun q hq => ⟨fun z => by unfold At at z; omega, fun z => Or.inl ⟨k1, z⟩⟩, fun gi r A => bk_X12_leaf_27 hm ⟨fun _ => ⟨fun _ => t98 gi r A, fun y => absurd k1 y⟩, fun y => absurd (by decide) y⟩⟩
      · by_cases k2 : k = 2
        · by_cases e : vO (p : Int) fl = v
          · exact Or.inl ⟨p, by omega, fun q hq => ⟨fun z => by unfold At at z; omega, fun z => Or.inr (Or.inl ⟨k2, e, z⟩)⟩, fun gi r A => bk_X12_leaf_27 hm ⟨fun _ => ⟨fun y => absurd y k1, fun _ => ⟨fun y => absurd y k4, fun _ => ⟨fun y => absurd k2 y, fun _ => ⟨by omega, fun _ => t98 gi r A, fun y => absurd (ef.trans e) y⟩⟩⟩⟩, fun y => absurd (by decide) y⟩⟩
          · exact Or.inr ⟨fun q hq z => by unfold At at z; omega, fun gi r A => bk_X12_leaf_27 hm ⟨fun _ => ⟨fun y => absurd y k1, fun _ => ⟨fun y => absurd y k4, fun _ => ⟨fun y => absurd k2 y, fun _ => ⟨by omega, fun y => absurd (ef.symm.trans y) e, fun _ => ⟨fun _ => f98 gi r A, fun y => absurd y (by omega)⟩⟩⟩⟩⟩, fun y => absurd (by decide) y⟩⟩
        · by_cases k3 : k = 3
          · by_cases e : vO (p : Int) fl = v
            · exact Or.inr ⟨fun q hq z => by unfold At at z; omega, fun gi r A => bk_X12_leaf_27 hm ⟨fun _ => ⟨fun y => absurd y k1, fun _ => ⟨fun y => absurd y k4, fun _ => ⟨fun _ => ⟨fun y => absurd k3 y, fun _ => ⟨by omega, fun _ => f98 gi r A, fun y => absurd (ef.trans e) y⟩⟩, fun y => absurd y k2⟩⟩⟩, fun y => absurd (by decide) y⟩⟩
            · exact Or.inl ⟨p, by omega, fun q hq => ⟨fun z => by unfold At at z; omega, fun z => Or.inr (Or.inr (Or.inl ⟨k3, e, z⟩))⟩, fun gi r A => bk_X12_leaf_27 hm ⟨fun _ => ⟨fun y => absurd y k1, fun _ => ⟨fun y => absurd y k4, fun _ => ⟨fun _ => ⟨fun y => absurd k3 y, fun _ => ⟨by omega, fun y => absurd (ef.symm.trans y) e, fun _ => t98 gi r A⟩⟩, fun y => absurd y k2⟩⟩⟩, fun y => absurd (by decide) y⟩⟩
          · exact Or.inr ⟨fun q hq z => by unfold At at z; omega, fun gi r A => bk_X12_leaf_27 hm ⟨fun _ => ⟨fun y => absurd y k1, fun _ => ⟨fun y => absurd y k4, fun _ => ⟨fun _ => ⟨fun _ => f98 gi r A, fun y => absurd y k3⟩, fun y => absurd y k2⟩⟩⟩, fun y => absurd (by decide) y⟩⟩
  have zer : ∀ (p : Nat), p < 512 → ∀ (gj : FL), Fm M n g gj → ∀ u i : Nat, i + u = 8 → ∀ gi : FL, Fm M n g gi → (∀ j, gi (M + 9) j = if 4096 * n + 8 * p ≤ j ∧ j < 4096 * n + 8 * p + i then 0#64 else gj (M + 9) j) → ∃ g1 : FL, Fm M n g g1 ∧ (∀ j, g1 (M + 9) j = if 4096 * n + 8 * p ≤ j ∧ j < 4096 * n + 8 * p + 8 then 0#64 else gj (M + 9) j) ∧ ∀ r, A_X12_leaf_27 σ f g1 M (n : Int) k fl v (p : Int) ((4096 * n + 8 * p : Nat) : Int) 8 r → A_X12_leaf_27 σ f gi M (n : Int) k fl v (p : Int) ((4096 * n + 8 * p : Nat) : Int) (i : Int) r := by
    intro p hp gj hFj u
    induction u with
    | zero =>
      intro i hi gi hF hI
      obtain rfl : i = 8 := hi
      exact ⟨gi, hF, hI, fun r A => A⟩
    | succ u ih =>
      intro i hi gi hF hI
      obtain ⟨g1, H1, H2, H3⟩ := ih (i + 1) (by omega) (up2 gi (M + 9) (4096 * n + 8 * p + i) 0#64) (hF.up (by omega)) (fun j => by
        rw [up2_if, hI]
        by_cases e : j = 4096 * n + 8 * p + i
        · rw [if_pos e, if_pos (by omega)]
        · rw [if_neg e]
          by_cases e2 : 4096 * n + 8 * p ≤ j ∧ j < 4096 * n + 8 * p + i
          · rw [if_pos e2, if_pos (by omega)]
          · rw [if_neg e2, if_neg (by omega)])
      refine ⟨g1, H1, H2, fun r A => bk_X12_leaf_27 hm ⟨fun y => absurd y (by omega), fun _ => ?_⟩⟩
      rw [show (((4096 * n + 8 * p : Nat) : Int) + (i : Int)).toNat = 4096 * n + 8 * p + i by omega, show (i : Int) + 1 = ((i + 1 : Nat) : Int) by omega]
      exact ⟨⟨by omega, by omega, by omega⟩, H3 r A⟩
  have loop : ∀ u p : Nat, p + u = 512 → ∀ gi : FL, Fm M n g gi → (∀ p' q, p' < p → q < 512 → (bt (mw gi M n) p' q ↔ At k fl v p' q)) → ∃ g' : FL, A_X12_leaf_3 σ f gi M (n : Int) k fl v (p : Int) (il σ f g', []) ∧ Fm M n g g' ∧ Is (mw g' M n) (At k fl v) := by
    intro u
    induction u with
    | zero =>
      intro p hp gi hF hI
      obtain rfl : p = 512 := hp
      exact ⟨gi, bk_X12_leaf_3 hm ⟨fun _ => rfl, fun y => absurd (by decide) y⟩, hF, hI⟩
    | succ u ih =>
      intro p hp gi hF hI
      obtain ⟨g1, H1, H2, H3⟩ := zer p (by omega) gi hF 8 0 rfl gi hF (fun j => by rw [if_neg (by omega)])
      have go : ∀ r, A_X12_leaf_27 σ f g1 M (n : Int) k fl v (p : Int) ((4096 * n + 8 * p : Nat) : Int) 8 r → A_X12_leaf_3 σ f gi M (n : Int) k fl v (p : Int) r := fun r A => by
        refine bk_X12_leaf_3 hm ⟨fun y => absurd y (by omega), fun _ => ⟨⟨by omega, by omega, by omega⟩, ?_⟩⟩
        rw [show 4096 * (n : Int) + 8 * (p : Int) = ((4096 * n + 8 * p : Nat) : Int) by omega]
        exact H3 r A
      rcases step p (by omega) with ⟨m, m1, m2, m3⟩ | ⟨m2, m3⟩
      · obtain ⟨g', A, G1, G2⟩ := ih (p + 1) (by omega) (up2 g1 (M + 9) (4096 * n + (8 * p + m / 64)) (1#64 <<< (m % 64))) (H1.up (by omega)) (fun p' q hp' hq => by
          by_cases e : p' = p
          · subst e
            rw [m2 q hq]
            unfold bt mw
            rw [up2_if]
            by_cases e2 : q / 64 = m / 64
            · rw [if_pos (by omega), sh1_bit (by omega), decide_eq_true_iff]
              omega
            · rw [if_neg (by omega), H2, if_pos (by omega)]
              constructor
              · intro z
                simp at z
              · intro z
                exact absurd (by rw [z]) e2
          · rw [← hI p' q (by omega) hq]
            unfold bt mw
            rw [up2_if, if_neg (by omega), H2, if_neg (by omega)])
        exact ⟨g', go _ (m3 g1 _ A), G1, G2⟩
      · obtain ⟨g', A, G1, G2⟩ := ih (p + 1) (by omega) g1 H1 (fun p' q hp' hq => by
          by_cases e : p' = p
          · subst e
            unfold bt mw
            rw [H2, if_pos (by omega)]
            constructor
            · intro z
              simp at z
            · intro z
              exact absurd z (m2 q hq)
          · rw [← hI p' q (by omega) hq]
            unfold bt mw
            rw [H2, if_neg (by omega)])
        exact ⟨g', go _ (m3 g1 _ A), G1, G2⟩
  obtain ⟨g', A, G1, G2⟩ := loop 512 0 rfl g Fm.rfl' (fun p' q h => absurd h (Nat.not_lt_zero _))
  exact ⟨g', bk_X12_leaf_0 hm A, G1, G2⟩
theorem m_unite {σ : St} {f : FI} {g : FL} {M n : Nat} {w x3 : Int} (hm : Sh12 σ M) (hn : n + 1 < 28) (hx : 0 ≤ x3 ∧ x3 < 1000) : ∃ g' : FL, Fm M n g g' ∧ (∀ p q, p < 512 → q < 512 → (bt (mw g' M n) p q ↔ bt (mw g M n) p q ∨ bt (mw g M (n + 1)) p q)) ∧ ∀ r, A_X12_works_4 σ f g' M w ((n + 1 : Nat) : Int) (x3 + 1) r → A_X12_works_62 σ f g M w ((n + 1 : Nat) : Int) x3 0 r := by
  have loop : ∀ u i : Nat, i + u = 4096 → ∀ gi : FL, Fm M n g gi → (∀ j, gi (M + 9) j = if 4096 * n ≤ j ∧ j < 4096 * n + i then g (M + 9) j ||| g (M + 9) (4096 * (n + 1) + (j - 4096 * n)) else g (M + 9) j) → ∃ g' : FL, Fm M n g g' ∧ (∀ j, g' (M + 9) j = if 4096 * n ≤ j ∧ j < 4096 * n + 4096 then g (M + 9) j ||| g (M + 9) (4096 * (n + 1) + (j - 4096 * n)) else g (M + 9) j) ∧ ∀ r, A_X12_works_4 σ f g' M w ((n + 1 : Nat) : Int) (x3 + 1) r → A_X12_works_62 σ f gi M w ((n + 1 : Nat) : Int) x3 (i : Int) r := by
    intro u
    induction u with
    | zero =>
      intro i hi gi hF hI
      obtain rfl : i = 4096 := hi
      exact ⟨gi, hF, hI, fun r A => bk_X12_works_62 hm ⟨fun _ => ⟨by omega, A⟩, fun y => absurd (by decide) y⟩⟩
    | succ u ih =>
      intro i hi gi hF hI
      obtain ⟨g1, H1, H2, H3⟩ := ih (i + 1) (by omega) (up2 gi (M + 9) (4096 * n + i) (gi (M + 9) (4096 * n + i) ||| gi (M + 9) (4096 * (n + 1) + i))) (hF.up (by omega)) (fun j => by
        rw [up2_if]
        exact orw (s := 4096 * n) (r := 4096 * (n + 1)) (i := i) (W := g (M + 9)) (V := g (M + 9)) (Wi := gi (M + 9)) hI (by rw [hF.2 (4096 * (n + 1) + i) (by omega)]) j)
      refine ⟨g1, H1, H2, fun r A => bk_X12_works_62 hm ⟨fun y => absurd y (by omega), fun _ => ?_⟩⟩
      rw [show (4096 * (((n + 1 : Nat) : Int) - 1) + (i : Int)).toNat = 4096 * n + i by omega, show (4096 * ((n + 1 : Nat) : Int) + (i : Int)).toNat = 4096 * (n + 1) + i by omega, show (i : Int) + 1 = ((i + 1 : Nat) : Int) by omega]
      exact ⟨⟨by omega, by omega, by omega, by omega, by omega, by omega, by omega, by omega⟩, H3 r A⟩
  obtain ⟨g', G1, G2, G3⟩ := loop 4096 0 rfl g Fm.rfl' (fun j => by rw [if_neg (by omega)])
  refine ⟨g', G1, fun p q hp hq => ?_, G3⟩
  unfold bt mw
  rw [G2, if_pos (by omega), BitVec.getLsbD_or, Bool.or_eq_true, show 4096 * (n + 1) + (4096 * n + (8 * p + q / 64) - 4096 * n) = 4096 * (n + 1) + (8 * p + q / 64) by omega]
theorem m_closes {σ : St} {f : FI} {g : FL} {M n : Nat} (hm : Sh12 σ M) (hn : n < 28) : ∃ g' : FL, Ex mt 0 226 (il σ f g) [vR 12 (some M), vI (n : Int)] (il σ f g', []) ∧ Fm M n g g' ∧ ∀ p q, p < 512 → q < 512 → (bt (mw g' M n) p q ↔ Clr (bt (mw g M n)) p q) := by
  have first : ∀ u p : Nat, p + u = 512 → ∀ gi : FL, Fm M n g gi → (∀ p' q, p' < 512 → q < 512 → (bt (mw gi M n) p' q ↔ bt (mw g M n) p' q ∨ (p' < p ∧ p' = q))) → ∃ g' : FL, Fm M n g g' ∧ (∀ p q, p < 512 → q < 512 → (bt (mw g' M n) p q ↔ bt (mw g M n) p q ∨ p = q)) ∧ ∀ r, A_X12_closes_46 σ f g' M (n : Int) 0 r → A_X12_closes_2 σ f gi M (n : Int) (p : Int) r := by
    intro u
    induction u with
    | zero =>
      intro p hp gi hF hI
      obtain rfl : p = 512 := hp
      exact ⟨gi, hF, fun p q hp hq => (hI p q hp hq).trans (or_congr Iff.rfl ⟨fun z => z.2, fun z => ⟨hp, z⟩⟩), fun r A => bk_X12_closes_2 hm ⟨fun _ => A, fun y => absurd (by decide) y⟩⟩
    | succ u ih =>
      intro p hp gi hF hI
      obtain ⟨g1, H1, H2, H3⟩ := ih (p + 1) (by omega) (up2 gi (M + 9) (4096 * n + (8 * p + p / 64)) (gi (M + 9) (4096 * n + (8 * p + p / 64)) ||| (1#64 <<< (p % 64)))) (hF.up (by omega)) (fun p' q hp' hq => by
        rw [mark_bt (W := mw gi M n) (p0 := p) (m := p) (by omega) (fun j => by
          unfold mw
          rw [up2_if]
          by_cases e : j = 8 * p + p / 64
          · rw [if_pos (by omega), if_pos e, e]
          · rw [if_neg (by omega), if_neg e]) hq, hI p' q hp' hq]
        constructor
        · rintro ((z | z) | z)
          · exact Or.inl z
          · exact Or.inr ⟨by omega, z.2⟩
          · exact Or.inr ⟨by omega, by omega⟩
        · rintro (z | z)
          · exact Or.inl (Or.inl z)
          · by_cases e : p' = p
            · exact Or.inr ⟨e, by omega⟩
            · exact Or.inl (Or.inr ⟨by omega, z.2⟩))
      refine ⟨g1, H1, H2, fun r A => bk_X12_closes_2 hm ⟨fun y => absurd y (by omega), fun _ => ?_⟩⟩
      rw [show (4096 * (n : Int) + 8 * (p : Int) + (p : Int) / 64).toNat = 4096 * n + (8 * p + p / 64) by omega, show ((p : Int) % 64).toNat = p % 64 by omega, show (p : Int) + 1 = ((p + 1 : Nat) : Int) by omega]
      exact ⟨⟨by omega, by omega, by omega, by omega, by omega, by omega, by omega, by omega⟩, H3 r A⟩
  have inner : ∀ (b p : Nat), b < 512 → p < 512 → ∀ (gj : FL), Fm M n g gj → ∀ u i : Nat, i + u = 8 → ∀ gi : FL, Fm M n g gi → (∀ j, mw gi M n j = if 8 * p ≤ j ∧ j < 8 * p + i then mw gj M n j ||| mw gj M n (8 * b + (j - 8 * p)) else mw gj M n j) → ∃ g1 : FL, Fm M n g g1 ∧ (∀ p' q, q < 512 → (bt (mw g1 M n) p' q ↔ bt (mw gj M n) p' q ∨ (p' = p ∧ bt (mw gj M n) b q))) ∧ ∀ r, A_X12_closes_67 σ f g1 M (n : Int) (b : Int) ((4096 * n + 8 * b : Nat) : Int) ((p + 1 : Nat) : Int) r → A_X12_closes_115 σ f gi M (n : Int) (b : Int) ((4096 * n + 8 * b : Nat) : Int) (p : Int) ((4096 * n + 8 * p : Nat) : Int) (i : Int) r := by
    intro b p hb hp gj hFj u
    induction u with
    | zero =>
      intro i hi gi hF hI
      obtain rfl : i = 8 := hi
      exact ⟨gi, hF, fun p' q hq => row_bt hI hq, fun r A => bk_X12_closes_115 hm ⟨fun _ => ⟨by omega, A⟩, fun y => absurd (by decide) y⟩⟩
    | succ u ih =>
      intro i hi gi hF hI
      obtain ⟨g1, H1, H2, H3⟩ := ih (i + 1) (by omega) (up2 gi (M + 9) (4096 * n + (8 * p + i)) (gi (M + 9) (4096 * n + (8 * p + i)) ||| gi (M + 9) (4096 * n + (8 * b + i)))) (hF.up (by omega)) (fun j => by
        have := orw (s := 8 * p) (r := 8 * b) (i := i) (W := mw gj M n) (V := mw gj M n) (Wi := mw gi M n) hI (x := mw gi M n (8 * p + i) ||| mw gi M n (8 * b + i)) (by rw [hI (8 * b + i), if_neg (by omega)]) j
        rw [← this]
        unfold mw
        rw [up2_if]
        by_cases e : j = 8 * p + i
        · rw [if_pos (by omega), if_pos e]
        · rw [if_neg (by omega), if_neg e])
      refine ⟨g1, H1, H2, fun r A => bk_X12_closes_115 hm ⟨fun y => absurd y (by omega), fun _ => ?_⟩⟩
      rw [show (((4096 * n + 8 * p : Nat) : Int) + (i : Int)).toNat = 4096 * n + (8 * p + i) by omega, show (((4096 * n + 8 * b : Nat) : Int) + (i : Int)).toNat = 4096 * n + (8 * b + i) by omega, show (i : Int) + 1 = ((i + 1 : Nat) : Int) by omega]
      exact ⟨⟨by omega, by omega, by omega, by omega, by omega⟩, H3 r A⟩
  have rows : ∀ (b : Nat), b < 512 → ∀ (gj : FL), Fm M n g gj → ∀ u p : Nat, p + u = 512 → ∀ gi : FL, Fm M n g gi → (∀ p' q, p' < 512 → q < 512 → (bt (mw gi M n) p' q ↔ bt (mw gj M n) p' q ∨ (p' < p ∧ bt (mw gj M n) p' b ∧ bt (mw gj M n) b q))) → ∃ g' : FL, Fm M n g g' ∧ (∀ p q, p < 512 → q < 512 → (bt (mw g' M n) p q ↔ bt (mw gj M n) p q ∨ (bt (mw gj M n) p b ∧ bt (mw gj M n) b q))) ∧ ∀ r, A_X12_closes_46 σ f g' M (n : Int) ((b + 1 : Nat) : Int) r → A_X12_closes_67 σ f gi M (n : Int) (b : Int) ((4096 * n + 8 * b : Nat) : Int) (p : Int) r := by
    intro b hb gj hFj u
    induction u with
    | zero =>
      intro p hp gi hF hI
      obtain rfl : p = 512 := hp
      refine ⟨gi, hF, fun p q hp hq => ?_, fun r A => bk_X12_closes_67 hm ⟨fun _ => ⟨by omega, A⟩, fun y => absurd (by decide) y⟩⟩
      rw [hI p q hp hq]
      exact or_congr Iff.rfl ⟨fun z => z.2, fun z => ⟨hp, z⟩⟩
    | succ u ih =>
      intro p hp gi hF hI
      have e1 : (4096 * (n : Int) + 8 * (p : Int) + (b : Int) / 64).toNat = 4096 * n + (8 * p + b / 64) := by omega
      have e2 : ((b : Int) % 64).toNat = b % 64 := by omega
      have e3 : (p : Int) + 1 = ((p + 1 : Nat) : Int) := by omega
      have e4 : 4096 * (n : Int) + 8 * (p : Int) = ((4096 * n + 8 * p : Nat) : Int) := by omega
      have tst : (BitVec.sshiftRight (gi (M + 9) (4096 * n + (8 * p + b / 64))) (b % 64) &&& 1#64 = 1#64) ↔ bt (mw gj M n) p b := by
        rw [lB_ssh (by omega)]
        show bt (mw gi M n) p b ↔ _
        rw [hI p b (by omega) hb]
        exact ⟨fun z => z.elim id fun z => absurd z.1 (Nat.lt_irrefl _), Or.inl⟩
      by_cases y : bt (mw gj M n) p b
      · obtain ⟨g1, H1, H2, H3⟩ := inner b p hb (by omega) gi hF 8 0 rfl gi hF (fun j => by rw [if_neg (by omega)])
        obtain ⟨g', G1, G2, G3⟩ := ih (p + 1) (by omega) g1 H1 (fun p' q hp' hq => by
          rw [H2 p' q hq, hI p' q hp' hq, hI b q hb hq]
          constructor
          · rintro ((z | z) | ⟨z1, z2 | z2⟩)
            · exact Or.inl z
            · exact Or.inr ⟨by omega, z.2⟩
            · exact Or.inr ⟨by omega, by rw [z1]; exact y, z2⟩
            · exact Or.inr ⟨by omega, by rw [z1]; exact y, z2.2.2⟩
          · rintro (z | ⟨z1, z2, z3⟩)
            · exact Or.inl (Or.inl z)
            · by_cases e : p' = p
              · exact Or.inr ⟨e, Or.inl z3⟩
              · exact Or.inl (Or.inr ⟨by omega, z2, z3⟩))
        refine ⟨g', G1, G2, fun r A => bk_X12_closes_67 hm ⟨fun y => absurd y (by omega), fun _ => ?_⟩⟩
        rw [e1, e2, e3, e4]
        exact ⟨⟨by omega, by omega, by omega, by omega, by omega, by omega, by omega⟩, fun w => absurd (tst.mpr y) w, fun _ => H3 _ (G3 r A)⟩
      · obtain ⟨g', G1, G2, G3⟩ := ih (p + 1) (by omega) gi hF (fun p' q hp' hq => by
          rw [hI p' q hp' hq]
          constructor
          · rintro (z | z)
            · exact Or.inl z
            · exact Or.inr ⟨by omega, z.2⟩
          · rintro (z | ⟨z1, z2, z3⟩)
            · exact Or.inl z
            · by_cases e : p' = p
              · rw [e] at z2
                exact absurd z2 y
              · exact Or.inr ⟨by omega, z2, z3⟩)
        refine ⟨g', G1, G2, fun r A => bk_X12_closes_67 hm ⟨fun y => absurd y (by omega), fun _ => ?_⟩⟩
        rw [e1, e2, e3, e4]
        exact ⟨⟨by omega, by omega, by omega, by omega, by omega, by omega, by omega⟩, fun _ => ⟨by omega, G3 r A⟩, fun w => absurd (tst.mp w) y⟩
  obtain ⟨g0, F0, B0, K0⟩ := first 512 0 rfl g Fm.rfl' (fun p q _ _ => ⟨Or.inl, fun z => z.elim id fun z => absurd z.1 (Nat.not_lt_zero _)⟩)
  have loop : ∀ u b : Nat, b + u = 512 → ∀ gi : FL, Fm M n g gi → Wsh (bt (mw g0 M n)) (bt (mw gi M n)) b → ∃ g' : FL, A_X12_closes_46 σ f gi M (n : Int) (b : Int) (il σ f g', []) ∧ Fm M n g g' ∧ Wsh (bt (mw g0 M n)) (bt (mw g' M n)) 512 := by
    intro u
    induction u with
    | zero =>
      intro b hb gi hF hI
      obtain rfl : b = 512 := hb
      exact ⟨gi, bk_X12_closes_46 hm ⟨fun _ => rfl, fun y => absurd (by decide) y⟩, hF, hI⟩
    | succ u ih =>
      intro b hb gi hF hI
      obtain ⟨g1, H1, H2, H3⟩ := rows b (by omega) gi hF 512 0 rfl gi hF (fun p q _ _ => ⟨Or.inl, fun z => z.elim id fun z => absurd z.1 (Nat.not_lt_zero _)⟩)
      obtain ⟨g', A, G1, G2⟩ := ih (b + 1) (by omega) g1 H1 (hI.step (by omega) H2)
      refine ⟨g', bk_X12_closes_46 hm ⟨fun y => absurd y (by omega), fun _ => ⟨⟨by omega, by omega, by omega⟩, ?_⟩⟩, G1, G2⟩
      rw [show 4096 * (n : Int) + 8 * (b : Int) = ((4096 * n + 8 * b : Nat) : Int) by omega]
      exact H3 _ A
  obtain ⟨g', A, G1, G2⟩ := loop 512 0 rfl g0 F0 (Wsh.beg (fun p q _ _ => Iff.rfl))
  refine ⟨g', bk_X12_closes_0 hm (K0 _ A), G1, fun p q hp hq => ?_⟩
  have d : ∀ x, x < 512 → bt (mw g' M n) x x := fun x hx => G2.1 x x hx hx ((B0 x x hx hx).mpr (Or.inr rfl))
  have e1 : bt (mw g' M n) p q ↔ Clr (bt (mw g0 M n)) p q := by
    rw [← G2.fin hp hq]
    exact ⟨Or.inl, fun z => z.elim id fun z => by rw [← z]; exact d p hp⟩
  rw [e1]
  constructor
  · intro h
    exact h (Clr (bt (mw g M n))) (fun _ => Clr.self) (fun _ _ _ => Clr.tr) (fun x y hx hy z => by
      rcases (B0 x y hx hy).mp z with z | z
      · exact Clr.one hx hy z
      · rw [z]
        exact Clr.self hy)
  · intro h
    exact h (Clr (bt (mw g0 M n))) (fun _ => Clr.self) (fun _ _ _ => Clr.tr) (fun x y hx hy z => Clr.one hx hy ((B0 x y hx hy).mpr (Or.inl z)))
