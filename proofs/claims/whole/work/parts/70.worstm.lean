/-! worst: the model, and the call pair -/
theorem bk_X12_placeBehind_0 {σ : St} {f : FI} {g : FL} {a : Nat} {x1 : Int} {r : St × List Vl} (hs : Sh12 σ a) (h : ((0 ≤ x1 ∧ x1 < 513) ∧ (-2147483648 ≤ (f (a + 23) ((x1).toNat)) ∧ (f (a + 23) ((x1).toNat)) ≤ 2147483647) ∧ (-2147483648 ≤ (12 * ((f (a + 23) ((x1).toNat)) / 16)) ∧ (12 * ((f (a + 23) ((x1).toNat)) / 16)) ≤ 2147483647) ∧ (-2147483648 ≤ ((12 * ((f (a + 23) ((x1).toNat)) / 16)) + ((f (a + 23) ((x1).toNat)) % 16)) ∧ ((12 * ((f (a + 23) ((x1).toNat)) / 16)) + ((f (a + 23) ((x1).toNat)) % 16)) ≤ 2147483647) ∧ (0 ≤ ((12 * ((f (a + 23) ((x1).toNat)) / 16)) + ((f (a + 23) ((x1).toNat)) % 16)) ∧ ((12 * ((f (a + 23) ((x1).toNat)) / 16)) + ((f (a + 23) ((x1).toNat)) % 16)) < 192)) ∧ (r = ((il σ f g), [vI (f (a + 20) ((((12 * ((f (a + 23) ((x1).toNat)) / 16)) + ((f (a + 23) ((x1).toNat)) % 16))).toNat))]))) : Ex mt 0 272 (il σ f g) [vR 12 (some a), vI x1] r := Ex.mk mt_272 (show Gx mt 0 cd_X12_placeBehind (il σ f g) b_X12_placeBehind_0 [some (vR 12 (some a)), some (vI x1)] [] r from (go_loadA rfl (gi_getR (Sh12.r30 hs) (go_pushI rfl (go_loadA rfl (gi_getR (Sh12.r35 hs) (go_loadI rfl (gi_iald (inl_ (Sh12.l35 hs) h.1.1) (go_pushI rfl (go_ishr (iShr_4 h.1.2.1) (go_imul h.1.2.2.1 (go_loadA rfl (gi_getR (Sh12.r35 hs) (go_loadI rfl (gi_iald (inl_ (Sh12.l35 hs) h.1.1) (go_pushI rfl (go_iand (iAnd_m15 _) (go_iadd h.1.2.2.2.1 (gi_iald (inl_ (Sh12.l30 hs) h.1.2.2.2.2) (h.2 ▸ gq_retI))))))))))))))))))))
def A_X12_worst_18 (σ : St) (f : FI) (g : FL) (a : Nat) (x1 : Int) (x2 : Int) (x3 : Int) (r : St × List Vl) : Prop := ∀ (y4 : Option Vl) (y5 : Option Vl) (y6 : Option Vl) (y7 : Option Vl) (y8 : Option Vl) (y9 : Option Vl), Gx mt 5 cd_X12_worst (il σ f g) (cd_X12_worst 18) [some (vR 12 (some a)), some (vI x1), some (vI x2), some (vI x3), y4, y5, y6, y7, y8, y9] [] r
def A_X12_worst_30 (σ : St) (f : FI) (g : FL) (a : Nat) (x1 : Int) (x2 : Int) (x3 : Int) (x4 : Int) (x5 : Int) (r : St × List Vl) : Prop := ∀ (y6 : Option Vl) (y7 : Option Vl) (y8 : Option Vl) (y9 : Option Vl), Gx mt 5 cd_X12_worst (il σ f g) (cd_X12_worst 30) [some (vR 12 (some a)), some (vI x1), some (vI x2), some (vI x3), some (vI x4), some (vI x5), y6, y7, y8, y9] [] r
def A_X12_worst_131 (σ : St) (f : FI) (g : FL) (a : Nat) (x1 : Int) (x2 : Int) (x3 : Int) (r : St × List Vl) : Prop := ∀ (y4 : Option Vl) (y5 : Option Vl) (y6 : Option Vl) (y7 : Option Vl) (y8 : Option Vl) (y9 : Option Vl), Gx mt 5 cd_X12_worst (il σ f g) (cd_X12_worst 131) [some (vR 12 (some a)), some (vI x1), some (vI x2), some (vI x3), y4, y5, y6, y7, y8, y9] [] r
def A_X12_worst_165 (σ : St) (f : FI) (g : FL) (a : Nat) (x1 : Int) (x2 : Int) (x3 : Int) (x4 : Int) (r : St × List Vl) : Prop := ∀ (y5 : Option Vl) (y6 : Option Vl) (y7 : Option Vl) (y8 : Option Vl) (y9 : Option Vl), Gx mt 5 cd_X12_worst (il σ f g) (cd_X12_worst 165) [some (vR 12 (some a)), some (vI x1), some (vI x2), some (vI x3), some (vI x4), y5, y6, y7, y8, y9] [] r
def A_X12_worst_223 (σ : St) (f : FI) (g : FL) (a : Nat) (x1 : Int) (x2 : Int) (x3 : Int) (x4 : Int) (r : St × List Vl) : Prop := ∀ (y5 : Option Vl) (y6 : Option Vl) (y7 : Option Vl) (y8 : Option Vl) (y9 : Option Vl), Gx mt 5 cd_X12_worst (il σ f g) (cd_X12_worst 223) [some (vR 12 (some a)), some (vI x1), some (vI x2), some (vI x3), some (vI x4), y5, y6, y7, y8, y9] [] r
def A_X12_worst_245 (σ : St) (f : FI) (g : FL) (a : Nat) (x1 : Int) (x2 : Int) (x3 : Int) (x4 : Int) (x5 : Int) (r : St × List Vl) : Prop := ∀ (y6 : Option Vl) (y7 : Option Vl) (y8 : Option Vl) (y9 : Option Vl), Gx mt 5 cd_X12_worst (il σ f g) (cd_X12_worst 245) [some (vR 12 (some a)), some (vI x1), some (vI x2), some (vI x3), some (vI x4), some (vI x5), y6, y7, y8, y9] [] r
def A_X12_worst_290 (σ : St) (f : FI) (g : FL) (a : Nat) (x1 : Int) (x2 : Int) (x3 : Int) (x4 : Int) (x5 : Int) (x6 : BitVec 64) (x8 : Int) (x9 : Int) (r : St × List Vl) : Prop := Gx mt 5 cd_X12_worst (il σ f g) (cd_X12_worst 290) [some (vR 12 (some a)), some (vI x1), some (vI x2), some (vI x3), some (vI x4), some (vI x5), some (vL x6), none, some (vI x8), some (vI x9)] [] r
theorem bk_X12_worst_0 {σ : St} {f : FI} {g : FL} {a : Nat} {x1 : Int} {r : St × List Vl} (hs : Sh12 σ a) (h : ((-2147483648 ≤ x1 ∧ x1 ≤ 2147483647)) ∧ ((((1 ≤ x1 ∧ x1 ≤ 2)) → (A_X12_worst_18 σ f g a x1 0 0 r)) ∧ (¬ ((1 ≤ x1 ∧ x1 ≤ 2)) → (r = ((il σ f g), [vI (-1)]))))) : Ex mt 5 271 (il σ f g) [vR 12 (some a), vI x1] r := Ex.mk mt_271 (show Gx mt 5 cd_X12_worst (il σ f g) b_X12_worst_0 [some (vR 12 (some a)), some (vI x1), none, none, none, none, none, none, none, none] [] r from (go_loadI rfl (go_i2l (go_pushL rfl (go_pushL rfl (go_callS rfl rfl rfl (pu_in h.1 ⟨by decide, by decide⟩ ⟨by decide, by decide⟩ (v := x1) (lo := 1) (hi := 2)) (go_ifb_ne (fun e3 => have h1 := h.2.1 e3; (go_pushI rfl (go_stoI rfl rfl (go_pushI rfl (go_stoI rfl rfl (go_fall (h1 _ _ _ _ _ _))))))) (fun e3 => have h2 := h.2.2 e3; (go_pushI rfl (h2 ▸ gq_retI))))))))))
theorem bk_X12_worst_18 {σ : St} {f : FI} {g : FL} {a : Nat} {x1 : Int} {x2 : Int} {x3 : Int} {r : St × List Vl} (hs : Sh12 σ a) (h : ((64 ≤ x3 → ((x1 ≤ x2 → (A_X12_worst_131 σ f g a x1 x2 0 r)) ∧ (¬ x1 ≤ x2 → (r = ((il σ f g), [vI (-1)]))))) ∧ (¬ 64 ≤ x3 → (A_X12_worst_30 σ f g a x1 x2 x3 0 0 r)))) : A_X12_worst_18 σ f g a x1 x2 x3 r := fun y4 y5 y6 y7 y8 y9 => (show Gx mt 5 cd_X12_worst (il σ f g) b_X12_worst_18 [some (vR 12 (some a)), some (vI x1), some (vI x2), some (vI x3), y4, y5, y6, y7, y8, y9] [] r from (go_loadI rfl (go_pushI rfl (gq_icmp_ge (fun e3 => have h1 := h.1 e3; (go_loadI rfl (go_loadI rfl (gq_icmp_ge (fun e6 => have h4 := h1.1 e6; (go_pushI rfl (go_stoI rfl rfl (go_fall (h4 _ _ _ _ _ _))))) (fun e6 => have h5 := h1.2 e6; (go_pushI rfl (h5 ▸ gq_retI))))))) (fun e3 => have h2 := h.2 e3; (go_pushI rfl (go_stoI rfl rfl (go_pushI rfl (go_stoI rfl rfl (go_fall (h2 _ _ _ _)))))))))))
theorem bk_X12_worst_30 {σ : St} {f : FI} {g : FL} {a : Nat} {x1 : Int} {x2 : Int} {x3 : Int} {x4 : Int} {x5 : Int} {r : St × List Vl} (hs : Sh12 σ a) (h : ((-2147483648 ≤ x3 ∧ x3 ≤ 2147483647) ∧ (0 ≤ (x3 / 8) ∧ (x3 / 8) < 16)) ∧ (((f (a + 21) (((x3 / 8)).toNat)) ≤ x5 → ((x4 = 0 → ((-2147483648 ≤ (x3 + 1) ∧ (x3 + 1) ≤ 2147483647)) ∧ (A_X12_worst_18 σ f g a x1 x2 (x3 + 1) r)) ∧ (¬ x4 = 0 → ((0 ≤ x3 ∧ x3 < 64)) ∧ ((¬ (f (a + 22) ((x3).toNat)) = 0 → ((-2147483648 ≤ (x3 + 1) ∧ (x3 + 1) ≤ 2147483647)) ∧ (A_X12_worst_18 σ f g a x1 x2 (x3 + 1) r)) ∧ ((f (a + 22) ((x3).toNat)) = 0 → ((-2147483648 ≤ x3 ∧ x3 ≤ 2147483647)) ∧ (((x3 / 8) = (x3 % 8) → ((-2147483648 ≤ (x3 + 1) ∧ (x3 + 1) ≤ 2147483647)) ∧ (A_X12_worst_18 σ f g a x1 x2 (x3 + 1) r)) ∧ (¬ (x3 / 8) = (x3 % 8) → ((0 ≤ x2 ∧ x2 < 64) ∧ (-2147483648 ≤ (x2 + 1) ∧ (x2 + 1) ≤ 2147483647)) ∧ ((-2147483648 ≤ (x3 + 1) ∧ (x3 + 1) ≤ 2147483647)) ∧ (A_X12_worst_18 σ (up2 f (a + 35) ((x2).toNat) x3) g a x1 (x2 + 1) (x3 + 1) r)))))))) ∧ (¬ (f (a + 21) (((x3 / 8)).toNat)) ≤ x5 → ((¬ x4 = 0 → ((-2147483648 ≤ (x5 + 1) ∧ (x5 + 1) ≤ 2147483647)) ∧ (A_X12_worst_30 σ f g a x1 x2 x3 1 (x5 + 1) r)) ∧ (x4 = 0 → ((-2147483648 ≤ x3 ∧ x3 ≤ 2147483647) ∧ (-2147483648 ≤ (12 * (x3 / 8)) ∧ (12 * (x3 / 8)) ≤ 2147483647) ∧ (-2147483648 ≤ ((12 * (x3 / 8)) + x5) ∧ ((12 * (x3 / 8)) + x5) ≤ 2147483647) ∧ (0 ≤ ((12 * (x3 / 8)) + x5) ∧ ((12 * (x3 / 8)) + x5) < 192)) ∧ ((¬ (f (a + 20) ((((12 * (x3 / 8)) + x5)).toNat)) = (x3 % 8) → ((-2147483648 ≤ (x5 + 1) ∧ (x5 + 1) ≤ 2147483647)) ∧ (A_X12_worst_30 σ f g a x1 x2 x3 0 (x5 + 1) r)) ∧ ((f (a + 20) ((((12 * (x3 / 8)) + x5)).toNat)) = (x3 % 8) → ((-2147483648 ≤ (x5 + 1) ∧ (x5 + 1) ≤ 2147483647)) ∧ (A_X12_worst_30 σ f g a x1 x2 x3 1 (x5 + 1) r)))))))) : A_X12_worst_30 σ f g a x1 x2 x3 x4 x5 r := fun y6 y7 y8 y9 => (show Gx mt 5 cd_X12_worst (il σ f g) b_X12_worst_30 [some (vR 12 (some a)), some (vI x1), some (vI x2), some (vI x3), some (vI x4), some (vI x5), y6, y7, y8, y9] [] r from (go_loadI rfl (go_loadA rfl (gi_getR (Sh12.r31 hs) (go_loadI rfl (go_pushI rfl (go_ishr (iShr_3 h.1.1) (gi_iald (inl_ (Sh12.l31 hs) h.1.2) (gq_icmp_ge (fun e3 => have h1 := h.2.1 e3; (go_loadI rfl (gq_if_eq (fun e6 => have h4 := h1.1 e6; (go_iinc rfl h4.1 rfl (go_goto (h4.2 _ _ _ _ _ _)))) (fun e6 => have h5 := h1.2 e6; (go_loadA rfl (gi_getR (Sh12.r32 hs) (go_loadI rfl (gi_zald (inl_ (Sh12.l32 hs) h5.1) (gq_if_ne (fun e9 => have h7 := h5.2.1 e9; (go_iinc rfl h7.1 rfl (go_goto (h7.2 _ _ _ _ _ _)))) (fun e9 => have h8 := h5.2.2 e9; (go_loadI rfl (go_pushI rfl (go_ishr (iShr_3 h8.1) (go_loadI rfl (go_pushI rfl (go_iand (iAnd_m7 _) (gq_icmp_eq (fun e12 => have h10 := h8.2.1 e12; (go_iinc rfl h10.1 rfl (go_goto (h10.2 _ _ _ _ _ _)))) (fun e12 => have h11 := h8.2.2 e12; (go_loadA rfl (gi_getR (Sh12.r53 hs) (go_loadI rfl (go_loadI rfl (gi_iast (inl_ (Sh12.l53 hs) h11.1.1) (go_iinc rfl h11.1.2 rfl (go_fall (go_iinc rfl h11.2.1 rfl (go_goto (h11.2.2 _ _ _ _ _ _)))))))))))))))))))))))))))) (fun e3 => have h2 := h.2.2 e3; (go_loadI rfl (gq_if_ne (fun e15 => have h13 := h2.1 e15; (go_pushI rfl (go_goto (go_stoI rfl rfl (go_iinc rfl h13.1 rfl (go_goto (h13.2 _ _ _ _))))))) (fun e15 => have h14 := h2.2 e15; (go_loadA rfl (gi_getR (Sh12.r30 hs) (go_pushI rfl (go_loadI rfl (go_pushI rfl (go_ishr (iShr_3 h14.1.1) (go_imul h14.1.2.1 (go_loadI rfl (go_iadd h14.1.2.2.1 (gi_iald (inl_ (Sh12.l30 hs) h14.1.2.2.2) (go_loadI rfl (go_pushI rfl (go_iand (iAnd_m7 _) (gq_icmp_ne (fun e18 => have h16 := h14.2.1 e18; (go_pushI rfl (go_fall (go_stoI rfl rfl (go_iinc rfl h16.1 rfl (go_goto (h16.2 _ _ _ _))))))) (fun e18 => have h17 := h14.2.2 e18; (go_fall (go_pushI rfl (go_goto (go_stoI rfl rfl (go_iinc rfl h17.1 rfl (go_goto (h17.2 _ _ _ _)))))))))))))))))))))))))))))))))))
theorem bk_X12_worst_131 {σ : St} {f : FI} {g : FL} {a : Nat} {x1 : Int} {x2 : Int} {x3 : Int} {r : St × List Vl} (hs : Sh12 σ a) (h : ((512 ≤ x3 → (A_X12_worst_223 σ f g a x1 x2 (-1) 0 r)) ∧ (¬ 512 ≤ x3 → ((0 ≤ x3 ∧ x3 < 512) ∧ (0 ≤ f a 33 ∧ f a 33 ≤ 255)) ∧ ((¬ ((hB (f a 33) (x3 / 64))) → ((-2147483648 ≤ (x3 + 1) ∧ (x3 + 1) ≤ 2147483647)) ∧ (A_X12_worst_131 σ f (up2 g (a + 25) ((x3).toNat) (0#64)) a x1 x2 (x3 + 1) r)) ∧ (((hB (f a 33) (x3 / 64))) → (∃ (f7 : FI) (g8 : FL) (v10 : Int), Ex mt 4 255 (il σ f (up2 g (a + 25) ((x3).toNat) (0#64))) [vR 12 (some a), vI x3, vI 0] ((il σ f7 g8), [vI v10]) ∧ ((v10 < 0 → ((-2147483648 ≤ (x3 + 1) ∧ (x3 + 1) ≤ 2147483647)) ∧ (A_X12_worst_131 σ f7 g8 a x1 x2 (x3 + 1) r)) ∧ (¬ v10 < 0 → (A_X12_worst_165 σ f7 g8 a x1 x2 x3 0 r))))))))) : A_X12_worst_131 σ f g a x1 x2 x3 r := fun y4 y5 y6 y7 y8 y9 => (show Gx mt 5 cd_X12_worst (il σ f g) b_X12_worst_131 [some (vR 12 (some a)), some (vI x1), some (vI x2), some (vI x3), y4, y5, y6, y7, y8, y9] [] r from (go_loadI rfl (go_pushI rfl (gq_icmp_ge (fun e3 => have h1 := h.1 e3; (go_pushI rfl (go_stoI rfl rfl (go_pushI rfl (go_stoI rfl rfl (go_fall (h1 _ _ _ _ _))))))) (fun e3 => have h2 := h.2 e3; (go_loadA rfl (gi_getR (Sh12.r42 hs) (go_loadI rfl (go_pushL rfl (gi_last (inl_ (Sh12.l42 hs) h2.1.1) (go_loadA rfl (go_loadI rfl (go_callV rfl rfl rfl (pu_enters hs h2.1.1 h2.1.2) (go_ifb_eq (fun e6 => have h4 := h2.2.1 e6; (go_iinc rfl h4.1 rfl (go_goto (h4.2 _ _ _ _ _ _)))) (fun e6 => have h5 := h2.2.2 e6; (go_loadA rfl (go_loadI rfl (go_pushI rfl (Exists.elim h5 fun f7 w14 => Exists.elim w14 fun g8 w15 => Exists.elim w15 fun v10 h9 => (go_callV rfl rfl rfl h9.1 (gq_if_lt (fun e13 => have h11 := h9.2.1 e13; (go_iinc rfl h11.1 rfl (go_goto (h11.2 _ _ _ _ _ _)))) (fun e13 => have h12 := h9.2.2 e13; (go_pushI rfl (go_stoI rfl rfl (go_fall (h12 _ _ _ _ _))))))))))))))))))))))))))
theorem bk_X12_worst_165 {σ : St} {f : FI} {g : FL} {a : Nat} {x1 : Int} {x2 : Int} {x3 : Int} {x4 : Int} {r : St × List Vl} (hs : Sh12 σ a) (h : ((-2147483648 ≤ (x4 + 1) ∧ (x4 + 1) ≤ 2147483647)) ∧ (((f a 38) ≤ (x4 + 1) → ((-2147483648 ≤ (x3 + 1) ∧ (x3 + 1) ≤ 2147483647)) ∧ (A_X12_worst_131 σ f g a x1 x2 (x3 + 1) r)) ∧ (¬ (f a 38) ≤ (x4 + 1) → ((0 ≤ x3 ∧ x3 < 512) ∧ (0 ≤ x4 ∧ x4 < 513) ∧ (-2147483648 ≤ (f (a + 23) ((x4).toNat)) ∧ (f (a + 23) ((x4).toNat)) ≤ 2147483647) ∧ (-2147483648 ≤ (((f (a + 23) ((x4).toNat)) / 16) * 8) ∧ (((f (a + 23) ((x4).toNat)) / 16) * 8) ≤ 2147483647)) ∧ (∃ (f4 : FI) (g5 : FL) (v7 : Int), Ex mt 0 272 (il σ f g) [vR 12 (some a), vI x4] ((il σ f4 g5), [vI v7]) ∧ ((-2147483648 ≤ ((((f (a + 23) ((x4).toNat)) / 16) * 8) + v7) ∧ ((((f (a + 23) ((x4).toNat)) / 16) * 8) + v7) ≤ 2147483647) ∧ (0 ≤ ((((f (a + 23) ((x4).toNat)) / 16) * 8) + v7) ∧ ((((f (a + 23) ((x4).toNat)) / 16) * 8) + v7) < 64) ∧ (0 ≤ x3 ∧ x3 < 512) ∧ (-2147483648 ≤ (x4 + 1) ∧ (x4 + 1) ≤ 2147483647)) ∧ (A_X12_worst_165 σ f4 (up2 g5 (a + 25) ((x3).toNat) ((g (a + 25) ((x3).toNat)) ||| ((1#64) <<< (((((f (a + 23) ((x4).toNat)) / 16) * 8) + v7)).toNat))) a x1 x2 x3 (x4 + 1) r))))) : A_X12_worst_165 σ f g a x1 x2 x3 x4 r := fun y5 y6 y7 y8 y9 => (show Gx mt 5 cd_X12_worst (il σ f g) b_X12_worst_165 [some (vR 12 (some a)), some (vI x1), some (vI x2), some (vI x3), some (vI x4), y5, y6, y7, y8, y9] [] r from (go_loadI rfl (go_pushI rfl (go_iadd h.1 (go_loadA rfl (gi_getI (gq_icmp_ge (fun e3 => have h1 := h.2.1 e3; (go_iinc rfl h1.1 rfl (go_goto (h1.2 _ _ _ _ _ _)))) (fun e3 => have h2 := h.2.2 e3; (go_loadA rfl (gi_getR (Sh12.r42 hs) (go_loadI rfl (go_dup2 (gi_lald (inl_ (Sh12.l42 hs) h2.1.1) (go_pushL rfl (go_loadA rfl (gi_getR (Sh12.r35 hs) (go_loadI rfl (gi_iald (inl_ (Sh12.l35 hs) h2.1.2.1) (go_pushI rfl (go_ishr (iShr_4 h2.1.2.2.1) (go_pushI rfl (go_imul h2.1.2.2.2 (go_loadA rfl (go_loadI rfl (Exists.elim h2.2 fun f4 w8 => Exists.elim w8 fun g5 w9 => Exists.elim w9 fun v7 h6 => (go_callV rfl rfl rfl h6.1 (go_iadd h6.2.1.1 (go_lshl (lShl_v h6.2.1.2.1) (go_lor (gi_last (inl_ (Sh12.l42 hs) h6.2.1.2.2.1) (go_iinc rfl h6.2.1.2.2.2 rfl (go_goto (h6.2.2 _ _ _ _ _)))))))))))))))))))))))))))))))))
theorem bk_X12_worst_223 {σ : St} {f : FI} {g : FL} {a : Nat} {x1 : Int} {x2 : Int} {x3 : Int} {x4 : Int} {r : St × List Vl} (hs : Sh12 σ a) (h : ((x2 ≤ x4 → (r = ((il σ (up2 f a 54 x1) g), [vI x3]))) ∧ (¬ x2 ≤ x4 → ((¬ x1 = 1 → ((-2147483648 ≤ (x4 + 1) ∧ (x4 + 1) ≤ 2147483647)) ∧ (A_X12_worst_245 σ f g a x1 x2 x3 x4 (x4 + 1) r)) ∧ (x1 = 1 → (A_X12_worst_245 σ f g a x1 x2 x3 x4 x4 r)))))) : A_X12_worst_223 σ f g a x1 x2 x3 x4 r := fun y5 y6 y7 y8 y9 => (show Gx mt 5 cd_X12_worst (il σ f g) b_X12_worst_223 [some (vR 12 (some a)), some (vI x1), some (vI x2), some (vI x3), some (vI x4), y5, y6, y7, y8, y9] [] r from (go_loadI rfl (go_loadI rfl (gq_icmp_ge (fun e3 => have h1 := h.1 e3; (go_loadA rfl (go_loadI rfl (gi_putI (go_loadI rfl (h1 ▸ gq_retI)))))) (fun e3 => have h2 := h.2 e3; (go_loadI rfl (go_pushI rfl (gq_icmp_ne (fun e6 => have h4 := h2.1 e6; (go_loadI rfl (go_pushI rfl (go_iadd h4.1 (go_fall (go_stoI rfl rfl (go_fall (h4.2 _ _ _ _)))))))) (fun e6 => have h5 := h2.2 e6; (go_loadI rfl (go_goto (go_stoI rfl rfl (go_fall (h5 _ _ _ _))))))))))))))
theorem bk_X12_worst_245 {σ : St} {f : FI} {g : FL} {a : Nat} {x1 : Int} {x2 : Int} {x3 : Int} {x4 : Int} {x5 : Int} {r : St × List Vl} (hs : Sh12 σ a) (h : ((¬ x1 = 1 → ((x2 ≤ x5 → ((-2147483648 ≤ (x4 + 1) ∧ (x4 + 1) ≤ 2147483647)) ∧ (A_X12_worst_223 σ f g a x1 x2 x3 (x4 + 1) r)) ∧ (¬ x2 ≤ x5 → ((0 ≤ x4 ∧ x4 < 64) ∧ (0 ≤ (f (a + 35) ((x4).toNat)) ∧ (f (a + 35) ((x4).toNat)) < 64) ∧ (0 ≤ x5 ∧ x5 < 64) ∧ (0 ≤ (f (a + 35) ((x5).toNat)) ∧ (f (a + 35) ((x5).toNat)) < 64)) ∧ (A_X12_worst_290 σ f g a x1 x2 x3 x4 x5 (((1#64) <<< ((f (a + 35) ((x4).toNat))).toNat) ||| ((1#64) <<< ((f (a + 35) ((x5).toNat))).toNat)) 0 0 r)))) ∧ (x1 = 1 → ((-2147483648 ≤ (x4 + 1) ∧ (x4 + 1) ≤ 2147483647)) ∧ (((x4 + 1) ≤ x5 → ((-2147483648 ≤ (x4 + 1) ∧ (x4 + 1) ≤ 2147483647)) ∧ (A_X12_worst_223 σ f g a x1 x2 x3 (x4 + 1) r)) ∧ (¬ (x4 + 1) ≤ x5 → ((0 ≤ x4 ∧ x4 < 64) ∧ (0 ≤ (f (a + 35) ((x4).toNat)) ∧ (f (a + 35) ((x4).toNat)) < 64) ∧ (0 ≤ x5 ∧ x5 < 64) ∧ (0 ≤ (f (a + 35) ((x5).toNat)) ∧ (f (a + 35) ((x5).toNat)) < 64)) ∧ (A_X12_worst_290 σ f g a x1 x2 x3 x4 x5 (((1#64) <<< ((f (a + 35) ((x4).toNat))).toNat) ||| ((1#64) <<< ((f (a + 35) ((x5).toNat))).toNat)) 0 0 r)))))) : A_X12_worst_245 σ f g a x1 x2 x3 x4 x5 r := fun y6 y7 y8 y9 => (show Gx mt 5 cd_X12_worst (il σ f g) b_X12_worst_245 [some (vR 12 (some a)), some (vI x1), some (vI x2), some (vI x3), some (vI x4), some (vI x5), y6, y7, y8, y9] [] r from (go_loadI rfl (go_loadI rfl (go_pushI rfl (gq_icmp_ne (fun e3 => have h1 := h.1 e3; (go_loadI rfl (go_fall (gq_icmp_ge (fun e6 => have h4 := h1.1 e6; (go_iinc rfl h4.1 rfl (go_goto (h4.2 _ _ _ _ _)))) (fun e6 => have h5 := h1.2 e6; (go_pushL rfl (go_loadA rfl (gi_getR (Sh12.r53 hs) (go_loadI rfl (gi_iald (inl_ (Sh12.l53 hs) h5.1.1) (go_lshl (lShl_v h5.1.2.1) (go_pushL rfl (go_loadA rfl (gi_getR (Sh12.r53 hs) (go_loadI rfl (gi_iald (inl_ (Sh12.l53 hs) h5.1.2.2.1) (go_lshl (lShl_v h5.1.2.2.2) (go_lor (go_stoL rfl rfl (go_pushI rfl (go_stoI rfl rfl (go_pushI rfl (go_stoI rfl rfl (go_fall (h5.2))))))))))))))))))))))))) (fun e3 => have h2 := h.2 e3; (go_loadI rfl (go_pushI rfl (go_iadd h2.1 (go_goto (gq_icmp_ge (fun e9 => have h7 := h2.2.1 e9; (go_iinc rfl h7.1 rfl (go_goto (h7.2 _ _ _ _ _)))) (fun e9 => have h8 := h2.2.2 e9; (go_pushL rfl (go_loadA rfl (gi_getR (Sh12.r53 hs) (go_loadI rfl (gi_iald (inl_ (Sh12.l53 hs) h8.1.1) (go_lshl (lShl_v h8.1.2.1) (go_pushL rfl (go_loadA rfl (gi_getR (Sh12.r53 hs) (go_loadI rfl (gi_iald (inl_ (Sh12.l53 hs) h8.1.2.2.1) (go_lshl (lShl_v h8.1.2.2.2) (go_lor (go_stoL rfl rfl (go_pushI rfl (go_stoI rfl rfl (go_pushI rfl (go_stoI rfl rfl (go_fall (h8.2))))))))))))))))))))))))))))))))
theorem bk_X12_worst_290 {σ : St} {f : FI} {g : FL} {a : Nat} {x1 : Int} {x2 : Int} {x3 : Int} {x4 : Int} {x5 : Int} {x6 : BitVec 64} {x8 : Int} {x9 : Int} {r : St × List Vl} (hs : Sh12 σ a) (h : ((512 ≤ x9 → ((x8 ≤ x3 → ((-2147483648 ≤ (x5 + 1) ∧ (x5 + 1) ≤ 2147483647)) ∧ (A_X12_worst_245 σ f g a x1 x2 x3 x4 (x5 + 1) r)) ∧ (¬ x8 ≤ x3 → ((0 ≤ x4 ∧ x4 < 64) ∧ (0 ≤ x5 ∧ x5 < 64)) ∧ ((-2147483648 ≤ (x5 + 1) ∧ (x5 + 1) ≤ 2147483647)) ∧ (A_X12_worst_245 σ (up2 (up2 f (a + 34) 0 (f (a + 35) ((x4).toNat))) (a + 34) 1 (f (a + 35) ((x5).toNat))) g a x1 x2 x8 x4 (x5 + 1) r)))) ∧ (¬ 512 ≤ x9 → ((0 ≤ x9 ∧ x9 < 512)) ∧ ((((g (a + 25) ((x9).toNat)) &&& x6) = (0#64) → ((-2147483648 ≤ (x8 + 0) ∧ (x8 + 0) ≤ 2147483647) ∧ (-2147483648 ≤ (x9 + 1) ∧ (x9 + 1) ≤ 2147483647)) ∧ (A_X12_worst_290 σ f g a x1 x2 x3 x4 x5 x6 (x8 + 0) (x9 + 1) r)) ∧ (¬ ((g (a + 25) ((x9).toNat)) &&& x6) = (0#64) → ((-2147483648 ≤ (x8 + 1) ∧ (x8 + 1) ≤ 2147483647) ∧ (-2147483648 ≤ (x9 + 1) ∧ (x9 + 1) ≤ 2147483647)) ∧ (A_X12_worst_290 σ f g a x1 x2 x3 x4 x5 x6 (x8 + 1) (x9 + 1) r)))))) : A_X12_worst_290 σ f g a x1 x2 x3 x4 x5 x6 x8 x9 r := (show Gx mt 5 cd_X12_worst (il σ f g) b_X12_worst_290 [some (vR 12 (some a)), some (vI x1), some (vI x2), some (vI x3), some (vI x4), some (vI x5), some (vL x6), none, some (vI x8), some (vI x9)] [] r from (go_loadI rfl (go_pushI rfl (gq_icmp_ge (fun e3 => have h1 := h.1 e3; (go_loadI rfl (go_loadI rfl (gq_icmp_le (fun e6 => have h4 := h1.1 e6; (go_iinc rfl h4.1 rfl (go_goto (h4.2 _ _ _ _)))) (fun e6 => have h5 := h1.2 e6; (go_loadI rfl (go_stoI rfl rfl (go_loadA rfl (gi_getR (Sh12.r52 hs) (go_pushI rfl (go_loadA rfl (gi_getR (Sh12.r53 hs) (go_loadI rfl (gi_iald (inl_ (Sh12.l53 hs) h5.1.1) (gi_iast (inl_ (Sh12.l52 hs) (by decide)) (go_loadA rfl (gi_getR (Sh12.r52 hs) (go_pushI rfl (go_loadA rfl (gi_getR (Sh12.r53 hs) (go_loadI rfl (gi_ialde (inl_ (Sh12.l53 hs) h5.1.2) (u2_a (by omega)) (gi_iast (inl_ (Sh12.l52 hs) (by decide)) (go_fall (go_iinc rfl h5.2.1 rfl (go_goto (h5.2.2 _ _ _ _))))))))))))))))))))))))))) (fun e3 => have h2 := h.2 e3; (go_loadI rfl (go_loadA rfl (gi_getR (Sh12.r42 hs) (go_loadI rfl (gi_lald (inl_ (Sh12.l42 hs) h2.1) (go_loadL rfl (go_land (go_pushL rfl (go_lcmp rfl (go_lif_eq (fun e9 => have h7 := h2.2.1 e9; (go_pushI rfl (go_fall (go_iadd h7.1.1 (go_stoI rfl rfl (go_iinc rfl h7.1.2 rfl (go_goto (h7.2)))))))) (fun e9 => have h8 := h2.2.2 e9; (go_pushI rfl (go_goto (go_iadd h8.1.1 (go_stoI rfl rfl (go_iinc rfl h8.1.2 rfl (go_goto (h8.2)))))))))))))))))))))))
/-- the rising list of the lines below l -/
def Lst (L : Nat → Prop) (e : Nat → Int) (m l : Nat) : Prop := (∀ i, i < m → 0 ≤ e i ∧ e i < (l : Int) ∧ L (e i).toNat) ∧ (∀ i j, i < j → j < m → e i < e j) ∧ ∀ c, c < l → L c → ∃ i, i < m ∧ e i = (c : Int)
theorem m_lines {σ : St} {f : FI} {g : FL} {B : Nat} {nn : Nat → Nat} {L : BitVec 64} {n : Int} (hm : Sh12 σ (B + 165)) (hB0 : ITb f B nn) (hIL : IL f g B) (hL : ∀ l, l < 64 → (L.getLsbD l = true ↔ Lu f g B nn l)) : ∀ k l : Nat, l + k = 64 → ∀ fi : FI, Fr (fun a _ => a = B + 165 + 35) f fi → Lst (Lu f g B nn) (fi (B + 165 + 35)) (fb_ct (fun j => L.getLsbD j) l) l → ∃ f' : FI, Fr (fun a _ => a = B + 165 + 35) f f' ∧ Lst (Lu f g B nn) (f' (B + 165 + 35)) (pc L) 64 ∧ ∀ r, A_X12_worst_18 σ f' g (B + 165) n (pc L : Int) 64 r → A_X12_worst_18 σ fi g (B + 165) n (fb_ct (fun j => L.getLsbD j) l : Nat) (l : Int) r := by
  intro k
  induction k with
  | zero =>
    intro l hl fi hF hS
    obtain rfl : l = 64 := by omega
    rw [← pc_ct] at hS ⊢
    exact ⟨fi, hF, hS, fun r A => A⟩
  | succ k ih =>
    intro l hl fi hF hS
    have hTb := hB0 (l / 8) (by omega)
    have n12 := hTb.1.1.2
    have i8 : ((l : Int) / 8).toNat = l / 8 := by omega
    have e21 : fi (B + 165 + 21) (l / 8) = (nn (l / 8) : Int) := by rw [hF _ _ (by omega)]; exact hTb.2.1
    have e22 : fi (B + 165 + 22) l = if (g (B + 43) 1).getLsbD l then 1 else 0 := by rw [hF _ _ (by omega)]; exact hIL.1 l (by omega)
    have e20 : ∀ j, j < nn (l / 8) → fi (B + 165 + 20) (12 * (l / 8) + j) = f (tB B (l / 8) + 3) j := fun j hj => by rw [hF _ _ (by omega)]; exact (hTb.2.2 j hj).2.2
    have m64 := fb_ct_le (fun j => L.getLsbD j) l
    -- is some row going by it
    have used : ∀ k i : Nat, i + k = nn (l / 8) → ∀ u : Int, (u = 0 ∨ u = 1) → (u = 1 ↔ ∃ j, j < i ∧ f (tB B (l / 8) + 3) j = ((l % 8 : Nat) : Int)) → ∃ w : Int, (w = 0 ∨ w = 1) ∧ (w = 1 ↔ ∃ j, j < nn (l / 8) ∧ f (tB B (l / 8) + 3) j = ((l % 8 : Nat) : Int)) ∧ ∀ r, A_X12_worst_30 σ fi g (B + 165) n (fb_ct (fun j => L.getLsbD j) l : Nat) (l : Int) w (nn (l / 8) : Int) r → A_X12_worst_30 σ fi g (B + 165) n (fb_ct (fun j => L.getLsbD j) l : Nat) (l : Int) u (i : Int) r := by
      intro k
      induction k with
      | zero =>
        intro i hi u hu hj
        obtain rfl : i = nn (l / 8) := by omega
        exact ⟨u, hu, hj, fun r A => A⟩
      | succ k ihk =>
        intro i hi u hu hj
        have i12 : (12 * ((l : Int) / 8) + (i : Int)).toNat = 12 * (l / 8) + i := by omega
        by_cases hu1 : u = 1
        · subst hu1
          obtain ⟨w, w1, w2, K⟩ := ihk (i + 1) (by omega) 1 (Or.inr rfl) ⟨fun _ => by
            obtain ⟨j, h1, h2⟩ := hj.mp rfl
            exact ⟨j, by omega, h2⟩, fun _ => rfl⟩
          refine ⟨w, w1, w2, fun r A => bk_X12_worst_30 hm ?_⟩
          rw [i8, e21]
          exact ⟨⟨by omega, by omega⟩, fun z => absurd z (by omega), fun _ => ⟨fun _ => ⟨by omega, K r A⟩, fun z => absurd z (by decide)⟩⟩
        · obtain rfl : u = 0 := by omega
          by_cases z : f (tB B (l / 8) + 3) i = ((l % 8 : Nat) : Int)
          · obtain ⟨w, w1, w2, K⟩ := ihk (i + 1) (by omega) 1 (Or.inr rfl) ⟨fun _ => ⟨i, by omega, z⟩, fun _ => rfl⟩
            refine ⟨w, w1, w2, fun r A => bk_X12_worst_30 hm ?_⟩
            rw [i8, e21, i12, e20 i (by omega)]
            exact ⟨⟨by omega, by omega⟩, fun y => absurd y (by omega), fun _ => ⟨fun y => absurd rfl y, fun _ => ⟨⟨by omega, by omega, by omega, by omega⟩, fun y => absurd (by omega) y, fun _ => ⟨by omega, K r A⟩⟩⟩⟩
          · obtain ⟨w, w1, w2, K⟩ := ihk (i + 1) (by omega) 0 (Or.inl rfl) ⟨fun y => absurd y (by decide), fun ⟨j, h1, h2⟩ => by
              by_cases y : j = i
              · subst y; exact absurd h2 z
              · exact absurd (hj.mpr ⟨j, by omega, h2⟩) (by decide)⟩
            refine ⟨w, w1, w2, fun r A => bk_X12_worst_30 hm ?_⟩
            rw [i8, e21, i12, e20 i (by omega)]
            exact ⟨⟨by omega, by omega⟩, fun y => absurd y (by omega), fun _ => ⟨fun y => absurd rfl y, fun _ => ⟨⟨by omega, by omega, by omega, by omega⟩, fun _ => ⟨by omega, K r A⟩, fun y => absurd (by omega) z⟩⟩⟩
    obtain ⟨w, w1, w2, K⟩ := used (nn (l / 8)) 0 (by omega) 0 (Or.inl rfl) ⟨fun y => absurd y (by decide), fun ⟨j, h1, _⟩ => absurd h1 (Nat.not_lt_zero j)⟩
    -- not among them
    have no : L.getLsbD l = false → ∃ f' : FI, Fr (fun a _ => a = B + 165 + 35) f f' ∧ Lst (Lu f g B nn) (f' (B + 165 + 35)) (pc L) 64 ∧ ∀ r, A_X12_worst_18 σ f' g (B + 165) n (pc L : Int) 64 r → A_X12_worst_18 σ fi g (B + 165) n (fb_ct (fun j => L.getLsbD j) l : Nat) ((l : Int) + 1) r := fun hf => by
      have e1 : fb_ct (fun j => L.getLsbD j) (l + 1) = fb_ct (fun j => L.getLsbD j) l := by rw [fb_ct_succ, hf]; rfl
      have := ih (l + 1) (by omega) fi hF (by
        rw [e1]
        refine ⟨fun i hi => ?_, hS.2.1, fun c hc hcl => ?_⟩
        · have := hS.1 i hi
          exact ⟨this.1, by omega, this.2.2⟩
        · by_cases y : c = l
          · subst y
            rw [(hL c (by omega)).mpr hcl] at hf
            exact absurd hf (by decide)
          · exact hS.2.2 c (by omega) hcl)
      rw [e1] at this
      exact this
    by_cases hl2 : L.getLsbD l = true
    · have hlu := (hL l (by omega)).mp hl2
      have e1 : fb_ct (fun j => L.getLsbD j) (l + 1) = fb_ct (fun j => L.getLsbD j) l + 1 := by rw [fb_ct_succ, hl2]; rfl
      obtain ⟨f', F, S, K2⟩ := ih (l + 1) (by omega) (up2 fi (B + 165 + 35) (fb_ct (fun j => L.getLsbD j) l) (l : Int)) (hF.up rfl) (by
        rw [e1]
        refine ⟨fun i hi => ?_, fun i j hij hj => ?_, fun c hc hcl => ?_⟩
        · by_cases y : i = fb_ct (fun j => L.getLsbD j) l
          · subst y
            rw [u2_s]
            exact ⟨by omega, by omega, hlu⟩
          · rw [u2_i y]
            have := hS.1 i (by omega)
            exact ⟨this.1, by omega, this.2.2⟩
        · by_cases y : j = fb_ct (fun j => L.getLsbD j) l
          · subst y
            rw [u2_s, u2_i (by omega)]
            exact (hS.1 i (by omega)).2.1
          · rw [u2_i y, u2_i (by omega)]
            exact hS.2.1 i j hij (by omega)
        · by_cases y : c = l
          · subst y
            exact ⟨_, Nat.lt_succ_self _, u2_s⟩
          · obtain ⟨i, h1, h2⟩ := hS.2.2 c (by omega) hcl
            exact ⟨i, by omega, by rw [u2_i (by omega)]; exact h2⟩)
      rw [e1] at K2
      have hw : w = 1 := w2.mpr hlu.2.2
      subst hw
      refine ⟨f', F, S, fun r A => bk_X12_worst_18 hm ⟨fun z => absurd z (by omega), fun _ => K r (bk_X12_worst_30 hm ?_)⟩⟩
      rw [i8, e21]
      refine ⟨⟨by omega, by omega⟩, fun _ => ⟨fun z => absurd z (by decide), fun _ => ⟨by omega, ?_⟩⟩, fun z => absurd (by omega) z⟩
      rw [show fi (B + 165 + 22) ((l : Int)).toNat = 0 from by
        rw [show ((l : Int)).toNat = l from rfl, e22, hlu.2.1]
        rfl]
      refine ⟨fun z => absurd rfl z, fun _ => ⟨by omega, fun z => absurd (show l / 8 = l % 8 by omega) hlu.1, fun _ => ⟨⟨by omega, by omega⟩, by omega, ?_⟩⟩⟩
      have := K2 r A
      rw [show ((fb_ct (fun j => L.getLsbD j) l + 1 : Nat) : Int) = (fb_ct (fun j => L.getLsbD j) l : Nat) + 1 by omega, show ((l + 1 : Nat) : Int) = (l : Int) + 1 by omega] at this
      exact this
    · have hlf : L.getLsbD l = false := by simpa using hl2
      have hno : ¬ Lu f g B nn l := fun z => hl2 ((hL l (by omega)).mpr z)
      obtain ⟨f', F, S, K2⟩ := no hlf
      refine ⟨f', F, S, fun r A => bk_X12_worst_18 hm ⟨fun z => absurd z (by omega), fun _ => K r (bk_X12_worst_30 hm ?_)⟩⟩
      rw [i8, e21]
      have ef : fi (B + 165 + 22) ((l : Int)).toNat = if (g (B + 43) 1).getLsbD l then 1 else 0 := e22
      refine ⟨⟨by omega, by omega⟩, fun _ => ⟨fun _ => ⟨by omega, K2 r A⟩, fun z => ⟨by omega, fun _ => ⟨by omega, K2 r A⟩, fun y => ⟨by omega, fun _ => ⟨by omega, K2 r A⟩, fun x => ?_⟩⟩⟩, fun z => absurd (by omega) z⟩
      refine absurd ⟨by omega, ?_, w2.mp (by omega)⟩ hno
      rw [ef] at y
      cases h : (g (B + 43) 1).getLsbD l
      · rfl
      · rw [h] at y
        exact absurd y (by decide)
/-- where a packet that goes on goes to -/
theorem step_to {f : FI} {g : FL} {B : Nat} {nn : Nat → Nat} (hB0 : ITb f B nn) {p : Int} (hp : pk p) (h : pk (GB f g B 0 p)) : ∃ r : Nat, r < 12 ∧ rcd f B 0 p = 16 * (p / 64) + (r : Int) ∧ f (B + 165 + 20) (12 * (p / 64).toNat + r) = GB f g B 0 p / 64 := by
  have e0 : ((0 : Int) / p2 (p / 64) % 2).toNat = 0 := by rw [Int.zero_ediv]; rfl
  have hb : (p / 64).toNat < 16 := by omega
  obtain ⟨tc, tm⟩ := hB0 (p / 64).toNat hb
  have hd := tc.2.2 (p % 64).toNat (by omega)
  have eG : GB f g B 0 p = stV (f (tB B (p / 64).toNat + 5) (p % 64).toNat) (g (B + 43) 1) p := by
    unfold GB GT
    rw [e0]
    simp
  have eR : rcd f B 0 p = if f (tB B (p / 64).toNat + 4) (p % 64).toNat = -1 then -2 else 16 * (p / 64) + f (tB B (p / 64).toNat + 4) (p % 64).toNat := by
    unfold rcd
    rw [e0]
    simp
  have eD : GB f g B 0 p = f (tB B (p / 64).toNat + 5) (p % 64).toNat ∧ 0 ≤ f (tB B (p / 64).toNat + 5) (p % 64).toNat := by
    rw [eG] at h ⊢
    unfold stV at h ⊢
    split at h
    · omega
    · rename_i h1
      rw [if_neg h1]
      split at h
      · omega
      · rename_i h2
        rw [if_neg h2]
        omega
  have fr := frF_rg (f (tB B (p / 64).toNat + 1)) (((p % 64).toNat : Nat) : Int) (nn (p / 64).toNat)
  have n12 := tc.1.2
  rw [hd.2] at eD
  unfold deF at eD
  split at eD
  · omega
  · rename_i h1
    split at eD
    · omega
    · have hr := tc.2.1 (frF (f (tB B (p / 64).toNat + 1)) (((p % 64).toNat : Nat) : Int) (nn (p / 64).toNat)).toNat (by omega)
      have sr := setF_rg hr.2.1 (show 0 ≤ (((p % 64).toNat : Nat) : Int) ∧ (((p % 64).toNat : Nat) : Int) < 512 by omega)
      refine ⟨(frF (f (tB B (p / 64).toNat + 1)) (((p % 64).toNat : Nat) : Int) (nn (p / 64).toNat)).toNat, by omega, ?_, ?_⟩
      · rw [eR, hd.1, if_neg h1]
        omega
      · rw [(tm.2 _ (by omega)).2.2]
        omega
/-- the lines of one packet -/
theorem m_use1 {σ : St} {f : FI} {B : Nat} {nn : Nat → Nat} {n mm : Int} {q c : Nat} {G0 : FL} (hm : Sh12 σ (B + 165)) (hB0 : ITb f B nn) (hq : q < 512) (hc : c ≤ 512) (h38 : f (B + 165) 38 = (c : Int)) (hw : ∀ i, i < c → pk (itr (GB f G0 B 0) (q : Int) i)) (h23 : ∀ i, i < c → f (B + 165 + 23) i = rcd f B 0 (itr (GB f G0 B 0) (q : Int) i)) : ∀ k i : Nat, i + k + 1 = c → ∀ g : FL, (∀ l, l < 64 → ((g (B + 165 + 25) q).getLsbD l = true ↔ ∃ j, j < i ∧ 8 * (itr (GB f G0 B 0) (q : Int) j / 64) + itr (GB f G0 B 0) (q : Int) (j + 1) / 64 = (l : Int))) → ∃ g' : FL, (∀ l, l < 64 → ((g' (B + 165 + 25) q).getLsbD l = true ↔ ∃ j, j + 1 < c ∧ 8 * (itr (GB f G0 B 0) (q : Int) j / 64) + itr (GB f G0 B 0) (q : Int) (j + 1) / 64 = (l : Int))) ∧ (∀ a k, ¬ (a = B + 165 + 25 ∧ k = q) → g' a k = g a k) ∧ ∀ r, A_X12_worst_131 σ f g' (B + 165) n mm ((q : Int) + 1) r → A_X12_worst_165 σ f g (B + 165) n mm (q : Int) (i : Int) r := by
  intro k
  induction k with
  | zero =>
    intro i hi g hg
    refine ⟨g, fun l hl => ?_, fun _ _ _ => rfl, fun r A => bk_X12_worst_165 hm ⟨by omega, fun _ => ⟨by omega, A⟩, fun z => absurd (by rw [h38]; omega) z⟩⟩
    rw [hg l hl]
    exact ⟨fun ⟨j, h1, h2⟩ => ⟨j, by omega, h2⟩, fun ⟨j, h1, h2⟩ => ⟨j, by omega, h2⟩⟩
  | succ k ih =>
    intro i hi g hg
    have p1 := hw i (by omega)
    have p2' := hw (i + 1) (by omega)
    have es := itr_s (G := GB f G0 B 0) (p := (q : Int)) (k := i) p1
    obtain ⟨rr, r1, r2, r3⟩ := step_to (g := G0) hB0 p1 (by rw [← es]; exact p2')
    rw [← es] at r3
    have e23 : f (B + 165 + 23) i = 16 * (itr (GB f G0 B 0) (q : Int) i / 64) + (rr : Int) := by rw [h23 i (by omega), r2]
    have i12 : (12 * ((16 * (itr (GB f G0 B 0) (q : Int) i / 64) + (rr : Int)) / 16) + (16 * (itr (GB f G0 B 0) (q : Int) i / 64) + (rr : Int)) % 16).toNat = 12 * (itr (GB f G0 B 0) (q : Int) i / 64).toNat + rr := by omega
    have e8 : (16 * (itr (GB f G0 B 0) (q : Int) i / 64) + (rr : Int)) / 16 * 8 + itr (GB f G0 B 0) (q : Int) (i + 1) / 64 = 8 * (itr (GB f G0 B 0) (q : Int) i / 64) + itr (GB f G0 B 0) (q : Int) (i + 1) / 64 := by omega
    have E : Ex mt 0 272 (il σ f g) [vR 12 (some (B + 165)), vI (i : Int)] (il σ f g, [vI (itr (GB f G0 B 0) (q : Int) (i + 1) / 64)]) := by
      refine bk_X12_placeBehind_0 hm ?_
      rw [show f (B + 165 + 23) ((i : Int)).toNat = _ from e23, i12, r3]
      exact ⟨⟨by omega, by omega, by omega, by omega, by omega⟩, rfl⟩
    have e1 : (8 * (itr (GB f G0 B 0) (q : Int) i / 64) + itr (GB f G0 B 0) (q : Int) (i + 1) / 64).toNat < 64 := by omega
    obtain ⟨g', h1, h2, K⟩ := ih (i + 1) (by omega) (up2 g (B + 165 + 25) q (g (B + 165 + 25) q ||| (1#64 <<< (8 * (itr (GB f G0 B 0) (q : Int) i / 64) + itr (GB f G0 B 0) (q : Int) (i + 1) / 64).toNat))) (fun l hl => by
      rw [u2_s, orb e1, Bool.or_eq_true, decide_eq_true_iff, hg l hl]
      constructor
      · rintro (⟨j, h3, h4⟩ | h3)
        · exact ⟨j, by omega, h4⟩
        · exact ⟨i, by omega, by omega⟩
      · rintro ⟨j, h3, h4⟩
        by_cases w : j = i
        · subst w
          exact Or.inr (by omega)
        · exact Or.inl ⟨j, by omega, h4⟩)
    refine ⟨g', h1, fun a k hk => ?_, fun r A => bk_X12_worst_165 hm ⟨by omega, fun z => absurd z (by rw [h38]; omega), fun _ => ?_⟩⟩
    · rw [h2 a k hk]
      unfold up2
      rw [if_neg hk]
    · rw [show f (B + 165 + 23) ((i : Int)).toNat = _ from e23]
      refine ⟨⟨by omega, by omega, by omega, by omega⟩, f, g, _, E, ⟨by omega, by omega, by omega, by omega⟩, ?_⟩
      rw [e8]
      exact K r A
/-- the lines of all packets -/
theorem m_uses {σ : St} {f : FI} {g : FL} {B : Nat} {nn : Nat → Nat} {n mm s : Int} (hm : Sh12 σ (B + 165)) (hB0 : ITb f B nn) (hIL : IL f g B) (hE : IE f B) (hsl : s < 1999990000) : ∀ k q : Nat, q + k = 512 → ∀ (fi : FI) (gi : FL) (si : Int), Fr (Scr B) f fi → (∀ a, a ≠ B + 165 + 25 → gi a = g a) → IS fi B si → si ≤ s + q → (∀ p, p < q → ∀ l, l < 64 → (gi (B + 165 + 25) p).getLsbD l = (enB f g B p && tbB (GB f g B 0) (p : Int) l)) → ∃ (f' : FI) (g' : FL) (s' : Int), Fr (Scr B) f f' ∧ (∀ a, a ≠ B + 165 + 25 → g' a = g a) ∧ IS f' B s' ∧ s' ≤ s + 512 ∧ (∀ p, p < 512 → ∀ l, l < 64 → (g' (B + 165 + 25) p).getLsbD l = (enB f g B p && tbB (GB f g B 0) (p : Int) l)) ∧ ∀ r, A_X12_worst_223 σ f' g' (B + 165) n mm (-1) 0 r → A_X12_worst_131 σ fi gi (B + 165) n mm (q : Int) r := by
  intro k
  induction k with
  | zero =>
    intro q hq fi gi si hF hg hS hsi hU
    obtain rfl : q = 512 := by omega
    exact ⟨fi, gi, si, hF, hg, hS, by omega, hU, fun r A => bk_X12_worst_131 hm ⟨fun _ => A, fun z => absurd (by decide) z⟩⟩
  | succ k ih =>
    intro q hq fi gi si hF hg hS hsi hU
    have e33 : fi (B + 165) 33 = f (B + 43) 2 := by rw [hF _ _ (by unfold Scr; omega), hE.1]
    have ob2 : ((0 : Int) ≤ (q : Int) ∧ (q : Int) < 512) ∧ ((0 : Int) ≤ fi (B + 165) 33 ∧ fi (B + 165) 33 ≤ 255) := by rw [e33]; exact ⟨by omega, hE.2⟩
    have g0 : ∀ a, a ≠ B + 165 + 25 → up2 gi (B + 165 + 25) q 0#64 a = g a := fun a ha => by rw [up2_ne ha]; exact hg a ha
    -- a packet that doesn't count
    have skip : enB f g B q = false → ∀ (f2 : FI) (s2 : Int), Fr (Scr B) f f2 → IS f2 B s2 → s2 ≤ s + (q + 1 : Nat) → ∃ (f' : FI) (g' : FL) (s' : Int), Fr (Scr B) f f' ∧ (∀ a, a ≠ B + 165 + 25 → g' a = g a) ∧ IS f' B s' ∧ s' ≤ s + 512 ∧ (∀ p, p < 512 → ∀ l, l < 64 → (g' (B + 165 + 25) p).getLsbD l = (enB f g B p && tbB (GB f g B 0) (p : Int) l)) ∧ ∀ r, A_X12_worst_223 σ f' g' (B + 165) n mm (-1) 0 r → A_X12_worst_131 σ f2 (up2 gi (B + 165 + 25) q 0#64) (B + 165) n mm ((q : Int) + 1) r := fun hf f2 s2 F2 S2 b2 => ih (q + 1) (by omega) f2 _ s2 F2 g0 S2 b2 (fun p hp l hl => by
      by_cases z : p = q
      · subst z
        rw [u2_s, hf, BitVec.getLsbD_zero]
        rfl
      · rw [u2_i z]
        exact hU p (by omega) l hl)
    by_cases hEn : En f B (q : Int)
    · have eT : SameT f fi B := fun a h1 h2 => by
        funext j
        exact hF a j (by unfold Scr; omega)
      have eg1 : up2 gi (B + 165 + 25) q 0#64 (B + 43) 1 = g (B + 43) 1 := by rw [g0 _ (by omega)]
      have hBi : ITb fi B nn := hB0.fr eT fun a h1 h2 => by
        funext j
        exact hF a j (by unfold Scr; omega)
      have hLi : IL fi (up2 gi (B + 165 + 25) q 0#64) B := hIL.fr (by
        funext j
        exact hF _ j (by unfold Scr; omega)) (hF _ _ (by unfold Scr; omega)) eg1
      obtain ⟨f2, c, E, W, hc, h38, h23, S2, F2⟩ := x_endsAs (σ := σ) (f := fi) (g := up2 gi (B + 165 + 25) q 0#64) (p := (q : Int)) (b := 0) hm hBi hLi hS (by omega) (by omega) (by omega)
      have eG : ∀ z, pk z → GB fi (up2 gi (B + 165 + 25) q 0#64) B 0 z = GB f g B 0 z := fun z hz => GB_of hz eT eg1
      have W2 := W.cong eG
      rw [enD_cong eG] at E
      have hF2 := hF.trans F2
      by_cases hv : enD (GB f g B 0) (q : Int) < 0
      · obtain ⟨f', g', s', r1, r2, r3, r4, r5, K⟩ := skip (by
          unfold enB
          rw [decide_eq_false (p := 0 ≤ enD (GB f g B 0) (q : Int)) (by omega), Bool.and_false]) f2 (si + 1) hF2 S2 (by omega)
        exact ⟨f', g', s', r1, r2, r3, r4, r5, fun r A => bk_X12_worst_131 hm ⟨fun z => absurd z (by omega), fun _ => ⟨ob2, fun z => absurd (by rw [e33]; exact hEn) z, fun _ => ⟨f2, _, _, E, fun _ => ⟨by omega, K r A⟩, fun z => absurd hv z⟩⟩⟩⟩
      · have eT2 : SameT f f2 B := fun a h1 h2 => by
          funext j
          exact hF2 a j (by unfold Scr; omega)
        have hB2 : ITb f2 B nn := hB0.fr eT2 fun a h1 h2 => by
          funext j
          exact hF2 a j (by unfold Scr; omega)
        have eG2 : ∀ z, pk z → GB f2 g B 0 z = GB f g B 0 z := fun z hz => GB_of hz eT2 rfl
        have c1 : 1 ≤ c := by
          rcases W2.2.2 with z | ⟨i, h1, _⟩
          · apply Classical.byContradiction
            intro y
            obtain rfl : c = 0 := by omega
            exact z (show pk (q : Int) by omega)
          · omega
        have nc : ¬ pk (itr (GB f g B 0) (q : Int) c) := by
          rcases W2.2.2 with z | ⟨i, h1, h2⟩
          · exact z
          · exact absurd (show enD (GB f g B 0) (q : Int) < 0 by rw [enD_rep h1 (by rw [← h2]; exact W2.1 i h1) h2]; decide) hv
        obtain ⟨g2, h1, h2, K1⟩ := m_use1 (σ := σ) (f := f2) (B := B) (n := n) (mm := mm) (q := q) (c := c) (G0 := g) hm hB2 (by omega) hc h38 (fun i hi => by rw [itr_cong eG2]; exact W2.1 i hi) (fun i hi => by
          rw [h23 i hi, itr_cong eG, itr_cong eG2]
          exact (rcd_of (W2.1 i hi) (fun a h3 h4 => by rw [eT2 a h3 h4, eT a h3 h4])).symm) (c - 1) 0 (by omega) (up2 gi (B + 165 + 25) q 0#64) (fun l hl => by
          rw [u2_s, BitVec.getLsbD_zero]
          exact ⟨fun z => absurd z (by decide), fun ⟨j, h3, _⟩ => absurd h3 (Nat.not_lt_zero j)⟩)
        have he : enB f g B q = true := by
          unfold enB
          rw [decide_eq_true (p := hB (f (B + 43) 2) ((q : Int) / 64)) hEn, decide_eq_true (p := 0 ≤ enD (GB f g B 0) (q : Int)) (by omega)]
          rfl
        obtain ⟨f', g', s', r1, r2, r3, r4, r5, K⟩ := ih (q + 1) (by omega) f2 g2 (si + 1) hF2 (fun a ha => by
          funext j
          rw [h2 a j (by omega), g0 a ha]) S2 (by omega) (fun p hp l hl => by
          by_cases z : p = q
          · subst z
            rw [he, Bool.true_and]
            refine bool_of ?_
            rw [h1 l hl, tbB_iff]
            unfold Tb
            constructor
            · rintro ⟨j, h3, h4⟩
              rw [itr_cong eG2, itr_cong eG2] at h4
              exact ⟨j, W2.1 (j + 1) h3, h4⟩
            · rintro ⟨j, h3, h4⟩
              refine ⟨j, ?_, by rw [itr_cong eG2, itr_cong eG2]; exact h4⟩
              apply Classical.byContradiction
              intro y
              exact nc (itr_pre h3 (by omega))
          · rw [h2 _ _ (by omega), u2_i z]
            exact hU p (by omega) l hl)
        exact ⟨f', g', s', r1, r2, r3, r4, r5, fun r A => bk_X12_worst_131 hm ⟨fun z => absurd z (by omega), fun _ => ⟨ob2, fun z => absurd (by rw [e33]; exact hEn) z, fun _ => ⟨f2, _, _, E, fun z => absurd z hv, fun _ => K1 r (K r A)⟩⟩⟩⟩
    · obtain ⟨f', g', s', r1, r2, r3, r4, r5, K⟩ := skip (by
        unfold enB
        rw [decide_eq_false (p := hB (f (B + 43) 2) ((q : Int) / 64)) hEn, Bool.false_and]) fi si hF hS (by omega)
      exact ⟨f', g', s', r1, r2, r3, r4, r5, fun r A => bk_X12_worst_131 hm ⟨fun z => absurd z (by omega), fun _ => ⟨ob2, fun _ => ⟨by omega, K r A⟩, fun z => absurd (by rw [e33] at z; exact z) hEn⟩⟩⟩
theorem and_two {x : BitVec 64} {a b : Nat} (ha : a < 64) (hb : b < 64) : (x &&& ((1#64 <<< a) ||| (1#64 <<< b))) = 0#64 ↔ (x.getLsbD a || x.getLsbD b) = false := by
  have e : ∀ j, (x &&& ((1#64 <<< a) ||| (1#64 <<< b))).getLsbD j = (x.getLsbD j && (decide (a = j) || decide (b = j))) := fun j => by
    rw [BitVec.getLsbD_and, BitVec.getLsbD_or, sh1_bit ha, sh1_bit hb]
  constructor
  · intro h
    have h1 := e a
    have h2 := e b
    rw [h, BitVec.getLsbD_zero] at h1 h2
    simp at h1 h2
    simp [h1, h2]
  · intro h
    refine BitVec.eq_of_getLsbD_eq fun j hj => ?_
    rw [e j, BitVec.getLsbD_zero]
    simp at h
    by_cases z : a = j
    · subst z; simp [h.1]
    · by_cases y : b = j
      · subst y; simp [h.2]
      · simp [z, y]
theorem m_290 {σ : St} {f f0 : FI} {g g0 : FL} {B a b : Nat} {n mm best i j : Int} (hm : Sh12 σ (B + 165)) (ha : a < 64) (hb : b < 64) (hU : ∀ p, p < 512 → ∀ l, l < 64 → (g (B + 165 + 25) p).getLsbD l = (enB f0 g0 B p && tbB (GB f0 g0 B 0) (p : Int) l)) : ∀ k q : Nat, q + k = 512 → ∀ r, A_X12_worst_290 σ f g (B + 165) n mm best i j ((1#64 <<< a) ||| (1#64 <<< b)) (Vh f0 g0 B a b : Nat) 512 r → A_X12_worst_290 σ f g (B + 165) n mm best i j ((1#64 <<< a) ||| (1#64 <<< b)) (fb_ct (fun q => enB f0 g0 B q && (tbB (GB f0 g0 B 0) (q : Int) a || tbB (GB f0 g0 B 0) (q : Int) b)) q : Nat) (q : Int) r := by
  intro k
  induction k with
  | zero =>
    intro q hq r A
    obtain rfl : q = 512 := by omega
    exact A
  | succ k ih =>
    intro q hq r A
    have A2 := ih (q + 1) (by omega) r A
    have hc := fb_ct_le (fun q => enB f0 g0 B q && (tbB (GB f0 g0 B 0) (q : Int) a || tbB (GB f0 g0 B 0) (q : Int) b)) q
    have eb : ((g (B + 165 + 25) q).getLsbD a || (g (B + 165 + 25) q).getLsbD b) = (enB f0 g0 B q && (tbB (GB f0 g0 B 0) (q : Int) a || tbB (GB f0 g0 B 0) (q : Int) b)) := by
      rw [hU q (by omega) a ha, hU q (by omega) b hb]
      cases enB f0 g0 B q <;> rfl
    have ez := and_two (x := g (B + 165 + 25) q) ha hb
    rw [eb] at ez
    refine bk_X12_worst_290 hm ⟨fun z => absurd z (by omega), fun _ => ⟨by omega, fun z => ⟨⟨by omega, by omega⟩, ?_⟩, fun z => ⟨⟨by omega, by omega⟩, ?_⟩⟩⟩
    · have h := ez.mp z
      rw [fb_ct_succ, h] at A2
      rw [Int.add_zero]
      exact A2
    · have h : (enB f0 g0 B q && (tbB (GB f0 g0 B 0) (q : Int) a || tbB (GB f0 g0 B 0) (q : Int) b)) = true := by
        cases h2 : (enB f0 g0 B q && (tbB (GB f0 g0 B 0) (q : Int) a || tbB (GB f0 g0 B 0) (q : Int) b))
        · exact absurd (ez.mpr h2) z
        · rfl
      rw [fb_ct_succ, if_pos h] at A2
      exact A2
/-- one pair is looked at -/
theorem m_step {σ : St} {f f0 : FI} {g g0 : FL} {B : Nat} {n mm best : Int} {i j : Nat} {S : Nat → Nat → Prop} (hm : Sh12 σ (B + 165)) (hU : ∀ p, p < 512 → ∀ l, l < 64 → (g (B + 165 + 25) p).getLsbD l = (enB f0 g0 B p && tbB (GB f0 g0 B 0) (p : Int) l)) {a b : Nat} (ha : a < 64) (hb : b < 64) (hi : i < 64) (hj : j < 64) (ea : f (B + 165 + 35) i = (a : Int)) (eb : f (B + 165 + 35) j = (b : Int)) (hBe : Be S (Vh f0 g0 B) best (f (B + 165 + 34) 0) (f (B + 165 + 34) 1)) (hS : ∀ c d, S c d → c < a ∨ (c = a ∧ d < b)) : ∃ (f' : FI) (best' : Int), Fr (fun a _ => a = B + 165 + 34) f f' ∧ Be (fun c d => S c d ∨ (c = a ∧ d = b)) (Vh f0 g0 B) best' (f' (B + 165 + 34) 0) (f' (B + 165 + 34) 1) ∧ ∀ r, A_X12_worst_245 σ f' g (B + 165) n mm best' (i : Int) ((j : Int) + 1) r → A_X12_worst_290 σ f g (B + 165) n mm best (i : Int) (j : Int) ((1#64 <<< (f (B + 165 + 35) i).toNat) ||| (1#64 <<< (f (B + 165 + 35) j).toNat)) 0 0 r := by
  rw [ea, eb, show ((a : Int)).toNat = a from rfl, show ((b : Int)).toNat = b from rfl]
  have K := m_290 (σ := σ) (f := f) (g := g) (n := n) (mm := mm) (best := best) (i := (i : Int)) (j := (j : Int)) hm ha hb hU 512 0 rfl
  obtain ⟨q1, q2⟩ := hBe.add (l := a) (o := b) hS _ rfl
  by_cases hv : ((Vh f0 g0 B a b : Nat) : Int) ≤ best
  · exact ⟨f, best, Fr.rfl', q1 hv, fun r A => K r (bk_X12_worst_290 hm ⟨fun _ => ⟨fun _ => ⟨by omega, A⟩, fun z => absurd hv z⟩, fun z => absurd (by decide) z⟩)⟩
  · refine ⟨up2 (up2 f (B + 165 + 34) 0 (a : Int)) (B + 165 + 34) 1 (b : Int), (Vh f0 g0 B a b : Nat), Fr.up (S := fun a _ => a = B + 165 + 34) (Fr.up (S := fun a _ => a = B + 165 + 34) Fr.rfl' rfl) rfl, ?_, fun r A => K r (bk_X12_worst_290 hm ⟨fun _ => ⟨fun z => absurd z hv, fun _ => ⟨⟨by omega, by omega⟩, by omega, ?_⟩⟩, fun z => absurd (by decide) z⟩)⟩
    · rw [u2_s, u2_i (by decide), u2_s]
      exact q2 hv
    · rw [show f (B + 165 + 35) ((i : Int)).toNat = (a : Int) from ea, show f (B + 165 + 35) ((j : Int)).toNat = (b : Int) from eb]
      exact A
theorem m_pick {σ : St} {f f0 : FI} {g g0 : FL} {B m : Nat} {nn : Nat → Nat} {n : Int} (hm : Sh12 σ (B + 165)) (hn : n = 1 ∨ n = 2) (hU : ∀ p, p < 512 → ∀ l, l < 64 → (g (B + 165 + 25) p).getLsbD l = (enB f0 g0 B p && tbB (GB f0 g0 B 0) (p : Int) l)) (hm64 : m ≤ 64) (hl : Lst (Lu f0 g0 B nn) (f (B + 165 + 35)) m 64) : ∀ k i : Nat, i + k = m → ∀ (fi : FI) (best : Int), Fr (fun a _ => a = B + 165 + 34) f fi → Be (fun a b => Ad (Lu f0 g0 B nn) n a b ∧ ∃ i', i' < i ∧ f (B + 165 + 35) i' = (a : Int)) (Vh f0 g0 B) best (fi (B + 165 + 34) 0) (fi (B + 165 + 34) 1) → ∃ (f' : FI) (best' : Int), Fr (fun a _ => a = B + 165 + 34) f f' ∧ Be (Ad (Lu f0 g0 B nn) n) (Vh f0 g0 B) best' (f' (B + 165 + 34) 0) (f' (B + 165 + 34) 1) ∧ A_X12_worst_223 σ fi g (B + 165) n (m : Int) best (i : Int) (il σ (up2 f' (B + 165) 54 n) g, [vI best']) := by
  obtain ⟨l1, l2, l3⟩ := hl
  intro k
  induction k with
  | zero =>
    intro i hi fi best hF hBe
    obtain rfl : i = m := by omega
    refine ⟨fi, best, hF, hBe.cong fun a b => ⟨fun z => z.1, fun z => ⟨z, ?_⟩⟩, bk_X12_worst_223 hm ⟨fun _ => rfl, fun z => absurd (by omega) z⟩⟩
    unfold Ad at z
    rcases z with z | z
    · exact l3 a (by omega) z.2.2.2
    · exact l3 a (by omega) z.2.2.2.1
  | succ k ih =>
    intro i hi fi best hF hBe
    have li := l1 i (by omega)
    obtain ⟨a, ea⟩ := Int.eq_ofNat_of_zero_le li.1
    have fa : ∀ fi : FI, Fr (fun a _ => a = B + 165 + 34) f fi → fi (B + 165 + 35) i = (a : Int) := fun fi hF => by rw [hF _ _ (by omega)]; exact ea
    have hla : Lu f0 g0 B nn a := by
      have := li.2.2
      rw [ea] at this
      exact this
    have below : ∀ c d, (Ad (Lu f0 g0 B nn) n c d ∧ ∃ i', i' < i ∧ f (B + 165 + 35) i' = (c : Int)) → c < a := fun c d ⟨_, i', h1, h2⟩ => by
      have := l2 i' i h1 (by omega)
      omega
    rcases hn with rfl | rfl
    · obtain ⟨f2, b2, F2, B2, K⟩ := m_step (σ := σ) (f := fi) (g := g) (n := 1) (mm := (m : Int)) (best := best) (i := i) (j := i) (a := a) (b := a) hm hU (by omega) (by omega) (by omega) (by omega) (fa fi hF) (fa fi hF) hBe (fun c d h => Or.inl (below c d h))
      obtain ⟨f', b', F', B', A⟩ := ih (i + 1) (by omega) f2 b2 (hF.trans F2) (B2.cong fun c d => by
        constructor
        · rintro (⟨h1, i', h2, h3⟩ | ⟨rfl, rfl⟩)
          · exact ⟨h1, i', by omega, h3⟩
          · exact ⟨Or.inl ⟨rfl, rfl, by omega, hla⟩, i, by omega, ea⟩
        · rintro ⟨h1, i', h2, h3⟩
          by_cases z : i' = i
          · subst z
            unfold Ad at h1
            exact Or.inr ⟨by omega, by omega⟩
          · exact Or.inl ⟨h1, i', by omega, h3⟩)
      refine ⟨f', b', F', B', bk_X12_worst_223 hm ⟨fun z => absurd z (by omega), fun _ => ⟨fun z => absurd rfl z, fun _ => bk_X12_worst_245 hm ⟨fun z => absurd rfl z, fun _ => ⟨by omega, fun z => absurd z (by omega), fun _ => ⟨⟨by omega, ?_, by omega, ?_⟩, K _ (bk_X12_worst_245 hm ⟨fun z => absurd rfl z, fun _ => ⟨by omega, fun _ => ⟨by omega, A⟩, fun z => absurd (by omega) z⟩⟩)⟩⟩⟩⟩⟩⟩
      · rw [show fi (B + 165 + 35) ((i : Int)).toNat = (a : Int) from fa fi hF]; omega
      · rw [show fi (B + 165 + 35) ((i : Int)).toNat = (a : Int) from fa fi hF]; omega
    · -- the second line
      have inner : ∀ k j : Nat, j + k = m → i < j → ∀ (fj : FI) (bj : Int), Fr (fun a _ => a = B + 165 + 34) f fj → Be (fun c d => Ad (Lu f0 g0 B nn) 2 c d ∧ ((∃ i', i' < i ∧ f (B + 165 + 35) i' = (c : Int)) ∨ (c = a ∧ ∃ j', j' < j ∧ f (B + 165 + 35) j' = (d : Int)))) (Vh f0 g0 B) bj (fj (B + 165 + 34) 0) (fj (B + 165 + 34) 1) → ∃ (f' : FI) (b' : Int), Fr (fun a _ => a = B + 165 + 34) f f' ∧ Be (fun c d => Ad (Lu f0 g0 B nn) 2 c d ∧ ∃ i', i' < i + 1 ∧ f (B + 165 + 35) i' = (c : Int)) (Vh f0 g0 B) b' (f' (B + 165 + 34) 0) (f' (B + 165 + 34) 1) ∧ ∀ r, A_X12_worst_223 σ f' g (B + 165) 2 (m : Int) b' ((i : Int) + 1) r → A_X12_worst_245 σ fj g (B + 165) 2 (m : Int) bj (i : Int) (j : Int) r := by
        intro k
        induction k with
        | zero =>
          intro j hj hij fj bj hFj hBj
          obtain rfl : j = m := by omega
          refine ⟨fj, bj, hFj, hBj.cong fun c d => ?_, fun r A => bk_X12_worst_245 hm ⟨fun _ => ⟨fun _ => ⟨by omega, A⟩, fun z => absurd (by omega) z⟩, fun z => absurd z (by decide)⟩⟩
          constructor
          · rintro ⟨h1, ⟨i', h2, h3⟩ | ⟨rfl, h2⟩⟩
            · exact ⟨h1, i', by omega, h3⟩
            · exact ⟨h1, i, by omega, ea⟩
          · rintro ⟨h1, i', h2, h3⟩
            refine ⟨h1, ?_⟩
            by_cases z : i' = i
            · subst z
              refine Or.inr ⟨by omega, ?_⟩
              unfold Ad at h1
              rcases h1 with h1 | h1
              · exact absurd h1.1 (by decide)
              · exact l3 d h1.2.2.1 h1.2.2.2.2
            · exact Or.inl ⟨i', by omega, h3⟩
        | succ k ihk =>
          intro j hj hij fj bj hFj hBj
          have lj := l1 j (by omega)
          obtain ⟨b, eb⟩ := Int.eq_ofNat_of_zero_le lj.1
          have hlb : Lu f0 g0 B nn b := by
            have := lj.2.2
            rw [eb] at this
            exact this
          have fb : fj (B + 165 + 35) j = (b : Int) := by rw [hFj _ _ (by omega)]; exact eb
          have lab := l2 i j hij (by omega)
          obtain ⟨f2, b2, F2, B2, K⟩ := m_step (σ := σ) (f := fj) (g := g) (n := 2) (mm := (m : Int)) (best := bj) (i := i) (j := j) (a := a) (b := b) hm hU (by omega) (by omega) (by omega) (by omega) (fa fj hFj) fb hBj (fun c d h => by
            rcases h with ⟨h1, h2 | ⟨h2, j', h3, h4⟩⟩
            · exact Or.inl (below c d ⟨h1, h2⟩)
            · have := l2 j' j h3 (by omega)
              exact Or.inr ⟨h2, by omega⟩)
          obtain ⟨f', b', F', B', A⟩ := ihk (j + 1) (by omega) (by omega) f2 b2 (hFj.trans F2) (B2.cong fun c d => by
            constructor
            · rintro (⟨h1, h2 | ⟨h2, j', h3, h4⟩⟩ | ⟨rfl, rfl⟩)
              · exact ⟨h1, Or.inl h2⟩
              · exact ⟨h1, Or.inr ⟨h2, j', by omega, h4⟩⟩
              · exact ⟨Or.inr ⟨rfl, by omega, by omega, hla, hlb⟩, Or.inr ⟨rfl, j, by omega, eb⟩⟩
            · rintro ⟨h1, h2 | ⟨h2, j', h3, h4⟩⟩
              · exact Or.inl ⟨h1, Or.inl h2⟩
              · by_cases z : j' = j
                · subst z
                  exact Or.inr ⟨h2, by omega⟩
                · exact Or.inl ⟨h1, Or.inr ⟨h2, j', by omega, h4⟩⟩)
          refine ⟨f', b', F', B', fun r Ar => bk_X12_worst_245 hm ⟨fun _ => ⟨fun z => absurd z (by omega), fun _ => ⟨⟨by omega, ?_, by omega, ?_⟩, K r (A r Ar)⟩⟩, fun z => absurd z (by decide)⟩⟩
          · rw [show fj (B + 165 + 35) ((i : Int)).toNat = (a : Int) from fa fj hFj]; omega
          · rw [show fj (B + 165 + 35) ((j : Int)).toNat = (b : Int) from fb]; omega
      obtain ⟨f2, b2, F2, B2, K⟩ := inner (m - (i + 1)) (i + 1) (by omega) (by omega) fi best hF (hBe.cong fun c d => by
        constructor
        · rintro ⟨h1, h2⟩
          exact ⟨h1, Or.inl h2⟩
        · rintro ⟨h1, h2 | ⟨h2, j', h3, h4⟩⟩
          · exact ⟨h1, h2⟩
          · exfalso
            unfold Ad at h1
            have : f (B + 165 + 35) j' ≤ f (B + 165 + 35) i := by
              by_cases z : j' = i
              · subst z; omega
              · have := l2 j' i (by omega) (by omega); omega
            omega)
      obtain ⟨f', b', F', B', A⟩ := ih (i + 1) (by omega) f2 b2 F2 B2
      exact ⟨f', b', F', B', bk_X12_worst_223 hm ⟨fun z => absurd z (by omega), fun _ => ⟨fun _ => ⟨by omega, K _ A⟩, fun z => absurd z (by decide)⟩⟩⟩
