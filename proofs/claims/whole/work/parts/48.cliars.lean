/-! liars -/
def A_X12_bits_4 (σ : St) (f : FI) (g : FL) (x1 : Int) (x2 : Int) (r : St × List Vl) : Prop := ∀ (y0 : Int), Gx mt 0 cd_X12_bits (il σ f g) (cd_X12_bits 4) [some (vI y0), some (vI x1), some (vI x2)] [] r
theorem bk_X12_bits_0 {σ : St} {f : FI} {g : FL} {x0 : Int} {r : St × List Vl}  (h : (A_X12_bits_4 σ f g 0 x0 r)) : Ex mt 0 265 (il σ f g) [vI x0] r := Ex.mk mt_265 (show Gx mt 0 cd_X12_bits (il σ f g) b_X12_bits_0 [some (vI x0), none, none] [] r from (go_pushI rfl (go_stoI rfl rfl (go_loadI rfl (go_stoI rfl rfl (go_fall (h _)))))))
theorem bk_X12_bits_4 {σ : St} {f : FI} {g : FL} {x1 : Int} {x2 : Int} {r : St × List Vl}  (h : ((x2 = 0 → (r = ((il σ f g), [vI x1]))) ∧ (¬ x2 = 0 → ((-2147483648 ≤ (x1 + 1) ∧ (x1 + 1) ≤ 2147483647) ∧ (-2147483648 ≤ (x2 - 1) ∧ (x2 - 1) ≤ 2147483647)) ∧ (A_X12_bits_4 σ f g (x1 + 1) (iAnd x2 (x2 - 1)) r)))) : A_X12_bits_4 σ f g x1 x2 r := fun y0 => (show Gx mt 0 cd_X12_bits (il σ f g) b_X12_bits_4 [some (vI y0), some (vI x1), some (vI x2)] [] r from (go_loadI rfl (gq_if_eq (fun e3 => have h1 := h.1 e3; (go_loadI rfl (h1 ▸ gq_retI))) (fun e3 => have h2 := h.2 e3; (go_iinc rfl h2.1.1 rfl (go_loadI rfl (go_loadI rfl (go_pushI rfl (go_isub h2.1.2 (go_iand rfl (go_stoI rfl rfl (go_goto (h2.2 _)))))))))))))
def A_X1_explain_2 (σ : St) (f : FI) (g : FL) (a : Nat) (x1 : Int) (x2 : Int) (r : St × List Vl) : Prop := Gx mt 1 cd_X1_explain (il σ f g) (cd_X1_explain 2) [some (vR 1 (some a)), some (vI x1), some (vI x2)] [] r
theorem bk_X1_explain_0 {σ : St} {f : FI} {g : FL} {a : Nat} {x1 : Int} {r : St × List Vl} (hs : Sh1 σ a) (h : (A_X1_explain_2 σ f g a x1 0 r)) : Ex mt 1 16 (il σ f g) [vR 1 (some a), vI x1] r := Ex.mk mt_16 (show Gx mt 1 cd_X1_explain (il σ f g) b_X1_explain_0 [some (vR 1 (some a)), some (vI x1), none] [] r from (go_pushI rfl (go_stoI rfl rfl (go_fall (h)))))
theorem bk_X1_explain_2 {σ : St} {f : FI} {g : FL} {a : Nat} {x1 : Int} {x2 : Int} {r : St × List Vl} (hs : Sh1 σ a) (h : ((64 ≤ x2 → (r = ((il σ f g), [vI 1]))) ∧ (¬ 64 ≤ x2 → ((0 ≤ x2 ∧ x2 < 64)) ∧ (((f (a + 2) ((x2).toNat)) = (f (a + 3) ((x2).toNat)) → ((-2147483648 ≤ (x2 + 1) ∧ (x2 + 1) ≤ 2147483647)) ∧ (A_X1_explain_2 σ f g a x1 (x2 + 1) r)) ∧ (¬ (f (a + 2) ((x2).toNat)) = (f (a + 3) ((x2).toNat)) → (0 ≤ x2 ∧ (-2147483648 ≤ x1 ∧ x1 ≤ 2147483647) ∧ (0 ≤ (x2 / 8) ∧ (x2 / 8) < 32)) ∧ ((((hB x1 (x2 / 8))) → ((-2147483648 ≤ (x2 + 1) ∧ (x2 + 1) ≤ 2147483647)) ∧ (A_X1_explain_2 σ f g a x1 (x2 + 1) r)) ∧ (¬ ((hB x1 (x2 / 8))) → (0 ≤ x2 ∧ (-2147483648 ≤ x1 ∧ x1 ≤ 2147483647) ∧ (0 ≤ (x2 % 8) ∧ (x2 % 8) < 32)) ∧ ((((hB x1 (x2 % 8))) → ((-2147483648 ≤ (x2 + 1) ∧ (x2 + 1) ≤ 2147483647)) ∧ (A_X1_explain_2 σ f g a x1 (x2 + 1) r)) ∧ (¬ ((hB x1 (x2 % 8))) → (r = ((il σ f g), [vI 0]))))))))))) : A_X1_explain_2 σ f g a x1 x2 r := (show Gx mt 1 cd_X1_explain (il σ f g) b_X1_explain_2 [some (vR 1 (some a)), some (vI x1), some (vI x2)] [] r from (go_loadI rfl (go_pushI rfl (gq_icmp_ge (fun e3 => have h1 := h.1 e3; (go_pushI rfl (h1 ▸ (gq_retZ ⟨by decide, by decide⟩)))) (fun e3 => have h2 := h.2 e3; (go_loadA rfl (gi_getR (Sh1.r3 hs) (go_loadI rfl (gi_iald (inl_ (Sh1.l3 hs) h2.1) (go_loadA rfl (gi_getR (Sh1.r4 hs) (go_loadI rfl (gi_iald (inl_ (Sh1.l4 hs) h2.1) (gq_icmp_eq (fun e6 => have h4 := h2.2.1 e6; (go_iinc rfl h4.1 rfl (go_goto (h4.2)))) (fun e6 => have h5 := h2.2.2 e6; (go_loadI rfl (go_loadI rfl (go_pushI rfl (go_idiv ⟨h5.1.1, by decide⟩ (go_callS rfl rfl rfl (pu_hasBit h5.1.2.1 h5.1.2.2) (go_ifb_ne (fun e9 => have h7 := h5.2.1 e9; (go_iinc rfl h7.1 rfl (go_goto (h7.2)))) (fun e9 => have h8 := h5.2.2 e9; (go_loadI rfl (go_loadI rfl (go_pushI rfl (go_irem ⟨h8.1.1, by decide⟩ (go_callS rfl rfl rfl (pu_hasBit h8.1.2.1 h8.1.2.2) (go_ifb_ne (fun e12 => have h10 := h8.2.1 e12; (go_iinc rfl h10.1 rfl (go_goto (h10.2)))) (fun e12 => have h11 := h8.2.2 e12; (go_pushI rfl (h11 ▸ (gq_retZ ⟨by decide, by decide⟩))))))))))))))))))))))))))))))))
def A_X1_fewestLiars_6 (σ : St) (f : FI) (g : FL) (a : Nat) (x1 : Int) (x2 : Int) (r : St × List Vl) : Prop := Gx mt 2 cd_X1_fewestLiars (il σ f g) (cd_X1_fewestLiars 6) [some (vR 1 (some a)), some (vI x1), some (vI x2)] [] r
theorem bk_X1_fewestLiars_0 {σ : St} {f : FI} {g : FL} {a : Nat} {r : St × List Vl} (hs : Sh1 σ a) (h : (A_X1_fewestLiars_6 σ f g a 255 0 r)) : Ex mt 2 15 (il σ f g) [vR 1 (some a)] r := Ex.mk mt_15 (show Gx mt 2 cd_X1_fewestLiars (il σ f g) b_X1_fewestLiars_0 [some (vR 1 (some a)), none, none] [] r from (go_pushI rfl (go_stoI rfl rfl (go_pushI rfl (go_stoI rfl rfl (go_fall (h)))))))
theorem bk_X1_fewestLiars_6 {σ : St} {f : FI} {g : FL} {a : Nat} {x1 : Int} {x2 : Int} {r : St × List Vl} (hs : Sh1 σ a) (h : ((255 < x2 → (r = ((il σ f g), [vI x1]))) ∧ (¬ 255 < x2 → ((0 ≤ x2 ∧ x2 < 4096) ∧ (0 ≤ x1 ∧ x1 < 4096)) ∧ (((pcI x1) ≤ (pcI x2) → ((-2147483648 ≤ (x2 + 1) ∧ (x2 + 1) ≤ 2147483647)) ∧ (A_X1_fewestLiars_6 σ f g a x1 (x2 + 1) r)) ∧ (¬ (pcI x1) ≤ (pcI x2) → (∃ (f7 : FI) (g8 : FL) (v10 : Int), Ex mt 1 16 (il σ f g) [vR 1 (some a), vI x2] ((il σ f7 g8), [vI v10]) ∧ ((v10 = 0 → ((-2147483648 ≤ (x2 + 1) ∧ (x2 + 1) ≤ 2147483647)) ∧ (A_X1_fewestLiars_6 σ f7 g8 a x1 (x2 + 1) r)) ∧ (¬ v10 = 0 → ((-2147483648 ≤ (x2 + 1) ∧ (x2 + 1) ≤ 2147483647)) ∧ (A_X1_fewestLiars_6 σ f7 g8 a x2 (x2 + 1) r))))))))) : A_X1_fewestLiars_6 σ f g a x1 x2 r := (show Gx mt 2 cd_X1_fewestLiars (il σ f g) b_X1_fewestLiars_6 [some (vR 1 (some a)), some (vI x1), some (vI x2)] [] r from (go_loadI rfl (go_pushI rfl (gq_icmp_gt (fun e3 => have h1 := h.1 e3; (go_loadI rfl (h1 ▸ gq_retI))) (fun e3 => have h2 := h.2 e3; (go_loadI rfl (go_callS rfl rfl rfl (pu_bitCountI h2.1.1) (go_loadI rfl (go_callS rfl rfl rfl (pu_bitCountI h2.1.2) (gq_icmp_ge (fun e6 => have h4 := h2.2.1 e6; (go_iinc rfl h4.1 rfl (go_goto (h4.2)))) (fun e6 => have h5 := h2.2.2 e6; (go_loadA rfl (go_loadI rfl (Exists.elim h5 fun f7 w14 => Exists.elim w14 fun g8 w15 => Exists.elim w15 fun v10 h9 => (go_callV rfl rfl rfl h9.1 (gq_if_eq (fun e13 => have h11 := h9.2.1 e13; (go_iinc rfl h11.1 rfl (go_goto (h11.2)))) (fun e13 => have h12 := h9.2.2 e13; (go_loadI rfl (go_stoI rfl rfl (go_fall (go_iinc rfl h12.1 rfl (go_goto (h12.2)))))))))))))))))))))))
theorem bk_X11_liars_0 {σ : St} {f : FI} {g : FL} {a : Nat} {r : St × List Vl} (hs : Sh11 σ a) (h : (∃ (f1 : FI) (g2 : FL) (v4 : Int), Ex mt 2 15 (il σ f g) [vR 1 (some (a + 158))] ((il σ f1 g2), [vI v4]) ∧ (r = ((il σ f1 g2), [vI v4])))) : Ex mt 3 174 (il σ f g) [vR 11 (some a)] r := Ex.mk mt_174 (show Gx mt 3 cd_X11_liars (il σ f g) b_X11_liars_0 [some (vR 11 (some a))] [] r from (go_loadA rfl (gi_getR (Sh11.r12 hs) (Exists.elim h fun f1 w5 => Exists.elim w5 fun g2 w6 => Exists.elim w6 fun v4 h3 => (go_callV rfl rfl rfl h3.1 (h3.2 ▸ gq_retI))))))
def A_X12_liars_8 (σ : St) (f : FI) (g : FL) (a : Nat) (x1 : Int) (x2 : Int) (r : St × List Vl) : Prop := ∀ (y3 : Option Vl) (y4 : Option Vl), Gx mt 1 cd_X12_liars (il σ f g) (cd_X12_liars 8) [some (vR 12 (some a)), some (vI x1), some (vI x2), y3, y4] [] r
def A_X12_liars_17 (σ : St) (f : FI) (g : FL) (a : Nat) (x1 : Int) (x2 : Int) (x3 : Int) (x4 : Int) (r : St × List Vl) : Prop := Gx mt 1 cd_X12_liars (il σ f g) (cd_X12_liars 17) [some (vR 12 (some a)), some (vI x1), some (vI x2), some (vI x3), some (vI x4)] [] r
def A_X12_liars_75 (σ : St) (f : FI) (g : FL) (a : Nat) (x1 : Int) (x2 : Int) (x4 : Int) (s0 : Int) (r : St × List Vl) : Prop := ∀ (y3 : Int), Gx mt 1 cd_X12_liars (il σ f g) (cd_X12_liars 75) [some (vR 12 (some a)), some (vI x1), some (vI x2), some (vI y3), some (vI x4)] [vI s0] r
def A_X12_liars_82 (σ : St) (f : FI) (g : FL) (a : Nat) (x1 : Int) (x2 : Int) (x3 : Int) (r : St × List Vl) : Prop := ∀ (y4 : Int), Gx mt 1 cd_X12_liars (il σ f g) (cd_X12_liars 82) [some (vR 12 (some a)), some (vI x1), some (vI x2), some (vI x3), some (vI y4)] [] r
def A_X12_liars_102 (σ : St) (f : FI) (g : FL) (a : Nat) (x2 : Int) (s0 : Int) (r : St × List Vl) : Prop := ∀ (y1 : Int) (y3 : Int) (y4 : Int), Gx mt 1 cd_X12_liars (il σ f g) (cd_X12_liars 102) [some (vR 12 (some a)), some (vI y1), some (vI x2), some (vI y3), some (vI y4)] [vI s0] r
theorem bk_X12_liars_0 {σ : St} {f : FI} {g : FL} {a : Nat} {r : St × List Vl} (hs : Sh12 σ a) (h : (A_X12_liars_8 σ f g a 255 254 r)) : Ex mt 1 279 (il σ f g) [vR 12 (some a)] r := Ex.mk mt_279 (show Gx mt 1 cd_X12_liars (il σ f g) b_X12_liars_0 [some (vR 12 (some a)), none, none, none, none] [] r from (go_pushI rfl (go_stoI rfl rfl (go_pushI rfl (go_stoI rfl rfl (go_fall (h _ _)))))))
theorem bk_X12_liars_8 {σ : St} {f : FI} {g : FL} {a : Nat} {x1 : Int} {x2 : Int} {r : St × List Vl} (hs : Sh12 σ a) (h : ((x2 < 0 → (r = ((il σ f g), [vI x1]))) ∧ (¬ x2 < 0 → (A_X12_liars_17 σ f g a x1 x2 1 0 r)))) : A_X12_liars_8 σ f g a x1 x2 r := fun y3 y4 => (show Gx mt 1 cd_X12_liars (il σ f g) b_X12_liars_8 [some (vR 12 (some a)), some (vI x1), some (vI x2), y3, y4] [] r from (go_loadI rfl (gq_if_lt (fun e3 => have h1 := h.1 e3; (go_loadI rfl (h1 ▸ gq_retI))) (fun e3 => have h2 := h.2 e3; (go_pushI rfl (go_stoI rfl rfl (go_pushI rfl (go_stoI rfl rfl (go_fall (h2))))))))))
theorem bk_X12_liars_17 {σ : St} {f : FI} {g : FL} {a : Nat} {x1 : Int} {x2 : Int} {x3 : Int} {x4 : Int} {r : St × List Vl} (hs : Sh12 σ a) (h : ((64 ≤ x4 → (A_X12_liars_82 σ f g a x1 x2 x3 r)) ∧ (¬ 64 ≤ x4 → ((x3 = 0 → (A_X12_liars_82 σ f g a x1 x2 x3 r)) ∧ (¬ x3 = 0 → ((0 ≤ x4 ∧ x4 < 64)) ∧ (((f (a + 39) ((x4).toNat)) = (f (a + 40) ((x4).toNat)) → (A_X12_liars_75 σ f g a x1 x2 x4 1 r)) ∧ (¬ (f (a + 39) ((x4).toNat)) = (f (a + 40) ((x4).toNat)) → ((-2147483648 ≤ x4 ∧ x4 ≤ 2147483647) ∧ (-2147483648 ≤ x2 ∧ x2 ≤ 2147483647) ∧ (0 ≤ (x4 / 8) ∧ (x4 / 8) < 32)) ∧ ((((x2 / p2 (x4 / 8)) % 2) = 1 → (A_X12_liars_75 σ f g a x1 x2 x4 1 r)) ∧ (¬ ((x2 / p2 (x4 / 8)) % 2) = 1 → ((-2147483648 ≤ x2 ∧ x2 ≤ 2147483647) ∧ (0 ≤ (x4 % 8) ∧ (x4 % 8) < 32)) ∧ ((¬ ((x2 / p2 (x4 % 8)) % 2) = 1 → (A_X12_liars_75 σ f g a x1 x2 x4 0 r)) ∧ (((x2 / p2 (x4 % 8)) % 2) = 1 → (A_X12_liars_75 σ f g a x1 x2 x4 1 r)))))))))))) : A_X12_liars_17 σ f g a x1 x2 x3 x4 r := (show Gx mt 1 cd_X12_liars (il σ f g) b_X12_liars_17 [some (vR 12 (some a)), some (vI x1), some (vI x2), some (vI x3), some (vI x4)] [] r from (go_loadI rfl (go_pushI rfl (gq_icmp_ge (fun e3 => have h1 := h.1 e3; (h1 _)) (fun e3 => have h2 := h.2 e3; (go_loadI rfl (gq_if_eq (fun e6 => have h4 := h2.1 e6; (h4 _)) (fun e6 => have h5 := h2.2 e6; (go_loadA rfl (gi_getR (Sh12.r58 hs) (go_loadI rfl (gi_iald (inl_ (Sh12.l58 hs) h5.1) (go_loadA rfl (gi_getR (Sh12.r59 hs) (go_loadI rfl (gi_iald (inl_ (Sh12.l59 hs) h5.1) (gq_icmp_eq (fun e9 => have h7 := h5.2.1 e9; (go_pushI rfl (go_goto (h7 _)))) (fun e9 => have h8 := h5.2.2 e9; (go_loadI rfl (go_loadI rfl (go_pushI rfl (go_ishr (iShr_3 h8.1.1) (go_ishr (iShr_v h8.1.2.1 h8.1.2.2) (go_pushI rfl (go_iand (iAnd_m1 _) (go_pushI rfl (gq_icmp_eq (fun e12 => have h10 := h8.2.1 e12; (go_pushI rfl (go_goto (h10 _)))) (fun e12 => have h11 := h8.2.2 e12; (go_loadI rfl (go_loadI rfl (go_pushI rfl (go_iand (iAnd_m7 _) (go_ishr (iShr_v h11.1.1 h11.1.2) (go_pushI rfl (go_iand (iAnd_m1 _) (go_pushI rfl (gq_icmp_ne (fun e15 => have h13 := h11.2.1 e15; (go_pushI rfl (go_fall (h13 _)))) (fun e15 => have h14 := h11.2.2 e15; (go_fall (go_pushI rfl (go_goto (h14 _))))))))))))))))))))))))))))))))))))))))))
theorem bk_X12_liars_75 {σ : St} {f : FI} {g : FL} {a : Nat} {x1 : Int} {x2 : Int} {x4 : Int} {s0 : Int} {r : St × List Vl} (hs : Sh12 σ a) (h : ((-2147483648 ≤ (x4 + 1) ∧ (x4 + 1) ≤ 2147483647)) ∧ (A_X12_liars_17 σ f g a x1 x2 s0 (x4 + 1) r)) : A_X12_liars_75 σ f g a x1 x2 x4 s0 r := fun y3 => (show Gx mt 1 cd_X12_liars (il σ f g) b_X12_liars_75 [some (vR 12 (some a)), some (vI x1), some (vI x2), some (vI y3), some (vI x4)] [vI s0] r from (go_stoI rfl rfl (go_iinc rfl h.1 rfl (go_goto (h.2)))))
theorem bk_X12_liars_82 {σ : St} {f : FI} {g : FL} {a : Nat} {x1 : Int} {x2 : Int} {x3 : Int} {r : St × List Vl} (hs : Sh12 σ a) (h : ((x3 = 0 → (A_X12_liars_102 σ f g a x2 x1 r)) ∧ (¬ x3 = 0 → (∃ (f4 : FI) (g5 : FL) (v7 : Int), Ex mt 0 265 (il σ f g) [vI x2] ((il σ f4 g5), [vI v7]) ∧ (∃ (f8 : FI) (g9 : FL) (v11 : Int), Ex mt 0 265 (il σ f4 g5) [vI x1] ((il σ f8 g9), [vI v11]) ∧ ((v11 < v7 → (A_X12_liars_102 σ f8 g9 a x2 x1 r)) ∧ (¬ v11 < v7 → (A_X12_liars_102 σ f8 g9 a x2 x2 r)))))))) : A_X12_liars_82 σ f g a x1 x2 x3 r := fun y4 => (show Gx mt 1 cd_X12_liars (il σ f g) b_X12_liars_82 [some (vR 12 (some a)), some (vI x1), some (vI x2), some (vI x3), some (vI y4)] [] r from (go_loadI rfl (gq_if_eq (fun e3 => have h1 := h.1 e3; (go_loadI rfl (go_fall (h1 _ _ _)))) (fun e3 => have h2 := h.2 e3; (go_loadI rfl (Exists.elim h2 fun f4 w17 => Exists.elim w17 fun g5 w18 => Exists.elim w18 fun v7 h6 => (go_callS rfl rfl rfl h6.1 (go_loadI rfl (Exists.elim h6.2 fun f8 w15 => Exists.elim w15 fun g9 w16 => Exists.elim w16 fun v11 h10 => (go_callS rfl rfl rfl h10.1 (gq_icmp_gt (fun e14 => have h12 := h10.2.1 e14; (go_loadI rfl (go_fall (h12 _ _ _)))) (fun e14 => have h13 := h10.2.2 e14; (go_loadI rfl (go_goto (h13 _ _ _)))))))))))))))
theorem bk_X12_liars_102 {σ : St} {f : FI} {g : FL} {a : Nat} {x2 : Int} {s0 : Int} {r : St × List Vl} (hs : Sh12 σ a) (h : ((-2147483648 ≤ (x2 + (-1)) ∧ (x2 + (-1)) ≤ 2147483647)) ∧ (A_X12_liars_8 σ f g a s0 (x2 + (-1)) r)) : A_X12_liars_102 σ f g a x2 s0 r := fun y1 y3 y4 => (show Gx mt 1 cd_X12_liars (il σ f g) b_X12_liars_102 [some (vR 12 (some a)), some (vI y1), some (vI x2), some (vI y3), some (vI y4)] [vI s0] r from (go_stoI rfl rfl (go_iinc rfl h.1 rfl (go_goto (h.2 _ _)))))
theorem sdg_clr : ∀ (n a : Nat), 0 < a → a < 2 ^ n → sdg 2 n (a &&& (a - 1)) + 1 = sdg 2 n a
  | 0, a, h, h2 => by
    have : (2 : Nat) ^ 0 = 1 := rfl
    omega
  | n + 1, a, h, h2 => by
    unfold sdg
    have e2 : (a &&& (a - 1)) / 2 = a / 2 &&& (a - 1) / 2 := Nat.and_div_two
    have e1 : (a &&& (a - 1)) % 2 = a % 2 &&& (a - 1) % 2 := Nat.and_mod_two_pow (n := 1)
    rw [e1, e2]
    rw [Nat.pow_succ] at h2
    rcases Nat.mod_two_eq_zero_or_one a with z | z
    · have z1 : (a - 1) % 2 = 1 := by omega
      have z2 : (a - 1) / 2 = a / 2 - 1 := by omega
      have ih := sdg_clr n (a / 2) (by omega) (by omega)
      rw [z, z1, z2, ← ih]
      have : (0 : Nat) &&& 1 = 0 := rfl
      omega
    · have z1 : (a - 1) % 2 = 0 := by omega
      have z2 : (a - 1) / 2 = a / 2 := by omega
      rw [z, z1, z2, Nat.and_self]
      have : (1 : Nat) &&& 0 = 0 := rfl
      omega
theorem sdg_0 : ∀ n, sdg 2 n 0 = 0
  | 0 => rfl
  | n + 1 => by
    unfold sdg
    have := sdg_0 n
    rw [show (0 : Nat) / 2 = 0 from rfl]
    omega
theorem x_bits {σ : St} {f : FI} {g : FL} {x : Int} (h : 0 ≤ x ∧ x < 4096) : Ex mt 0 265 (il σ f g) [vI x] (il σ f g, [vI (pcI x)]) := by
  have loop : ∀ (c a n : Nat), sdg 2 12 a = c → a < 4096 → n + c ≤ 100 → A_X12_bits_4 σ f g (n : Int) (a : Int) (il σ f g, [vI ((n + c : Nat) : Int)]) := by
    intro c
    induction c with
    | zero =>
      intro a n h0 ha hn
      by_cases z : a = 0
      · subst z
        exact bk_X12_bits_4 ⟨fun _ => rfl, fun z => absurd rfl z⟩
      · have := sdg_clr 12 a (by omega) (by omega)
        omega
    | succ c ih =>
      intro a n h0 ha hn
      by_cases z : a = 0
      · subst z
        rw [sdg_0] at h0
        omega
      · have e := sdg_clr 12 a (by omega) (by omega)
        have le : a &&& (a - 1) ≤ a := Nat.and_le_left
        have A := ih (a &&& (a - 1)) (n + 1) (by omega) (by omega) (by omega)
        refine bk_X12_bits_4 ⟨fun y => absurd y (by omega), fun _ => ⟨⟨by omega, by omega⟩, ?_⟩⟩
        rw [show (a : Int) - 1 = ((a - 1 : Nat) : Int) by omega, iAnd_nat (by omega) (by omega), show n + (c + 1) = n + 1 + c by omega]
        exact A
  obtain ⟨a, rfl⟩ := Int.eq_ofNat_of_zero_le h.1
  have A := loop _ a 0 rfl (by omega) (by have := sdg2_lt 12 a; omega)
  rw [Nat.zero_add] at A
  exact bk_X12_bits_0 A
/-- these boxes explain all counts that differ -/
def Exn (sd rc : Nat → Int) (S : Int) : Prop := ∀ l : Nat, l < 64 → sd l = rc l ∨ hB S ((l : Int) / 8) ∨ hB S ((l : Int) % 8)
def Bst (ok : Int → Prop) (v : Int) : Prop := (0 ≤ v ∧ v ≤ 255) ∧ ok v ∧ ∀ S, 0 ≤ S → S ≤ 255 → ok S → pcI v < pcI S ∨ (pcI v = pcI S ∧ v ≤ S)
theorem Bst.one {ok : Int → Prop} {v w : Int} (h : Bst ok v) (h2 : Bst ok w) : v = w := by
  have a := h.2.2 w h2.1.1 h2.1.2 h2.2.1
  have b := h2.2.2 v h.1.1 h.1.2 h.2.1
  omega
theorem hB_255 : ∀ k : Nat, k < 8 → hB 255 (k : Int) := by decide
theorem Exn_255 (sd rc : Nat → Int) : Exn sd rc 255 := fun l hl => by
  have := hB_255 (l / 8) (by omega)
  exact Or.inr (Or.inl (by rw [show (l : Int) / 8 = ((l / 8 : Nat) : Int) by omega]; exact this))
set_option maxRecDepth 100000 in
theorem pcI_8 : ∀ k : Nat, k < 256 → pcI (k : Int) ≤ 8 ∧ (pcI (k : Int) = 8 → k = 255) := by decide +kernel
theorem pcI_255 : pcI 255 = 8 := by decide
theorem x_explain {σ : St} {f : FI} {g : FL} {a : Nat} {S : Int} (hs : Sh1 σ a) (hS : 0 ≤ S ∧ S ≤ 255) : ∃ v : Int, (v = 0 ∨ v = 1) ∧ (v = 1 ↔ Exn (f (a + 2)) (f (a + 3)) S) ∧ Ex mt 1 16 (il σ f g) [vR 1 (some a), vI S] (il σ f g, [vI v]) := by
  have loop : ∀ k i : Nat, i + k = 64 → (∀ l : Nat, l < i → f (a + 2) l = f (a + 3) l ∨ hB S ((l : Int) / 8) ∨ hB S ((l : Int) % 8)) → ∃ v : Int, (v = 0 ∨ v = 1) ∧ (v = 1 ↔ Exn (f (a + 2)) (f (a + 3)) S) ∧ A_X1_explain_2 σ f g a S (i : Int) (il σ f g, [vI v]) := by
    intro k
    induction k with
    | zero =>
      intro i hi hj
      obtain rfl : i = 64 := by omega
      exact ⟨1, Or.inr rfl, ⟨fun _ => hj, fun _ => rfl⟩, bk_X1_explain_2 hs ⟨fun _ => rfl, fun z => absurd (by decide) z⟩⟩
    | succ k ih =>
      intro i hi hj
      have go : (f (a + 2) i = f (a + 3) i ∨ hB S ((i : Int) / 8) ∨ hB S ((i : Int) % 8)) → ∃ v : Int, (v = 0 ∨ v = 1) ∧ (v = 1 ↔ Exn (f (a + 2)) (f (a + 3)) S) ∧ A_X1_explain_2 σ f g a S ((i : Int) + 1) (il σ f g, [vI v]) := fun h => ih (i + 1) (by omega) fun l hl => by
        by_cases z : l = i
        · subst z; exact h
        · exact hj l (by omega)
      by_cases h1 : f (a + 2) i = f (a + 3) i
      · obtain ⟨v, v1, v2, A⟩ := go (Or.inl h1)
        exact ⟨v, v1, v2, bk_X1_explain_2 hs ⟨fun z => absurd z (by omega), fun _ => ⟨by omega, fun _ => ⟨by omega, A⟩, fun z => absurd h1 z⟩⟩⟩
      · by_cases h2 : hB S ((i : Int) / 8)
        · obtain ⟨v, v1, v2, A⟩ := go (Or.inr (Or.inl h2))
          exact ⟨v, v1, v2, bk_X1_explain_2 hs ⟨fun z => absurd z (by omega), fun _ => ⟨by omega, fun z => absurd z h1, fun _ => ⟨⟨by omega, by omega, by omega⟩, fun _ => ⟨by omega, A⟩, fun z => absurd h2 z⟩⟩⟩⟩
        · by_cases h3 : hB S ((i : Int) % 8)
          · obtain ⟨v, v1, v2, A⟩ := go (Or.inr (Or.inr h3))
            exact ⟨v, v1, v2, bk_X1_explain_2 hs ⟨fun z => absurd z (by omega), fun _ => ⟨by omega, fun z => absurd z h1, fun _ => ⟨⟨by omega, by omega, by omega⟩, fun z => absurd z h2, fun _ => ⟨⟨by omega, by omega, by omega⟩, fun _ => ⟨by omega, A⟩, fun z => absurd h3 z⟩⟩⟩⟩⟩
          · exact ⟨0, Or.inl rfl, ⟨fun z => absurd z (by decide), fun z => absurd (z i (by omega)) (fun y => y.elim h1 fun y => y.elim h2 h3)⟩, bk_X1_explain_2 hs ⟨fun z => absurd z (by omega), fun _ => ⟨by omega, fun z => absurd z h1, fun _ => ⟨⟨by omega, by omega, by omega⟩, fun z => absurd z h2, fun _ => ⟨⟨by omega, by omega, by omega⟩, fun z => absurd z h3, fun _ => rfl⟩⟩⟩⟩⟩
  obtain ⟨v, v1, v2, A⟩ := loop 64 0 rfl fun l hl => absurd hl (Nat.not_lt_zero l)
  exact ⟨v, v1, v2, bk_X1_explain_0 hs A⟩
theorem x_fewest {σ : St} {f : FI} {g : FL} {a : Nat} (hs : Sh1 σ a) : ∃ v : Int, Bst (Exn (f (a + 2)) (f (a + 3))) v ∧ Ex mt 2 15 (il σ f g) [vR 1 (some a)] (il σ f g, [vI v]) := by
  have loop : ∀ k i : Nat, i + k = 256 → ∀ b : Nat, b ≤ 255 → (b = 255 ∨ b < i) → Exn (f (a + 2)) (f (a + 3)) b → (∀ S : Nat, S < i → Exn (f (a + 2)) (f (a + 3)) S → pcI b < pcI S ∨ (pcI b = pcI S ∧ b ≤ S)) → ∃ v : Int, Bst (Exn (f (a + 2)) (f (a + 3))) v ∧ A_X1_fewestLiars_6 σ f g a (b : Int) (i : Int) (il σ f g, [vI v]) := by
    intro k
    induction k with
    | zero =>
      intro i hi b hb hb2 hok hj
      obtain rfl : i = 256 := by omega
      refine ⟨b, ⟨by omega, hok, fun S h1 h2 h3 => ?_⟩, bk_X1_fewestLiars_6 hs ⟨fun _ => rfl, fun z => absurd (by decide) z⟩⟩
      obtain ⟨s, rfl⟩ := Int.eq_ofNat_of_zero_le h1
      have := hj s (by omega) h3
      omega
    | succ k ih =>
      intro i hi b hb hb2 hok hj
      have p1 := pcI_8 i (by omega)
      have p2 := pcI_8 b (by omega)
      by_cases h1 : pcI (b : Int) ≤ pcI (i : Int)
      · obtain ⟨v, hv, A⟩ := ih (i + 1) (by omega) b hb (by omega) hok fun S hS hx => by
          by_cases z : S = i
          · subst z
            rcases hb2 with z | z
            · subst z
              have : pcI ((255 : Nat) : Int) = 8 := pcI_255
              omega
            · omega
          · exact hj S (by omega) hx
        exact ⟨v, hv, bk_X1_fewestLiars_6 hs ⟨fun z => absurd z (by omega), fun _ => ⟨⟨by omega, by omega⟩, fun _ => ⟨by omega, A⟩, fun z => absurd h1 z⟩⟩⟩
      · obtain ⟨u, u1, u2, E⟩ := x_explain (f := f) (g := g) (S := (i : Int)) hs (by omega)
        rcases u1 with rfl | rfl
        · obtain ⟨v, hv, A⟩ := ih (i + 1) (by omega) b hb (by omega) hok fun S hS hx => by
            by_cases z : S = i
            · subst z
              exact absurd (u2.mpr hx) (by decide)
            · exact hj S (by omega) hx
          exact ⟨v, hv, bk_X1_fewestLiars_6 hs ⟨fun z => absurd z (by omega), fun _ => ⟨⟨by omega, by omega⟩, fun z => absurd z h1, fun _ => ⟨f, g, _, E, fun _ => ⟨by omega, A⟩, fun z => absurd rfl z⟩⟩⟩⟩
        · obtain ⟨v, hv, A⟩ := ih (i + 1) (by omega) i (by omega) (by omega) (u2.mp rfl) fun S hS hx => by
            by_cases z : S = i
            · subst z
              exact Or.inr ⟨rfl, Nat.le_refl _⟩
            · have := hj S (by omega) hx
              omega
          exact ⟨v, hv, bk_X1_fewestLiars_6 hs ⟨fun z => absurd z (by omega), fun _ => ⟨⟨by omega, by omega⟩, fun z => absurd z h1, fun _ => ⟨f, g, _, E, fun z => absurd z (by decide), fun _ => ⟨by omega, A⟩⟩⟩⟩⟩
  obtain ⟨v, hv, A⟩ := loop 256 0 rfl 255 (by omega) (Or.inl rfl) (Exn_255 _ _) fun S hS => absurd hS (Nat.not_lt_zero S)
  exact ⟨v, hv, bk_X1_fewestLiars_0 hs A⟩
theorem x_liarsM {σ : St} {f : FI} {g : FL} {M : Nat} (hm : Sh12 σ M) : ∃ v : Int, Bst (Exn (f (M + 39)) (f (M + 40))) v ∧ Ex mt 1 279 (il σ f g) [vR 12 (some M)] (il σ f g, [vI v]) := by
  have inner : ∀ (S b : Int) (r : St × List Vl), (0 ≤ S ∧ S ≤ 255) → (Exn (f (M + 39)) (f (M + 40)) S → A_X12_liars_82 σ f g M b S 1 r) → (¬ Exn (f (M + 39)) (f (M + 40)) S → A_X12_liars_82 σ f g M b S 0 r) → A_X12_liars_17 σ f g M b S 1 0 r := by
    intro S b r hS h1 h0
    have lp : ∀ k i : Nat, i + k = 64 → (∀ l : Nat, l < i → f (M + 39) l = f (M + 40) l ∨ hB S ((l : Int) / 8) ∨ hB S ((l : Int) % 8)) → A_X12_liars_17 σ f g M b S 1 (i : Int) r := by
      intro k
      induction k with
      | zero =>
        intro i hi hj
        obtain rfl : i = 64 := by omega
        exact bk_X12_liars_17 hm ⟨fun _ => h1 hj, fun z => absurd (by decide) z⟩
      | succ k ih =>
        intro i hi hj
        have go : (f (M + 39) i = f (M + 40) i ∨ hB S ((i : Int) / 8) ∨ hB S ((i : Int) % 8)) → A_X12_liars_75 σ f g M b S (i : Int) 1 r := fun h => bk_X12_liars_75 hm ⟨by omega, ih (i + 1) (by omega) fun l hl => by
          by_cases z : l = i
          · subst z; exact h
          · exact hj l (by omega)⟩
        refine bk_X12_liars_17 hm ⟨fun z => absurd z (by omega), fun _ => ⟨fun z => absurd z (by decide), fun _ => ⟨by omega, fun z => go (Or.inl z), fun z1 => ⟨⟨by omega, by omega, by omega⟩, fun z => go (Or.inr (Or.inl z)), fun z2 => ⟨⟨by omega, by omega⟩, fun z3 => ?_, fun z => go (Or.inr (Or.inr z))⟩⟩⟩⟩⟩
        refine bk_X12_liars_75 hm ⟨by omega, ?_⟩
        have A0 := h0 fun y => (y i (by omega)).elim z1 fun y => y.elim z2 z3
        by_cases e : (64 : Int) ≤ (i : Int) + 1
        · exact bk_X12_liars_17 hm ⟨fun _ => A0, fun z => absurd e z⟩
        · exact bk_X12_liars_17 hm ⟨fun z => absurd z e, fun _ => ⟨fun _ => A0, fun z => absurd rfl z⟩⟩
    exact lp 64 0 rfl fun l hl => absurd hl (Nat.not_lt_zero l)
  have loop : ∀ k : Nat, k ≤ 255 → ∀ b : Nat, k ≤ b → b ≤ 255 → Exn (f (M + 39)) (f (M + 40)) b → (∀ S : Nat, k ≤ S → S ≤ 255 → Exn (f (M + 39)) (f (M + 40)) S → pcI b < pcI S ∨ (pcI b = pcI S ∧ b ≤ S)) → ∃ v : Int, Bst (Exn (f (M + 39)) (f (M + 40))) v ∧ A_X12_liars_8 σ f g M (b : Int) ((k : Int) - 1) (il σ f g, [vI v]) := by
    intro k
    induction k with
    | zero =>
      intro hk b hb hb2 hok hj
      refine ⟨b, ⟨by omega, hok, fun S h1 h2 h3 => ?_⟩, bk_X12_liars_8 hm ⟨fun _ => rfl, fun z => absurd (by decide) z⟩⟩
      obtain ⟨s, rfl⟩ := Int.eq_ofNat_of_zero_le h1
      have := hj s (by omega) (by omega) h3
      omega
    | succ k ih =>
      intro hk b hb hb2 hok hj
      have ek : ((k + 1 : Nat) : Int) - 1 = (k : Int) := by omega
      rw [ek]
      have E1 := x_bits (σ := σ) (f := f) (g := g) (x := (k : Int)) (by omega)
      have E2 := x_bits (σ := σ) (f := f) (g := g) (x := (b : Int)) (by omega)
      by_cases hx : Exn (f (M + 39)) (f (M + 40)) (k : Int)
      · by_cases hp : pcI (b : Int) < pcI (k : Int)
        · obtain ⟨v, hv, A⟩ := ih (by omega) b (by omega) hb2 hok fun S h1 h2 h3 => by
            by_cases z : S = k
            · subst z; exact Or.inl hp
            · exact hj S (by omega) h2 h3
          exact ⟨v, hv, bk_X12_liars_8 hm ⟨fun z => absurd z (by omega), fun _ => inner _ _ _ (by omega) (fun _ => bk_X12_liars_82 hm ⟨fun z => absurd z (by decide), fun _ => ⟨f, g, _, E1, f, g, _, E2, fun _ => bk_X12_liars_102 hm ⟨by omega, A⟩, fun z => absurd hp z⟩⟩) (fun z => absurd hx z)⟩⟩
        · obtain ⟨v, hv, A⟩ := ih (by omega) k (by omega) (by omega) hx fun S h1 h2 h3 => by
            by_cases z : S = k
            · subst z; exact Or.inr ⟨rfl, Nat.le_refl _⟩
            · have := hj S (by omega) h2 h3
              omega
          exact ⟨v, hv, bk_X12_liars_8 hm ⟨fun z => absurd z (by omega), fun _ => inner _ _ _ (by omega) (fun _ => bk_X12_liars_82 hm ⟨fun z => absurd z (by decide), fun _ => ⟨f, g, _, E1, f, g, _, E2, fun z => absurd z hp, fun _ => bk_X12_liars_102 hm ⟨by omega, A⟩⟩⟩) (fun z => absurd hx z)⟩⟩
      · obtain ⟨v, hv, A⟩ := ih (by omega) b (by omega) hb2 hok fun S h1 h2 h3 => by
          by_cases z : S = k
          · subst z; exact absurd h3 hx
          · exact hj S (by omega) h2 h3
        exact ⟨v, hv, bk_X12_liars_8 hm ⟨fun z => absurd z (by omega), fun _ => inner _ _ _ (by omega) (fun z => absurd z hx) (fun _ => bk_X12_liars_82 hm ⟨fun _ => bk_X12_liars_102 hm ⟨by omega, A⟩, fun z => absurd rfl z⟩)⟩⟩
  obtain ⟨v, hv, A⟩ := loop 255 (by omega) 255 (by omega) (by omega) (Exn_255 _ _) fun S h1 h2 h3 => by
    obtain rfl : S = 255 := by omega
    exact Or.inr ⟨rfl, Nat.le_refl _⟩
  exact ⟨v, hv, bk_X12_liars_0 hm A⟩
theorem c_liars {σ : St} {f : FI} {g : FL} {B : Nat} (hs : Sh11 σ B) (hm : Sh12 σ (B + 165)) (h : IG f B) : ∃ v : Int, Ex mt 3 174 (il σ f g) [vR 11 (some B)] (il σ f g, [vI v]) ∧ Ex mt 1 279 (il σ f g) [vR 12 (some (B + 165))] (il σ f g, [vI v]) := by
  obtain ⟨v, hv, E⟩ := x_fewest (f := f) (g := g) hs.o12
  obtain ⟨w, hw, E2⟩ := x_liarsM (f := f) (g := g) hm
  have e : ∀ S, Exn (f (B + 158 + 2)) (f (B + 158 + 3)) S ↔ Exn (f (B + 165 + 39)) (f (B + 165 + 40)) S := fun S => by
    unfold Exn
    refine forall_congr' fun l => ⟨fun z hl => ?_, fun z hl => ?_⟩
    · have := z hl
      have q := h.2 l hl
      rw [show B + 158 + 2 = B + 160 from rfl, show B + 158 + 3 = B + 161 from rfl, q.1, q.2] at this
      exact this
    · have := z hl
      have q := h.2 l hl
      rw [show B + 158 + 2 = B + 160 from rfl, show B + 158 + 3 = B + 161 from rfl, q.1, q.2]
      exact this
  have : v = w := Bst.one hv ⟨hw.1, (e w).mpr hw.2.1, fun S h1 h2 h3 => hw.2.2 S h1 h2 ((e S).mp h3)⟩
  subst this
  exact ⟨v, bk_X11_liars_0 hs ⟨f, g, _, E, rfl⟩, E2⟩
