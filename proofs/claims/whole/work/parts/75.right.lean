/-! make: right rows (class) -/
def A_X7_howManyTold_4 (σ : St) (f : FI) (g : FL) (x0 : Int) (x1 : Int) (x2 : Int) (r : St × List Vl) : Prop := Gx mt 1 cd_X7_howManyTold (il σ f g) (cd_X7_howManyTold 4) [some (vI x0), some (vI x1), some (vI x2)] [] r
theorem bk_X7_howManyTold_0 {σ : St} {f : FI} {g : FL} {x0 : Int} {r : St × List Vl}  (h : (A_X7_howManyTold_4 σ f g x0 0 0 r)) : Ex mt 1 109 (il σ f g) [vI x0] r := Ex.mk mt_109 (show Gx mt 1 cd_X7_howManyTold (il σ f g) b_X7_howManyTold_0 [some (vI x0), none, none] [] r from (go_pushI rfl (go_stoI rfl rfl (go_pushI rfl (go_stoI rfl rfl (go_fall (h)))))))
theorem bk_X7_howManyTold_4 {σ : St} {f : FI} {g : FL} {x0 : Int} {x1 : Int} {x2 : Int} {r : St × List Vl}  (h : ((3 ≤ x2 → (r = ((il σ f g), [vI x1]))) ∧ (¬ 3 ≤ x2 → (0 ≤ x0) ∧ (((tO x0 x2) = 0 → ((-2147483648 ≤ (x1 + 0) ∧ (x1 + 0) ≤ 2147483647) ∧ (-2147483648 ≤ (x2 + 1) ∧ (x2 + 1) ≤ 2147483647)) ∧ (A_X7_howManyTold_4 σ f g x0 (x1 + 0) (x2 + 1) r)) ∧ (¬ (tO x0 x2) = 0 → ((-2147483648 ≤ (x1 + 1) ∧ (x1 + 1) ≤ 2147483647) ∧ (-2147483648 ≤ (x2 + 1) ∧ (x2 + 1) ≤ 2147483647)) ∧ (A_X7_howManyTold_4 σ f g x0 (x1 + 1) (x2 + 1) r)))))) : A_X7_howManyTold_4 σ f g x0 x1 x2 r := (show Gx mt 1 cd_X7_howManyTold (il σ f g) b_X7_howManyTold_4 [some (vI x0), some (vI x1), some (vI x2)] [] r from (go_loadI rfl (go_pushI rfl (gq_icmp_ge (fun e3 => have h1 := h.1 e3; (go_loadI rfl (h1 ▸ gq_retI))) (fun e3 => have h2 := h.2 e3; (go_loadI rfl (go_loadI rfl (go_loadI rfl (go_callS rfl rfl rfl (pu_toldOf h2.1) (gq_if_eq (fun e6 => have h4 := h2.2.1 e6; (go_pushI rfl (go_fall (go_iadd h4.1.1 (go_stoI rfl rfl (go_iinc rfl h4.1.2 rfl (go_goto (h4.2)))))))) (fun e6 => have h5 := h2.2.2 e6; (go_pushI rfl (go_goto (go_iadd h5.1.1 (go_stoI rfl rfl (go_iinc rfl h5.1.2 rfl (go_goto (h5.2))))))))))))))))))
def A_X7_isOneFor_5 (σ : St) (f : FI) (g : FL) (x0 : Int) (x1 : Int) (x2 : Nat) (x3 : Int) (x4 : Int) (r : St × List Vl) : Prop := ∀ (y5 : Option Vl), Gx mt 2 cd_X7_isOneFor (il σ f g) (cd_X7_isOneFor 5) [some (vI x0), some (vI x1), some (vR 14 (some x2)), some (vI x3), some (vI x4), y5] [] r
theorem bk_X7_isOneFor_0 {σ : St} {f : FI} {g : FL} {x0 : Int} {x1 : Int} {x2 : Nat} {r : St × List Vl}  (h : (A_X7_isOneFor_5 σ f g x0 x1 x2 (-1) 0 r)) : Ex mt 2 111 (il σ f g) [vI x0, vI x1, vR 14 (some x2)] r := Ex.mk mt_111 (show Gx mt 2 cd_X7_isOneFor (il σ f g) b_X7_isOneFor_0 [some (vI x0), some (vI x1), some (vR 14 (some x2)), none, none, none] [] r from (go_pushI rfl (go_stoI rfl rfl (go_pushI rfl (go_stoI rfl rfl (go_fall (h _)))))))
theorem bk_X7_isOneFor_5 {σ : St} {f : FI} {g : FL} {x0 : Int} {x1 : Int} {x2 : Nat} {x3 : Int} {x4 : Int} {r : St × List Vl}  (h : ((64 ≤ x4 → (r = ((il σ f g), [vI 1]))) ∧ (¬ 64 ≤ x4 → (Stat σ f ∧ (0 ≤ x0 ∧ x0 ≤ 124) ∧ (0 ≤ x4 ∧ x4 < 64)) ∧ ((¬ ((matP x0 x4)) → ((-2147483648 ≤ (x4 + 1) ∧ (x4 + 1) ≤ 2147483647)) ∧ (A_X7_isOneFor_5 σ f g x0 x1 x2 x3 (x4 + 1) r)) ∧ (((matP x0 x4)) → ((0 ≤ x4 ∧ x4 < (ln σ x2 : Int)) ∧ Stat σ f ∧ (-2147483648 ≤ (f x2 ((x4).toNat)) ∧ (f x2 ((x4).toNat)) ≤ 2147483647) ∧ (0 ≤ x1 ∧ x1 < 4)) ∧ ((x3 = (-1) → ((-2147483648 ≤ (x4 + 1) ∧ (x4 + 1) ≤ 2147483647)) ∧ (A_X7_isOneFor_5 σ f g x0 x1 x2 (vO (f x2 ((x4).toNat)) x1) (x4 + 1) r)) ∧ (¬ x3 = (-1) → ((x3 = (vO (f x2 ((x4).toNat)) x1) → ((-2147483648 ≤ (x4 + 1) ∧ (x4 + 1) ≤ 2147483647)) ∧ (A_X7_isOneFor_5 σ f g x0 x1 x2 (vO (f x2 ((x4).toNat)) x1) (x4 + 1) r)) ∧ (¬ x3 = (vO (f x2 ((x4).toNat)) x1) → (r = ((il σ f g), [vI 0]))))))))))) : A_X7_isOneFor_5 σ f g x0 x1 x2 x3 x4 r := fun y5 => (show Gx mt 2 cd_X7_isOneFor (il σ f g) b_X7_isOneFor_5 [some (vI x0), some (vI x1), some (vR 14 (some x2)), some (vI x3), some (vI x4), y5] [] r from (go_loadI rfl (go_pushI rfl (gq_icmp_ge (fun e3 => have h1 := h.1 e3; (go_pushI rfl (h1 ▸ (gq_retZ ⟨by decide, by decide⟩)))) (fun e3 => have h2 := h.2 e3; (go_loadI rfl (go_loadI rfl (go_callS rfl rfl rfl (pu_isMatch h2.1.1 h2.1.2.1 h2.1.2.2) (go_ifb_eq (fun e6 => have h4 := h2.2.1 e6; (go_iinc rfl h4.1 rfl (go_goto (h4.2 _)))) (fun e6 => have h5 := h2.2.2 e6; (go_loadA rfl (go_loadI rfl (gi_iald h5.1.1 (go_loadI rfl (go_callS rfl rfl rfl (pu_valueOf h5.1.2.1 h5.1.2.2.1 h5.1.2.2.2) (go_stoI rfl rfl (go_loadI rfl (go_pushI rfl (gq_icmp_eq (fun e9 => have h7 := h5.2.1 e9; (go_loadI rfl (go_stoI rfl rfl (go_fall (go_iinc rfl h7.1 rfl (go_goto (h7.2 _))))))) (fun e9 => have h8 := h5.2.2 e9; (go_loadI rfl (go_loadI rfl (gq_icmp_eq (fun e12 => have h10 := h8.1 e12; (go_loadI rfl (go_stoI rfl rfl (go_fall (go_iinc rfl h10.1 rfl (go_goto (h10.2 _))))))) (fun e12 => have h11 := h8.2 e12; (go_pushI rfl (h11 ▸ (gq_retZ ⟨by decide, by decide⟩)))))))))))))))))))))))))))
def A_X7_staysFor_2 (σ : St) (f : FI) (g : FL) (x0 : Int) (x1 : Int) (x2 : Nat) (x3 : Int) (r : St × List Vl) : Prop := Gx mt 2 cd_X7_staysFor (il σ f g) (cd_X7_staysFor 2) [some (vI x0), some (vI x1), some (vR 14 (some x2)), some (vI x3)] [] r
theorem bk_X7_staysFor_0 {σ : St} {f : FI} {g : FL} {x0 : Int} {x1 : Int} {x2 : Nat} {r : St × List Vl}  (h : (A_X7_staysFor_2 σ f g x0 x1 x2 0 r)) : Ex mt 2 112 (il σ f g) [vI x0, vI x1, vR 14 (some x2)] r := Ex.mk mt_112 (show Gx mt 2 cd_X7_staysFor (il σ f g) b_X7_staysFor_0 [some (vI x0), some (vI x1), some (vR 14 (some x2)), none] [] r from (go_pushI rfl (go_stoI rfl rfl (go_fall (h)))))
theorem bk_X7_staysFor_2 {σ : St} {f : FI} {g : FL} {x0 : Int} {x1 : Int} {x2 : Nat} {x3 : Int} {r : St × List Vl}  (h : ((64 ≤ x3 → (r = ((il σ f g), [vI 1]))) ∧ (¬ 64 ≤ x3 → (Stat σ f ∧ (0 ≤ x0 ∧ x0 ≤ 124) ∧ (0 ≤ x3 ∧ x3 < 64)) ∧ ((¬ ((matP x0 x3)) → ((-2147483648 ≤ (x3 + 1) ∧ (x3 + 1) ≤ 2147483647)) ∧ (A_X7_staysFor_2 σ f g x0 x1 x2 (x3 + 1) r)) ∧ (((matP x0 x3)) → ((0 ≤ x3 ∧ x3 < (ln σ x2 : Int)) ∧ Stat σ f ∧ (-2147483648 ≤ (f x2 ((x3).toNat)) ∧ (f x2 ((x3).toNat)) ≤ 2147483647) ∧ (0 ≤ x1 ∧ x1 < 4) ∧ (-2147483648 ≤ x3 ∧ x3 ≤ 2147483647)) ∧ (((vO (f x2 ((x3).toNat)) x1) = (vO x3 x1) → ((-2147483648 ≤ (x3 + 1) ∧ (x3 + 1) ≤ 2147483647)) ∧ (A_X7_staysFor_2 σ f g x0 x1 x2 (x3 + 1) r)) ∧ (¬ (vO (f x2 ((x3).toNat)) x1) = (vO x3 x1) → (r = ((il σ f g), [vI 0]))))))))) : A_X7_staysFor_2 σ f g x0 x1 x2 x3 r := (show Gx mt 2 cd_X7_staysFor (il σ f g) b_X7_staysFor_2 [some (vI x0), some (vI x1), some (vR 14 (some x2)), some (vI x3)] [] r from (go_loadI rfl (go_pushI rfl (gq_icmp_ge (fun e3 => have h1 := h.1 e3; (go_pushI rfl (h1 ▸ (gq_retZ ⟨by decide, by decide⟩)))) (fun e3 => have h2 := h.2 e3; (go_loadI rfl (go_loadI rfl (go_callS rfl rfl rfl (pu_isMatch h2.1.1 h2.1.2.1 h2.1.2.2) (go_ifb_eq (fun e6 => have h4 := h2.2.1 e6; (go_iinc rfl h4.1 rfl (go_goto (h4.2)))) (fun e6 => have h5 := h2.2.2 e6; (go_loadA rfl (go_loadI rfl (gi_iald h5.1.1 (go_loadI rfl (go_callS rfl rfl rfl (pu_valueOf h5.1.2.1 h5.1.2.2.1 h5.1.2.2.2.1) (go_loadI rfl (go_loadI rfl (go_callS rfl rfl rfl (pu_valueOf h5.1.2.1 h5.1.2.2.2.2 h5.1.2.2.2.1) (gq_icmp_eq (fun e9 => have h7 := h5.2.1 e9; (go_iinc rfl h7.1 rfl (go_goto (h7.2)))) (fun e9 => have h8 := h5.2.2 e9; (go_pushI rfl (h8 ▸ (gq_retZ ⟨by decide, by decide⟩)))))))))))))))))))))))
def A_X7_rightRow_11 (σ : St) (f : FI) (g : FL) (x0 : Int) (x1 : Nat) (x2 : Int) (x3 : Int) (x4 : Int) (x5 : Int) (x6 : Int) (r : St × List Vl) : Prop := ∀ (y7 : Option Vl) (y8 : Option Vl), Gx mt 3 cd_X7_rightRow (il σ f g) (cd_X7_rightRow 11) [some (vI x0), some (vR 14 (some x1)), some (vI x2), some (vI x3), some (vI x4), some (vI x5), some (vI x6), y7, y8] [] r
def A_X7_rightRow_40 (σ : St) (f : FI) (g : FL) (x0 : Int) (x1 : Nat) (x2 : Int) (x4 : Int) (x5 : Int) (x6 : Int) (s0 : Int) (r : St × List Vl) : Prop := ∀ (y3 : Int) (y7 : Option Vl) (y8 : Option Vl), Gx mt 3 cd_X7_rightRow (il σ f g) (cd_X7_rightRow 40) [some (vI x0), some (vR 14 (some x1)), some (vI x2), some (vI y3), some (vI x4), some (vI x5), some (vI x6), y7, y8] [vI s0] r
def A_X7_rightRow_56 (σ : St) (f : FI) (g : FL) (x0 : Int) (x1 : Nat) (x2 : Int) (x3 : Int) (x5 : Int) (x6 : Int) (s0 : Int) (s1 : Int) (r : St × List Vl) : Prop := ∀ (y4 : Int) (y7 : Option Vl) (y8 : Option Vl), Gx mt 3 cd_X7_rightRow (il σ f g) (cd_X7_rightRow 56) [some (vI x0), some (vR 14 (some x1)), some (vI x2), some (vI x3), some (vI y4), some (vI x5), some (vI x6), y7, y8] [vI s1, vI s0] r
def A_X7_rightRow_74 (σ : St) (f : FI) (g : FL) (x0 : Int) (x1 : Nat) (x2 : Int) (x3 : Int) (x4 : Int) (x6 : Int) (s0 : Int) (s1 : Int) (r : St × List Vl) : Prop := ∀ (y5 : Int) (y7 : Option Vl) (y8 : Option Vl), Gx mt 3 cd_X7_rightRow (il σ f g) (cd_X7_rightRow 74) [some (vI x0), some (vR 14 (some x1)), some (vI x2), some (vI x3), some (vI x4), some (vI y5), some (vI x6), y7, y8] [vI s1, vI s0] r
def A_X7_rightRow_113 (σ : St) (f : FI) (g : FL) (x0 : Int) (x1 : Nat) (x2 : Int) (x3 : Int) (x6 : Int) (x7 : Int) (r : St × List Vl) : Prop := ∀ (y4 : Int) (y5 : Int) (y8 : Option Vl), Gx mt 3 cd_X7_rightRow (il σ f g) (cd_X7_rightRow 113) [some (vI x0), some (vR 14 (some x1)), some (vI x2), some (vI x3), some (vI y4), some (vI y5), some (vI x6), some (vI x7), y8] [] r
def A_X7_rightRow_145 (σ : St) (f : FI) (g : FL) (x0 : Int) (x1 : Nat) (x2 : Int) (x3 : Int) (x6 : Int) (x7 : Int) (x8 : Int) (r : St × List Vl) : Prop := ∀ (y4 : Int) (y5 : Int), Gx mt 3 cd_X7_rightRow (il σ f g) (cd_X7_rightRow 145) [some (vI x0), some (vR 14 (some x1)), some (vI x2), some (vI x3), some (vI y4), some (vI y5), some (vI x6), some (vI x7), some (vI x8)] [] r
def A_X7_rightRow_175 (σ : St) (f : FI) (g : FL) (x2 : Int) (x3 : Int) (x6 : Int) (r : St × List Vl) : Prop := ∀ (y0 : Int) (y1 : Option Nat) (y4 : Int) (y5 : Int) (y7 : Int) (y8 : Option Vl), Gx mt 3 cd_X7_rightRow (il σ f g) (cd_X7_rightRow 175) [some (vI y0), some (vR 14 y1), some (vI x2), some (vI x3), some (vI y4), some (vI y5), some (vI x6), some (vI y7), y8] [] r
theorem bk_X7_rightRow_0 {σ : St} {f : FI} {g : FL} {x0 : Int} {x1 : Nat} {x2 : Int} {r : St × List Vl}  (h : (A_X7_rightRow_11 σ f g x0 x1 x2 (-1) 0 0 0 r)) : Ex mt 3 110 (il σ f g) [vI x0, vR 14 (some x1), vI x2] r := Ex.mk mt_110 (show Gx mt 3 cd_X7_rightRow (il σ f g) b_X7_rightRow_0 [some (vI x0), some (vR 14 (some x1)), some (vI x2), none, none, none, none, none, none] [] r from (go_pushI rfl (go_stoI rfl rfl (go_pushI rfl (go_stoI rfl rfl (go_pushI rfl (go_stoI rfl rfl (go_pushI rfl (go_stoI rfl rfl (go_fall (h _ _)))))))))))
theorem bk_X7_rightRow_11 {σ : St} {f : FI} {g : FL} {x0 : Int} {x1 : Nat} {x2 : Int} {x3 : Int} {x4 : Int} {x5 : Int} {x6 : Int} {r : St × List Vl}  (h : ((64 ≤ x6 → ((¬ x4 = 0 → ((0 < x5 → (r = ((il σ f g), [vI (-1)]))) ∧ (¬ 0 < x5 → (∃ (f10 : FI) (g11 : FL) (v13 : Int), Ex mt 2 111 (il σ f g) [vI x0, vI 3, vR 14 (some x1)] ((il σ f10 g11), [vI v13]) ∧ ((¬ v13 = 0 → (A_X7_rightRow_113 σ f10 g11 x0 x1 x2 x3 0 0 r)) ∧ (v13 = 0 → (r = ((il σ f10 g11), [vI (-1)])))))))) ∧ (x4 = 0 → (r = ((il σ f g), [vI 9]))))) ∧ (¬ 64 ≤ x6 → (Stat σ f ∧ (0 ≤ x0 ∧ x0 ≤ 124) ∧ (0 ≤ x6 ∧ x6 < 64)) ∧ ((¬ ((matP x0 x6)) → ((-2147483648 ≤ (x6 + 1) ∧ (x6 + 1) ≤ 2147483647)) ∧ (A_X7_rightRow_11 σ f g x0 x1 x2 x3 x4 x5 (x6 + 1) r)) ∧ (((matP x0 x6)) → ((¬ x4 = 0 → (A_X7_rightRow_40 σ f g x0 x1 x2 x4 x5 x6 x3 r)) ∧ (x4 = 0 → ((0 ≤ x6 ∧ x6 < (ln σ x1 : Int))) ∧ (A_X7_rightRow_40 σ f g x0 x1 x2 x4 x5 x6 (f x1 ((x6).toNat)) r)))))))) : A_X7_rightRow_11 σ f g x0 x1 x2 x3 x4 x5 x6 r := fun y7 y8 => (show Gx mt 3 cd_X7_rightRow (il σ f g) b_X7_rightRow_11 [some (vI x0), some (vR 14 (some x1)), some (vI x2), some (vI x3), some (vI x4), some (vI x5), some (vI x6), y7, y8] [] r from (go_loadI rfl (go_pushI rfl (gq_icmp_ge (fun e3 => have h1 := h.1 e3; (go_loadI rfl (gq_if_ne (fun e6 => have h4 := h1.1 e6; (go_loadI rfl (gq_if_gt (fun e9 => have h7 := h4.1 e9; (go_pushI rfl (h7 ▸ gq_retI))) (fun e9 => have h8 := h4.2 e9; (go_loadI rfl (go_pushI rfl (go_loadA rfl (Exists.elim h8 fun f10 w17 => Exists.elim w17 fun g11 w18 => Exists.elim w18 fun v13 h12 => (go_callS rfl rfl rfl h12.1 (gq_if_ne (fun e16 => have h14 := h12.2.1 e16; (go_pushI rfl (go_stoI rfl rfl (go_pushI rfl (go_stoI rfl rfl (go_fall (h14 _ _ _))))))) (fun e16 => have h15 := h12.2.2 e16; (go_fall (go_pushI rfl (h15 ▸ gq_retI)))))))))))))) (fun e6 => have h5 := h1.2 e6; (go_pushI rfl (h5 ▸ gq_retI)))))) (fun e3 => have h2 := h.2 e3; (go_loadI rfl (go_loadI rfl (go_callS rfl rfl rfl (pu_isMatch h2.1.1 h2.1.2.1 h2.1.2.2) (go_ifb_eq (fun e21 => have h19 := h2.2.1 e21; (go_iinc rfl h19.1 rfl (go_goto (h19.2 _ _)))) (fun e21 => have h20 := h2.2.2 e21; (go_loadI rfl (gq_if_ne (fun e24 => have h22 := h20.1 e24; (go_loadI rfl (go_fall (h22 _ _ _)))) (fun e24 => have h23 := h20.2 e24; (go_loadA rfl (go_loadI rfl (gi_iald h23.1 (go_goto (h23.2 _ _ _))))))))))))))))))
theorem bk_X7_rightRow_40 {σ : St} {f : FI} {g : FL} {x0 : Int} {x1 : Nat} {x2 : Int} {x4 : Int} {x5 : Int} {x6 : Int} {s0 : Int} {r : St × List Vl}  (h : ((0 ≤ x6 ∧ x6 < (ln σ x1 : Int))) ∧ ((¬ (f x1 ((x6).toNat)) = (-1) → (A_X7_rightRow_56 σ f g x0 x1 x2 s0 x5 x6 x4 1 r)) ∧ ((f x1 ((x6).toNat)) = (-1) → (A_X7_rightRow_56 σ f g x0 x1 x2 s0 x5 x6 x4 0 r)))) : A_X7_rightRow_40 σ f g x0 x1 x2 x4 x5 x6 s0 r := fun y3 y7 y8 => (show Gx mt 3 cd_X7_rightRow (il σ f g) b_X7_rightRow_40 [some (vI x0), some (vR 14 (some x1)), some (vI x2), some (vI y3), some (vI x4), some (vI x5), some (vI x6), y7, y8] [vI s0] r from (go_stoI rfl rfl (go_loadI rfl (go_loadA rfl (go_loadI rfl (gi_iald h.1 (go_pushI rfl (gq_icmp_ne (fun e3 => have h1 := h.2.1 e3; (go_pushI rfl (go_fall (h1 _ _ _)))) (fun e3 => have h2 := h.2.2 e3; (go_pushI rfl (go_goto (h2 _ _ _))))))))))))
theorem bk_X7_rightRow_56 {σ : St} {f : FI} {g : FL} {x0 : Int} {x1 : Nat} {x2 : Int} {x3 : Int} {x5 : Int} {x6 : Int} {s0 : Int} {s1 : Int} {r : St × List Vl}  (h : ((-2147483648 ≤ (s0 + s1) ∧ (s0 + s1) ≤ 2147483647) ∧ (0 ≤ x6 ∧ x6 < (ln σ x1 : Int))) ∧ ((¬ (f x1 ((x6).toNat)) = (-1) → (A_X7_rightRow_74 σ f g x0 x1 x2 x3 (s0 + s1) x6 x5 0 r)) ∧ ((f x1 ((x6).toNat)) = (-1) → (A_X7_rightRow_74 σ f g x0 x1 x2 x3 (s0 + s1) x6 x5 1 r)))) : A_X7_rightRow_56 σ f g x0 x1 x2 x3 x5 x6 s0 s1 r := fun y4 y7 y8 => (show Gx mt 3 cd_X7_rightRow (il σ f g) b_X7_rightRow_56 [some (vI x0), some (vR 14 (some x1)), some (vI x2), some (vI x3), some (vI y4), some (vI x5), some (vI x6), y7, y8] [vI s1, vI s0] r from (go_iadd h.1.1 (go_stoI rfl rfl (go_loadI rfl (go_loadA rfl (go_loadI rfl (gi_iald h.1.2 (go_pushI rfl (gq_icmp_ne (fun e3 => have h1 := h.2.1 e3; (go_pushI rfl (go_fall (h1 _ _ _)))) (fun e3 => have h2 := h.2.2 e3; (go_pushI rfl (go_goto (h2 _ _ _)))))))))))))
theorem bk_X7_rightRow_74 {σ : St} {f : FI} {g : FL} {x0 : Int} {x1 : Nat} {x2 : Int} {x3 : Int} {x4 : Int} {x6 : Int} {s0 : Int} {s1 : Int} {r : St × List Vl}  (h : ((-2147483648 ≤ (s0 + s1) ∧ (s0 + s1) ≤ 2147483647)) ∧ ((-2147483648 ≤ (x6 + 1) ∧ (x6 + 1) ≤ 2147483647)) ∧ (A_X7_rightRow_11 σ f g x0 x1 x2 x3 x4 (s0 + s1) (x6 + 1) r)) : A_X7_rightRow_74 σ f g x0 x1 x2 x3 x4 x6 s0 s1 r := fun y5 y7 y8 => (show Gx mt 3 cd_X7_rightRow (il σ f g) b_X7_rightRow_74 [some (vI x0), some (vR 14 (some x1)), some (vI x2), some (vI x3), some (vI x4), some (vI y5), some (vI x6), y7, y8] [vI s1, vI s0] r from (go_iadd h.1 (go_stoI rfl rfl (go_fall (go_iinc rfl h.2.1 rfl (go_goto (h.2.2 _ _)))))))
theorem bk_X7_rightRow_113 {σ : St} {f : FI} {g : FL} {x0 : Int} {x1 : Nat} {x2 : Int} {x3 : Int} {x6 : Int} {x7 : Int} {r : St × List Vl}  (h : ((3 ≤ x7 → (A_X7_rightRow_175 σ f g x2 x3 x6 r)) ∧ (¬ 3 ≤ x7 → (∃ (f4 : FI) (g5 : FL) (v7 : Int), Ex mt 2 112 (il σ f g) [vI x0, vI x7, vR 14 (some x1)] ((il σ f4 g5), [vI v7]) ∧ ((¬ v7 = 0 → (A_X7_rightRow_145 σ f4 g5 x0 x1 x2 x3 x6 x7 v7 r)) ∧ (v7 = 0 → (∃ (f11 : FI) (g12 : FL) (v14 : Int), Ex mt 2 111 (il σ f4 g5) [vI x0, vI x7, vR 14 (some x1)] ((il σ f11 g12), [vI v14]) ∧ ((¬ v14 = 0 → (A_X7_rightRow_145 σ f11 g12 x0 x1 x2 x3 x6 x7 v7 r)) ∧ (v14 = 0 → (r = ((il σ f11 g12), [vI (-1)]))))))))))) : A_X7_rightRow_113 σ f g x0 x1 x2 x3 x6 x7 r := fun y4 y5 y8 => (show Gx mt 3 cd_X7_rightRow (il σ f g) b_X7_rightRow_113 [some (vI x0), some (vR 14 (some x1)), some (vI x2), some (vI x3), some (vI y4), some (vI y5), some (vI x6), some (vI x7), y8] [] r from (go_loadI rfl (go_pushI rfl (gq_icmp_ge (fun e3 => have h1 := h.1 e3; (h1 _ _ _ _ _ _)) (fun e3 => have h2 := h.2 e3; (go_loadI rfl (go_loadI rfl (go_loadA rfl (Exists.elim h2 fun f4 w20 => Exists.elim w20 fun g5 w21 => Exists.elim w21 fun v7 h6 => (go_callS rfl rfl rfl h6.1 (go_stoI rfl rfl (go_loadI rfl (gq_if_ne (fun e10 => have h8 := h6.2.1 e10; (h8 _ _)) (fun e10 => have h9 := h6.2.2 e10; (go_loadI rfl (go_loadI rfl (go_loadA rfl (Exists.elim h9 fun f11 w18 => Exists.elim w18 fun g12 w19 => Exists.elim w19 fun v14 h13 => (go_callS rfl rfl rfl h13.1 (gq_if_ne (fun e17 => have h15 := h13.2.1 e17; (h15 _ _)) (fun e17 => have h16 := h13.2.2 e17; (go_pushI rfl (h16 ▸ gq_retI)))))))))))))))))))))))
theorem bk_X7_rightRow_145 {σ : St} {f : FI} {g : FL} {x0 : Int} {x1 : Nat} {x2 : Int} {x3 : Int} {x6 : Int} {x7 : Int} {x8 : Int} {r : St × List Vl}  (h : ((-2147483648 ≤ (5 * x6) ∧ (5 * x6) ≤ 2147483647)) ∧ ((x8 = 0 → (Stat σ f ∧ (-2147483648 ≤ x3 ∧ x3 ≤ 2147483647) ∧ (0 ≤ x7 ∧ x7 < 4) ∧ (-2147483648 ≤ (1 + (vO x3 x7)) ∧ (1 + (vO x3 x7)) ≤ 2147483647)) ∧ ((-2147483648 ≤ ((5 * x6) + (1 + (vO x3 x7))) ∧ ((5 * x6) + (1 + (vO x3 x7))) ≤ 2147483647) ∧ (-2147483648 ≤ (x7 + 1) ∧ (x7 + 1) ≤ 2147483647)) ∧ (A_X7_rightRow_113 σ f g x0 x1 x2 x3 ((5 * x6) + (1 + (vO x3 x7))) (x7 + 1) r)) ∧ (¬ x8 = 0 → ((-2147483648 ≤ ((5 * x6) + 0) ∧ ((5 * x6) + 0) ≤ 2147483647) ∧ (-2147483648 ≤ (x7 + 1) ∧ (x7 + 1) ≤ 2147483647)) ∧ (A_X7_rightRow_113 σ f g x0 x1 x2 x3 ((5 * x6) + 0) (x7 + 1) r)))) : A_X7_rightRow_145 σ f g x0 x1 x2 x3 x6 x7 x8 r := fun y4 y5 => (show Gx mt 3 cd_X7_rightRow (il σ f g) b_X7_rightRow_145 [some (vI x0), some (vR 14 (some x1)), some (vI x2), some (vI x3), some (vI y4), some (vI y5), some (vI x6), some (vI x7), some (vI x8)] [] r from (go_pushI rfl (go_loadI rfl (go_imul h.1 (go_loadI rfl (gq_if_eq (fun e3 => have h1 := h.2.1 e3; (go_pushI rfl (go_loadI rfl (go_loadI rfl (go_callS rfl rfl rfl (pu_valueOf h1.1.1 h1.1.2.1 h1.1.2.2.1) (go_iadd h1.1.2.2.2 (go_fall (go_iadd h1.2.1.1 (go_stoI rfl rfl (go_iinc rfl h1.2.1.2 rfl (go_goto (h1.2.2 _ _ _)))))))))))) (fun e3 => have h2 := h.2.2 e3; (go_pushI rfl (go_goto (go_iadd h2.1.1 (go_stoI rfl rfl (go_iinc rfl h2.1.2 rfl (go_goto (h2.2 _ _ _))))))))))))))
theorem bk_X7_rightRow_175 {σ : St} {f : FI} {g : FL} {x2 : Int} {x3 : Int} {x6 : Int} {r : St × List Vl}  (h : (Stat σ f ∧ (-2147483648 ≤ x3 ∧ x3 ≤ 2147483647) ∧ (0 ≤ (3 : Int) ∧ (3 : Int) < 4) ∧ (-2147483648 ≤ (16 * x6) ∧ (16 * x6) ≤ 2147483647)) ∧ ((¬ (vO x3 3) = x2 → ((-2147483648 ≤ ((16 * x6) + (vO x3 3)) ∧ ((16 * x6) + (vO x3 3)) ≤ 2147483647)) ∧ (r = ((il σ f g), [vI ((16 * x6) + (vO x3 3))]))) ∧ ((vO x3 3) = x2 → ((-2147483648 ≤ ((16 * x6) + 8) ∧ ((16 * x6) + 8) ≤ 2147483647)) ∧ (r = ((il σ f g), [vI ((16 * x6) + 8)]))))) : A_X7_rightRow_175 σ f g x2 x3 x6 r := fun y0 y1 y4 y5 y7 y8 => (show Gx mt 3 cd_X7_rightRow (il σ f g) b_X7_rightRow_175 [some (vI y0), some (vR 14 y1), some (vI x2), some (vI x3), some (vI y4), some (vI y5), some (vI x6), some (vI y7), y8] [] r from (go_loadI rfl (go_pushI rfl (go_callS rfl rfl rfl (pu_valueOf h.1.1 h.1.2.1 h.1.2.2.1) (go_stoI rfl rfl (go_pushI rfl (go_loadI rfl (go_imul h.1.2.2.2 (go_loadI rfl (go_loadI rfl (gq_icmp_ne (fun e3 => have h1 := h.2.1 e3; (go_loadI rfl (go_fall (go_iadd h1.1 (h1.2 ▸ gq_retI))))) (fun e3 => have h2 := h.2.2 e3; (go_pushI rfl (go_goto (go_iadd h2.1 (h2.2 ▸ gq_retI))))))))))))))))
def StP (O : Nat → Int) (m fl : Int) : Prop := ∀ p : Nat, p < 64 → matP m (p : Int) → vO (O p) fl = vO (p : Int) fl
def OnP (O : Nat → Int) (m fl : Int) : Prop := ∀ p q : Nat, p < 64 → q < 64 → matP m (p : Int) → matP m (q : Int) → vO (O p) fl = vO (O q) fl
/-- the first outcome that is some -/
def FiP (O : Nat → Int) (m F : Int) : Prop := ∃ p : Nat, p < 64 ∧ matP m (p : Int) ∧ ¬ O p = -1 ∧ F = O p ∧ ∀ q : Nat, q < p → matP m (q : Int) → O q = -1
def ChP (O : Nat → Int) (m F fl c : Int) : Prop := (StP O m fl ∧ c = 0) ∨ (¬ StP O m fl ∧ OnP O m fl ∧ c = 1 + vO F fl)
/-- a row that is right for a match -/
def Rgt (O : Nat → Int) (b m s t : Int) : Prop := ((∀ p : Nat, p < 64 → matP m (p : Int) → O p = -1) ∧ s = 0 ∧ t = 9) ∨ ∃ F c0 c1 c2 : Int, FiP O m F ∧ (∀ p : Nat, p < 64 → matP m (p : Int) → ¬ O p = -1) ∧ OnP O m 3 ∧ ChP O m F 0 c0 ∧ ChP O m F 1 c1 ∧ ChP O m F 2 c2 ∧ s = 25 * c0 + 5 * c1 + c2 ∧ t = if vO F 3 = b then 8 else vO F 3
theorem FiP.one {O : Nat → Int} {m F F' : Int} (h : FiP O m F) (h' : FiP O m F') : F = F' := by
  obtain ⟨p, p1, p2, p3, p4, p5⟩ := h
  obtain ⟨q, q1, q2, q3, q4, q5⟩ := h'
  rcases Nat.lt_trichotomy p q with z | z | z
  · exact absurd (q5 p z p2) p3
  · subst z; rw [p4, q4]
  · exact absurd (p5 q z q2) q3
theorem ChP.one {O : Nat → Int} {m F fl c c' : Int} (h : ChP O m F fl c) (h' : ChP O m F fl c') : c = c' := by
  rcases h with ⟨a1, a2⟩ | ⟨a1, a2, a3⟩ <;> rcases h' with ⟨b1, b2⟩ | ⟨b1, b2, b3⟩
  · omega
  · exact absurd a1 b1
  · exact absurd b1 a1
  · omega
theorem ChP.rg {O : Nat → Int} {m F fl c : Int} (h : ChP O m F fl c) (hf : fl = 0 ∨ fl = 1 ∨ fl = 2) : 0 ≤ c ∧ c ≤ 4 := by
  have := vO_rg F fl
  have := vO_lt F fl hf
  rcases h with ⟨a1, a2⟩ | ⟨a1, a2, a3⟩ <;> omega
theorem Rgt.one {O : Nat → Int} {b m s t s' t' : Int} (h : Rgt O b m s t) (h' : Rgt O b m s' t') : s = s' ∧ t = t' := by
  rcases h with ⟨a1, a2, a3⟩ | ⟨F, c0, c1, c2, a1, a2, a3, a4, a5, a6, a7, a8⟩ <;> rcases h' with ⟨b1, b2, b3⟩ | ⟨F', d0, d1, d2, b1, b2, b3, b4, b5, b6, b7, b8⟩
  · omega
  · obtain ⟨p, p1, p2, p3, -⟩ := b1
    exact absurd (a1 p p1 p2) p3
  · obtain ⟨p, p1, p2, p3, -⟩ := a1
    exact absurd (b1 p p1 p2) p3
  · obtain rfl := a1.one b1
    obtain rfl := a4.one b4
    obtain rfl := a5.one b5
    obtain rfl := a6.one b6
    exact ⟨by rw [a7, b7], by rw [a8, b8]⟩
theorem Rgt.rg {O : Nat → Int} {b m s t : Int} (h : Rgt O b m s t) : (0 ≤ s ∧ s ≤ 124) ∧ (0 ≤ t ∧ t ≤ 9) := by
  rcases h with ⟨a1, a2, a3⟩ | ⟨F, c0, c1, c2, a1, a2, a3, a4, a5, a6, a7, a8⟩
  · omega
  · have := a4.rg (by decide)
    have := a5.rg (by decide)
    have := a6.rg (by decide)
    have := vO_rg F 3
    refine ⟨by omega, ?_⟩
    rw [a8]
    split <;> omega
/-- how many fields a match tells -/
def tld (m : Int) : Int := (if m / 25 = 0 then 0 else 1) + (if m / 5 % 5 = 0 then 0 else 1) + (if m % 5 = 0 then 0 else 1)
theorem x_howManyTold {σ : St} {f : FI} {g : FL} {m : Int} (hm : 0 ≤ m ∧ m ≤ 124) : Ex mt 1 109 (il σ f g) [vI m] (il σ f g, [vI (tld m)]) := by
  have stp : ∀ (x k : Int) (z : St × List Vl), (k = 0 ∨ k = 1 ∨ k = 2) → (0 ≤ x ∧ x < 10) → A_X7_howManyTold_4 σ f g m (x + (if tO m k = 0 then 0 else 1)) (k + 1) z → A_X7_howManyTold_4 σ f g m x k z := fun x k z hk hx A => by
    refine bk_X7_howManyTold_4 ⟨fun y => absurd y (by omega), fun _ => ⟨by omega, fun y => ⟨⟨by omega, by omega⟩, ?_⟩, fun y => ⟨⟨by omega, by omega⟩, ?_⟩⟩⟩
    · rw [if_pos y] at A; exact A
    · rw [if_neg y] at A; exact A
  refine bk_X7_howManyTold_0 (stp 0 0 _ (Or.inl rfl) (by omega) (stp _ _ _ (Or.inr (Or.inl rfl)) (by split <;> omega) (stp _ _ _ (Or.inr (Or.inr rfl)) (by split <;> split <;> omega) (bk_X7_howManyTold_4 ⟨fun _ => ?_, fun y => absurd (by decide) y⟩))))
  unfold tld
  rw [show tO m 0 = m / 25 from rfl, show tO m (0 + 1) = m / 5 % 5 from rfl, show tO m (0 + 1 + 1) = m % 5 from rfl, Int.zero_add]
def Outs (O : Nat → Int) : Prop := ∀ p : Nat, p < 64 → O p = -1 ∨ (0 ≤ O p ∧ O p < 512)
theorem x_isOneFor {σ : St} {f : FI} {g : FL} {w : Nat} {m fl : Int} (hS : Stat σ f) (hm : 0 ≤ m ∧ m ≤ 124) (hf : 0 ≤ fl ∧ fl < 4) (hl : ln σ w = 64) (hO : Outs (f w)) : ∃ v : Int, (v = 0 ∨ v = 1) ∧ (v = 1 ↔ OnP (f w) m fl) ∧ Ex mt 2 111 (il σ f g) [vI m, vI fl, vR 14 (some w)] (il σ f g, [vI v]) := by
  have loop : ∀ k i : Nat, i + k = 64 → ∀ one : Int, ((one = -1 ∧ ∀ p : Nat, p < i → ¬ matP m (p : Int)) ∨ ((∃ p : Nat, p < i ∧ matP m (p : Int)) ∧ 0 ≤ one ∧ ∀ p : Nat, p < i → matP m (p : Int) → vO (f w p) fl = one)) → ∃ v : Int, (v = 0 ∨ v = 1) ∧ (v = 1 ↔ OnP (f w) m fl) ∧ A_X7_isOneFor_5 σ f g m fl w one (i : Int) (il σ f g, [vI v]) := by
    intro k
    induction k with
    | zero =>
      intro i hi one h1
      obtain rfl : i = 64 := by omega
      refine ⟨1, Or.inr rfl, ⟨fun _ p q hp hq mp mq => ?_, fun _ => rfl⟩, bk_X7_isOneFor_5 ⟨fun _ => rfl, fun z => absurd (by decide) z⟩⟩
      rcases h1 with ⟨_, h2⟩ | ⟨_, _, h2⟩
      · exact absurd mp (h2 p hp)
      · rw [h2 p hp mp, h2 q hq mq]
    | succ k ih =>
      intro i hi one h1
      by_cases z : matP m (i : Int)
      · have oi := hO i (by omega)
        have vr := vO_rg (f w i) fl
        have ob : ((0 : Int) ≤ (i : Int) ∧ (i : Int) < (ln σ w : Int)) ∧ Stat σ f ∧ (-2147483648 ≤ f w i ∧ f w i ≤ 2147483647) ∧ (0 ≤ fl ∧ fl < 4) := ⟨by rw [hl]; omega, hS, by omega, hf⟩
        by_cases ok : one = -1 ∨ one = vO (f w i) fl
        · obtain ⟨v, v1, v2, A⟩ := ih (i + 1) (by omega) (vO (f w i) fl) (Or.inr ⟨⟨i, by omega, z⟩, by omega, fun p hp mp => by
            by_cases y : p = i
            · subst y; rfl
            · rcases h1 with ⟨_, h2⟩ | ⟨_, h3, h2⟩
              · exact absurd mp (h2 p (by omega))
              · rw [h2 p (by omega) mp]
                rcases ok with y | y
                · omega
                · exact y⟩)
          exact ⟨v, v1, v2, bk_X7_isOneFor_5 ⟨fun y => absurd y (by omega), fun _ => ⟨⟨hS, hm, by omega⟩, fun y => absurd z y, fun _ => ⟨ob, fun _ => ⟨by omega, A⟩, fun y => ⟨fun _ => ⟨by omega, A⟩, fun x => absurd (ok.resolve_left y) x⟩⟩⟩⟩⟩
        · refine ⟨0, Or.inl rfl, ⟨fun y => absurd y (by decide), fun y => ?_⟩, bk_X7_isOneFor_5 ⟨fun y => absurd y (by omega), fun _ => ⟨⟨hS, hm, by omega⟩, fun y => absurd z y, fun _ => ⟨ob, fun y => absurd (Or.inl y) ok, fun _ => ⟨fun x => absurd (Or.inr x) ok, fun _ => rfl⟩⟩⟩⟩⟩
          rcases h1 with ⟨h2, _⟩ | ⟨⟨p, h2, h3⟩, _, h4⟩
          · exact absurd (Or.inl h2) ok
          · exact absurd (Or.inr (by rw [← h4 p h2 h3]; exact y p i (by omega) (by omega) h3 z)) ok
      · obtain ⟨v, v1, v2, A⟩ := ih (i + 1) (by omega) one (by
          rcases h1 with ⟨h2, h3⟩ | ⟨⟨p, h2, h3⟩, h4, h5⟩
          · refine Or.inl ⟨h2, fun p hp => ?_⟩
            by_cases y : p = i
            · subst y; exact z
            · exact h3 p (by omega)
          · refine Or.inr ⟨⟨p, by omega, h3⟩, h4, fun q hq mq => ?_⟩
            by_cases y : q = i
            · subst y; exact absurd mq z
            · exact h5 q (by omega) mq)
        exact ⟨v, v1, v2, bk_X7_isOneFor_5 ⟨fun y => absurd y (by omega), fun _ => ⟨⟨hS, hm, by omega⟩, fun _ => ⟨by omega, A⟩, fun y => absurd y z⟩⟩⟩
  obtain ⟨v, v1, v2, A⟩ := loop 64 0 rfl (-1) (Or.inl ⟨rfl, fun p hp => absurd hp (Nat.not_lt_zero p)⟩)
  exact ⟨v, v1, v2, bk_X7_isOneFor_0 A⟩
theorem x_staysFor {σ : St} {f : FI} {g : FL} {w : Nat} {m fl : Int} (hS : Stat σ f) (hm : 0 ≤ m ∧ m ≤ 124) (hf : 0 ≤ fl ∧ fl < 4) (hl : ln σ w = 64) (hO : Outs (f w)) : ∃ v : Int, (v = 0 ∨ v = 1) ∧ (v = 1 ↔ StP (f w) m fl) ∧ Ex mt 2 112 (il σ f g) [vI m, vI fl, vR 14 (some w)] (il σ f g, [vI v]) := by
  have loop : ∀ k i : Nat, i + k = 64 → (∀ p : Nat, p < i → matP m (p : Int) → vO (f w p) fl = vO (p : Int) fl) → ∃ v : Int, (v = 0 ∨ v = 1) ∧ (v = 1 ↔ StP (f w) m fl) ∧ A_X7_staysFor_2 σ f g m fl w (i : Int) (il σ f g, [vI v]) := by
    intro k
    induction k with
    | zero =>
      intro i hi h1
      obtain rfl : i = 64 := by omega
      exact ⟨1, Or.inr rfl, ⟨fun _ => h1, fun _ => rfl⟩, bk_X7_staysFor_2 ⟨fun _ => rfl, fun z => absurd (by decide) z⟩⟩
    | succ k ih =>
      intro i hi h1
      by_cases z : matP m (i : Int)
      · have oi := hO i (by omega)
        have ob : ((0 : Int) ≤ (i : Int) ∧ (i : Int) < (ln σ w : Int)) ∧ Stat σ f ∧ (-2147483648 ≤ f w i ∧ f w i ≤ 2147483647) ∧ (0 ≤ fl ∧ fl < 4) ∧ (-2147483648 ≤ (i : Int) ∧ (i : Int) ≤ 2147483647) := ⟨by rw [hl]; omega, hS, by omega, hf, by omega⟩
        by_cases ok : vO (f w i) fl = vO (i : Int) fl
        · obtain ⟨v, v1, v2, A⟩ := ih (i + 1) (by omega) (fun p hp mp => by
            by_cases y : p = i
            · subst y; exact ok
            · exact h1 p (by omega) mp)
          exact ⟨v, v1, v2, bk_X7_staysFor_2 ⟨fun y => absurd y (by omega), fun _ => ⟨⟨hS, hm, by omega⟩, fun y => absurd z y, fun _ => ⟨ob, fun _ => ⟨by omega, A⟩, fun y => absurd ok y⟩⟩⟩⟩
        · exact ⟨0, Or.inl rfl, ⟨fun y => absurd y (by decide), fun y => absurd (y i (by omega) z) ok⟩, bk_X7_staysFor_2 ⟨fun y => absurd y (by omega), fun _ => ⟨⟨hS, hm, by omega⟩, fun y => absurd z y, fun _ => ⟨ob, fun y => absurd y ok, fun _ => rfl⟩⟩⟩⟩
      · obtain ⟨v, v1, v2, A⟩ := ih (i + 1) (by omega) (fun p hp mp => by
          by_cases y : p = i
          · subst y; exact absurd mp z
          · exact h1 p (by omega) mp)
        exact ⟨v, v1, v2, bk_X7_staysFor_2 ⟨fun y => absurd y (by omega), fun _ => ⟨⟨hS, hm, by omega⟩, fun _ => ⟨by omega, A⟩, fun y => absurd y z⟩⟩⟩
  obtain ⟨v, v1, v2, A⟩ := loop 64 0 rfl (fun p hp => absurd hp (Nat.not_lt_zero p))
  exact ⟨v, v1, v2, bk_X7_staysFor_0 A⟩
/-- what is told of the row for a match: with k as the factor of what it sets -/
def RgV (O : Nat → Int) (b m k v : Int) : Prop := (v = -1 ∧ ∀ s t, ¬ Rgt O b m s t) ∨ ∃ s t, Rgt O b m s t ∧ v = k * s + t
theorem x_rightRow {σ : St} {f : FI} {g : FL} {w : Nat} {m b : Int} (hS : Stat σ f) (hm : 0 ≤ m ∧ m ≤ 124) (hl : ln σ w = 64) (hO : Outs (f w)) : ∃ v : Int, RgV (f w) b m 16 v ∧ Ex mt 3 110 (il σ f g) [vI m, vR 14 (some w), vI b] (il σ f g, [vI v]) := by
  -- one field
  have fld : ∀ (F c fl : Int), (fl = 0 ∨ fl = 1 ∨ fl = 2) → (0 ≤ F ∧ F < 512) → (0 ≤ c ∧ c ≤ 24) → ((∃ d, ChP (f w) m F fl d ∧ (0 ≤ d ∧ d ≤ 4) ∧ ∀ z, A_X7_rightRow_113 σ f g m w b F (5 * c + d) (fl + 1) z → A_X7_rightRow_113 σ f g m w b F c fl z) ∨ ((∀ d, ¬ ChP (f w) m F fl d) ∧ A_X7_rightRow_113 σ f g m w b F c fl (il σ f g, [vI (-1)]))) := fun F c fl hfl hF hc => by
    obtain ⟨v, v1, v2, E1⟩ := x_staysFor (σ := σ) (f := f) (g := g) (w := w) (m := m) (fl := fl) hS hm (by omega) hl hO
    obtain ⟨u, u1, u2, E2⟩ := x_isOneFor (σ := σ) (f := f) (g := g) (w := w) (m := m) (fl := fl) hS hm (by omega) hl hO
    have vr := vO_rg F fl
    have vl := vO_lt F fl hfl
    rcases v1 with rfl | rfl
    · have ns : ¬ StP (f w) m fl := fun z => absurd (v2.mpr z) (by decide)
      rcases u1 with rfl | rfl
      · refine Or.inr ⟨fun d hd => ?_, bk_X7_rightRow_113 ⟨fun z => absurd z (by omega), fun _ => ⟨f, g, 0, E1, fun z => absurd rfl z, fun _ => ⟨f, g, 0, E2, fun z => absurd rfl z, fun _ => rfl⟩⟩⟩⟩
        rcases hd with ⟨h1, _⟩ | ⟨_, h1, _⟩
        · exact ns h1
        · exact absurd (u2.mpr h1) (by decide)
      · refine Or.inl ⟨1 + vO F fl, Or.inr ⟨ns, u2.mp rfl, rfl⟩, by omega, fun z A => bk_X7_rightRow_113 ⟨fun y => absurd y (by omega), fun _ => ⟨f, g, 0, E1, fun y => absurd rfl y, fun _ => ⟨f, g, 1, E2, fun _ => bk_X7_rightRow_145 ⟨by omega, fun _ => ⟨⟨hS, by omega, by omega, by omega⟩, ⟨by omega, by omega⟩, A⟩, fun y => absurd rfl y⟩, fun y => absurd y (by decide)⟩⟩⟩⟩
    · refine Or.inl ⟨0, Or.inl ⟨v2.mp rfl, rfl⟩, by omega, fun z A => bk_X7_rightRow_113 ⟨fun y => absurd y (by omega), fun _ => ⟨f, g, 1, E1, fun _ => bk_X7_rightRow_145 ⟨by omega, fun y => absurd y (by decide), fun _ => ⟨⟨by omega, by omega⟩, A⟩⟩, fun y => absurd y (by decide)⟩⟩⟩
  -- behind the counts
  have fin : ∀ F so no : Int, (so = 0 ↔ ∀ p : Nat, p < 64 → matP m (p : Int) → f w p = -1) → (¬ so = 0 → FiP (f w) m F) → (no ≤ 0 ↔ ∀ p : Nat, p < 64 → matP m (p : Int) → ¬ f w p = -1) → ∃ v : Int, RgV (f w) b m 16 v ∧ A_X7_rightRow_11 σ f g m w b F so no 64 (il σ f g, [vI v]) := fun F so no h1 h2 h3 => by
    by_cases z : so = 0
    · exact ⟨9, Or.inr ⟨0, 9, Or.inl ⟨h1.mp z, rfl, rfl⟩, rfl⟩, bk_X7_rightRow_11 ⟨fun _ => ⟨fun y => absurd z y, fun _ => rfl⟩, fun y => absurd (by decide) y⟩⟩
    · have hFi := h2 z
      have n1 : ¬ ∀ p : Nat, p < 64 → matP m (p : Int) → f w p = -1 := fun y => z (h1.mpr y)
      by_cases y : 0 < no
      · refine ⟨-1, Or.inl ⟨rfl, fun s t hr => ?_⟩, bk_X7_rightRow_11 ⟨fun _ => ⟨fun _ => ⟨fun _ => rfl, fun x => absurd y x⟩, fun x => absurd x z⟩, fun x => absurd (by decide) x⟩⟩
        rcases hr with ⟨a1, _⟩ | ⟨_, _, _, _, _, a2, _⟩
        · exact n1 a1
        · have := h3.mpr a2
          omega
      · have n2 := h3.mp (by omega)
        obtain ⟨u, u1, u2, E⟩ := x_isOneFor (σ := σ) (f := f) (g := g) (w := w) (m := m) (fl := 3) hS hm (by omega) hl hO
        have FR : 0 ≤ F ∧ F < 512 := by
          obtain ⟨p, p1, p2, p3, p4, _⟩ := hFi
          have := hO p p1
          omega
        rcases u1 with rfl | rfl
        · refine ⟨-1, Or.inl ⟨rfl, fun s t hr => ?_⟩, bk_X7_rightRow_11 ⟨fun _ => ⟨fun _ => ⟨fun x => absurd x y, fun _ => ⟨f, g, 0, E, fun x => absurd rfl x, fun _ => rfl⟩⟩, fun x => absurd x z⟩, fun x => absurd (by decide) x⟩⟩
          rcases hr with ⟨a1, _⟩ | ⟨_, _, _, _, _, _, a2, _⟩
          · exact n1 a1
          · exact absurd (u2.mpr a2) (by decide)
        · -- no field may fail
          have bad : ∀ fl : Int, (fl = 0 ∨ fl = 1 ∨ fl = 2) → (∀ d, ¬ ChP (f w) m F fl d) → ∀ s t, ¬ Rgt (f w) b m s t := fun fl hfl hd s t hr => by
            rcases hr with ⟨a1, _⟩ | ⟨F', c0, c1, c2, b1, _, _, b4, b5, b6, _⟩
            · exact n1 a1
            · obtain rfl := hFi.one b1
              rcases hfl with rfl | rfl | rfl
              · exact hd _ b4
              · exact hd _ b5
              · exact hd _ b6
          have go : ∀ v : Int, A_X7_rightRow_113 σ f g m w b F 0 0 (il σ f g, [vI v]) → A_X7_rightRow_11 σ f g m w b F so no 64 (il σ f g, [vI v]) := fun v A => bk_X7_rightRow_11 ⟨fun _ => ⟨fun _ => ⟨fun x => absurd x y, fun _ => ⟨f, g, 1, E, fun _ => A, fun x => absurd x (by decide)⟩⟩, fun x => absurd x z⟩, fun x => absurd (by decide) x⟩
          rcases fld F 0 0 (Or.inl rfl) FR (by omega) with ⟨c0, q0, r0, K0⟩ | ⟨q0, A⟩
          · rcases fld F (5 * 0 + c0) (0 + 1) (Or.inr (Or.inl rfl)) FR (by omega) with ⟨c1, q1, r1, K1⟩ | ⟨q1, A⟩
            · rcases fld F (5 * (5 * 0 + c0) + c1) (0 + 1 + 1) (Or.inr (Or.inr rfl)) FR (by omega) with ⟨c2, q2, r2, K2⟩ | ⟨q2, A⟩
              · have vr := vO_rg F 3
                by_cases x : vO F 3 = b
                · refine ⟨16 * (5 * (5 * (5 * 0 + c0) + c1) + c2) + 8, Or.inr ⟨25 * c0 + 5 * c1 + c2, 8, Or.inr ⟨F, c0, c1, c2, hFi, n2, u2.mp rfl, q0, q1, q2, rfl, by rw [if_pos x]⟩, by omega⟩, go _ (K0 _ (K1 _ (K2 _ (bk_X7_rightRow_113 ⟨fun _ => bk_X7_rightRow_175 ⟨⟨hS, by omega, by omega, by omega⟩, fun q => absurd x q, fun _ => ⟨by omega, rfl⟩⟩, fun q => absurd (by decide) q⟩))))⟩
                · refine ⟨16 * (5 * (5 * (5 * 0 + c0) + c1) + c2) + vO F 3, Or.inr ⟨25 * c0 + 5 * c1 + c2, vO F 3, Or.inr ⟨F, c0, c1, c2, hFi, n2, u2.mp rfl, q0, q1, q2, rfl, by rw [if_neg x]⟩, by omega⟩, go _ (K0 _ (K1 _ (K2 _ (bk_X7_rightRow_113 ⟨fun _ => bk_X7_rightRow_175 ⟨⟨hS, by omega, by omega, by omega⟩, fun _ => ⟨by omega, rfl⟩, fun q => absurd q x⟩, fun q => absurd (by decide) q⟩))))⟩
              · exact ⟨-1, Or.inl ⟨rfl, bad _ (Or.inr (Or.inr rfl)) q2⟩, go _ (K0 _ (K1 _ A))⟩
            · exact ⟨-1, Or.inl ⟨rfl, bad _ (Or.inr (Or.inl rfl)) q1⟩, go _ (K0 _ A)⟩
          · exact ⟨-1, Or.inl ⟨rfl, bad _ (Or.inl rfl) q0⟩, go _ A⟩
  have loop : ∀ k i : Nat, i + k = 64 → ∀ F so no : Int, (0 ≤ so ∧ so ≤ i) → (0 ≤ no ∧ no ≤ i) → (so = 0 ↔ ∀ p : Nat, p < i → matP m (p : Int) → f w p = -1) → (¬ so = 0 → ∃ p : Nat, p < i ∧ matP m (p : Int) ∧ ¬ f w p = -1 ∧ F = f w p ∧ ∀ q : Nat, q < p → matP m (q : Int) → f w q = -1) → (no ≤ 0 ↔ ∀ p : Nat, p < i → matP m (p : Int) → ¬ f w p = -1) → ∃ v : Int, RgV (f w) b m 16 v ∧ A_X7_rightRow_11 σ f g m w b F so no (i : Int) (il σ f g, [vI v]) := by
    intro k
    induction k with
    | zero =>
      intro i hi F so no hs1 hn1 h1 h2 h3
      obtain rfl : i = 64 := by omega
      exact fin F so no h1 (fun z => by
        obtain ⟨p, a1, a2, a3, a4, a5⟩ := h2 z
        exact ⟨p, a1, a2, a3, a4, a5⟩) h3
    | succ k ih =>
      intro i hi F so no hs1 hn1 h1 h2 h3
      by_cases z : matP m (i : Int)
      · have lw : (0 : Int) ≤ (i : Int) ∧ (i : Int) < (ln σ w : Int) := by rw [hl]; omega
        -- the value that stands as the first
        have step : ∀ F' : Int, (¬ so = 0 → F' = F) → (so = 0 → F' = f w i) → ∃ v : Int, RgV (f w) b m 16 v ∧ A_X7_rightRow_40 σ f g m w b so no (i : Int) F' (il σ f g, [vI v]) := fun F' e1 e2 => by
          by_cases y : f w i = -1
          · obtain ⟨v, v1, A⟩ := ih (i + 1) (by omega) F' (so + 0) (no + 1) (by omega) (by omega) (by
              rw [Int.add_zero, h1]
              constructor
              · intro h p hp mp
                by_cases x : p = i
                · subst x; exact y
                · exact h p (by omega) mp
              · exact fun h p hp mp => h p (by omega) mp) (fun x => by
              rw [Int.add_zero] at x
              rw [e1 x]
              obtain ⟨p, a1, a2⟩ := h2 x
              exact ⟨p, by omega, a2⟩) ⟨fun x => by omega, fun x => absurd y (x i (by omega) z)⟩
            exact ⟨v, v1, bk_X7_rightRow_40 ⟨lw, fun x => absurd y x, fun _ => bk_X7_rightRow_56 ⟨⟨by omega, lw⟩, fun x => absurd y x, fun _ => bk_X7_rightRow_74 ⟨by omega, by omega, A⟩⟩⟩⟩
          · obtain ⟨v, v1, A⟩ := ih (i + 1) (by omega) F' (so + 1) (no + 0) (by omega) (by omega) ⟨fun x => by omega, fun x => absurd (x i (by omega) z) y⟩ (fun _ => by
              by_cases x : so = 0
              · exact ⟨i, by omega, z, y, e2 x, fun q hq mq => h1.mp x q hq mq⟩
              · rw [e1 x]
                obtain ⟨p, a1, a2⟩ := h2 x
                exact ⟨p, by omega, a2⟩) (by
              rw [Int.add_zero, h3]
              constructor
              · intro h p hp mp
                by_cases x : p = i
                · subst x; exact y
                · exact h p (by omega) mp
              · exact fun h p hp mp => h p (by omega) mp)
            exact ⟨v, v1, bk_X7_rightRow_40 ⟨lw, fun _ => bk_X7_rightRow_56 ⟨⟨by omega, lw⟩, fun _ => bk_X7_rightRow_74 ⟨by omega, by omega, A⟩, fun x => absurd x y⟩, fun x => absurd x y⟩⟩
        by_cases x : so = 0
        · obtain ⟨v, v1, A⟩ := step (f w i) (fun y => absurd x y) (fun _ => rfl)
          exact ⟨v, v1, bk_X7_rightRow_11 ⟨fun y => absurd y (by omega), fun _ => ⟨⟨hS, hm, by omega⟩, fun y => absurd z y, fun _ => ⟨fun y => absurd x y, fun _ => ⟨lw, A⟩⟩⟩⟩⟩
        · obtain ⟨v, v1, A⟩ := step F (fun _ => rfl) (fun y => absurd y x)
          exact ⟨v, v1, bk_X7_rightRow_11 ⟨fun y => absurd y (by omega), fun _ => ⟨⟨hS, hm, by omega⟩, fun y => absurd z y, fun _ => ⟨fun _ => A, fun y => absurd y x⟩⟩⟩⟩
      · obtain ⟨v, v1, A⟩ := ih (i + 1) (by omega) F so no (by omega) (by omega) (by
          rw [h1]
          constructor
          · intro h p hp mp
            by_cases x : p = i
            · subst x; exact absurd mp z
            · exact h p (by omega) mp
          · exact fun h p hp mp => h p (by omega) mp) (fun x => by
          obtain ⟨p, a1, a2⟩ := h2 x
          exact ⟨p, by omega, a2⟩) (by
          rw [h3]
          constructor
          · intro h p hp mp
            by_cases x : p = i
            · subst x; exact absurd mp z
            · exact h p (by omega) mp
          · exact fun h p hp mp => h p (by omega) mp)
        exact ⟨v, v1, bk_X7_rightRow_11 ⟨fun y => absurd y (by omega), fun _ => ⟨⟨hS, hm, by omega⟩, fun _ => ⟨by omega, A⟩, fun y => absurd y z⟩⟩⟩
  obtain ⟨v, v1, A⟩ := loop 64 0 rfl (-1) 0 0 (by omega) (by omega) ⟨fun _ p hp => absurd hp (Nat.not_lt_zero p), fun _ => rfl⟩ (fun z => absurd rfl z) ⟨fun _ p hp => absurd hp (Nat.not_lt_zero p), fun _ => by omega⟩
  exact ⟨v, v1, bk_X7_rightRow_0 A⟩
