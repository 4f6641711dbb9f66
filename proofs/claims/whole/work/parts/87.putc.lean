/-! tell: the class prints -/
theorem bk_X8_putByte_0 {σ : St} {f : FI} {g : FL} {a : Nat} {x1 : Int} {r : St × List Vl} (hs : Sh8 σ a) (h : ((200 ≤ (f a 1) → (r = ((il σ f g), []))) ∧ (¬ 200 ≤ (f a 1) → ((0 ≤ (f a 1) ∧ (f a 1) < 200) ∧ (-2147483648 ≤ ((f a 1) + 1) ∧ ((f a 1) + 1) ≤ 2147483647)) ∧ (r = ((il σ (up2 (up2 f (a + 1) (((f a 1)).toNat) x1) a 1 ((f a 1) + 1)) g), []))))) : Ex mt 0 119 (il σ f g) [vR 8 (some a), vI x1] r := Ex.mk mt_119 (show Gx mt 0 cd_X8_putByte (il σ f g) b_X8_putByte_0 [some (vR 8 (some a)), some (vI x1)] [] r from (go_loadA rfl (gi_getI (go_pushI rfl (gq_icmp_ge (fun e3 => have h1 := h.1 e3; (h1 ▸ gq_retV)) (fun e3 => have h2 := h.2 e3; (go_loadA rfl (gi_getR (Sh8.r0 hs) (go_loadA rfl (gi_getI (go_loadI rfl (gi_iast (inl_ (Sh8.l0 hs) h2.1.1) (go_loadA rfl (go_dupA (gi_getIe (u2_a (by omega)) (go_pushI rfl (go_iadd h2.1.2 (gi_putI (go_fall (h2.2 ▸ gq_retV))))))))))))))))))))
def A_X8_putAtom_36 (σ : St) (f : FI) (g : FL) (a : Nat) (x1 : Int) (x2 : Int) (x3 : Int) (r : St × List Vl) : Prop := Gx mt 1 cd_X8_putAtom (il σ f g) (cd_X8_putAtom 36) [some (vR 8 (some a)), some (vI x1), some (vI x2), some (vI x3)] [] r
def A_X8_putAtom_51 (σ : St) (f : FI) (g : FL) (a : Nat) (x1 : Int) (x2 : Int) (x3 : Int) (s0 : Nat) (s1 : Int) (r : St × List Vl) : Prop := Gx mt 1 cd_X8_putAtom (il σ f g) (cd_X8_putAtom 51) [some (vR 8 (some a)), some (vI x1), some (vI x2), some (vI x3)] [vI s1, vR 8 (some s0)] r
def A_X8_putAtom_65 (σ : St) (f : FI) (g : FL) (a : Nat) (x1 : Int) (x3 : Int) (r : St × List Vl) : Prop := ∀ (y2 : Int), Gx mt 1 cd_X8_putAtom (il σ f g) (cd_X8_putAtom 65) [some (vR 8 (some a)), some (vI x1), some (vI y2), some (vI x3)] [] r
def A_X8_putAtom_78 (σ : St) (f : FI) (g : FL) (a : Nat) (x3 : Int) (s0 : Nat) (s1 : Int) (r : St × List Vl) : Prop := ∀ (y1 : Int) (y2 : Int), Gx mt 1 cd_X8_putAtom (il σ f g) (cd_X8_putAtom 78) [some (vR 8 (some a)), some (vI y1), some (vI y2), some (vI x3)] [vI s1, vR 8 (some s0)] r
theorem bk_X8_putAtom_0 {σ : St} {f : FI} {g : FL} {a : Nat} {x1 : Int} {x2 : Int} {x3 : Int} {r : St × List Vl} (hs : Sh8 σ a) (h : ((x1 = 0 → ((¬ x1 = 0 → (∃ (f7 : FI) (g8 : FL), Ex mt 0 119 (il σ f g) [vR 8 (some a), vI 49] ((il σ f7 g8), []) ∧ (r = ((il σ f7 g8), [])))) ∧ (x1 = 0 → (∃ (f11 : FI) (g12 : FL), Ex mt 0 119 (il σ f g) [vR 8 (some a), vI 48] ((il σ f11 g12), []) ∧ (r = ((il σ f11 g12), [])))))) ∧ (¬ x1 = 0 → ((¬ x1 = 1 → ((¬ x1 = 3 → (A_X8_putAtom_36 σ f g a x1 x2 x3 r)) ∧ (x1 = 3 → (∃ (f21 : FI) (g22 : FL), Ex mt 0 119 (il σ f g) [vR 8 (some a), vI 33] ((il σ f21 g22), []) ∧ (A_X8_putAtom_36 σ f21 g22 a x1 x2 x3 r))))) ∧ (x1 = 1 → ((¬ x1 = 0 → (∃ (f28 : FI) (g29 : FL), Ex mt 0 119 (il σ f g) [vR 8 (some a), vI 49] ((il σ f28 g29), []) ∧ (r = ((il σ f28 g29), [])))) ∧ (x1 = 0 → (∃ (f32 : FI) (g33 : FL), Ex mt 0 119 (il σ f g) [vR 8 (some a), vI 48] ((il σ f32 g33), []) ∧ (r = ((il σ f32 g33), [])))))))))) : Ex mt 1 118 (il σ f g) [vR 8 (some a), vI x1, vI x2, vI x3] r := Ex.mk mt_118 (show Gx mt 1 cd_X8_putAtom (il σ f g) b_X8_putAtom_0 [some (vR 8 (some a)), some (vI x1), some (vI x2), some (vI x3)] [] r from (go_loadI rfl (gq_if_eq (fun e3 => have h1 := h.1 e3; (go_loadA rfl (go_loadI rfl (gq_if_ne (fun e6 => have h4 := h1.1 e6; (go_pushI rfl (go_fall (Exists.elim h4 fun f7 w10 => Exists.elim w10 fun g8 h9 => (go_callV rfl rfl rfl h9.1 (h9.2 ▸ gq_retV)))))) (fun e6 => have h5 := h1.2 e6; (go_pushI rfl (go_goto (Exists.elim h5 fun f11 w14 => Exists.elim w14 fun g12 h13 => (go_callV rfl rfl rfl h13.1 (h13.2 ▸ gq_retV)))))))))) (fun e3 => have h2 := h.2 e3; (go_loadI rfl (go_pushI rfl (gq_icmp_ne (fun e17 => have h15 := h2.1 e17; (go_loadI rfl (go_pushI rfl (gq_icmp_ne (fun e20 => have h18 := h15.1 e20; (h18)) (fun e20 => have h19 := h15.2 e20; (go_loadA rfl (go_pushI rfl (Exists.elim h19 fun f21 w24 => Exists.elim w24 fun g22 h23 => (go_callV rfl rfl rfl h23.1 (go_fall (h23.2))))))))))) (fun e17 => have h16 := h2.2 e17; (go_fall (go_loadA rfl (go_loadI rfl (gq_if_ne (fun e27 => have h25 := h16.1 e27; (go_pushI rfl (go_fall (Exists.elim h25 fun f28 w31 => Exists.elim w31 fun g29 h30 => (go_callV rfl rfl rfl h30.1 (h30.2 ▸ gq_retV)))))) (fun e27 => have h26 := h16.2 e27; (go_pushI rfl (go_goto (Exists.elim h26 fun f32 w35 => Exists.elim w35 fun g33 h34 => (go_callV rfl rfl rfl h34.1 (h34.2 ▸ gq_retV))))))))))))))))))
theorem bk_X8_putAtom_36 {σ : St} {f : FI} {g : FL} {a : Nat} {x1 : Int} {x2 : Int} {x3 : Int} {r : St × List Vl} (hs : Sh8 σ a) (h : ((¬ x2 = 3 → ((-2147483648 ≤ (97 + x2) ∧ (97 + x2) ≤ 2147483647)) ∧ (A_X8_putAtom_51 σ f g a x1 x2 x3 a (97 + x2) r)) ∧ (x2 = 3 → (A_X8_putAtom_51 σ f g a x1 x2 x3 a 97 r)))) : A_X8_putAtom_36 σ f g a x1 x2 x3 r := (show Gx mt 1 cd_X8_putAtom (il σ f g) b_X8_putAtom_36 [some (vR 8 (some a)), some (vI x1), some (vI x2), some (vI x3)] [] r from (go_loadA rfl (go_loadI rfl (go_pushI rfl (gq_icmp_ne (fun e3 => have h1 := h.1 e3; (go_pushI rfl (go_loadI rfl (go_iadd h1.1 (go_fall (h1.2)))))) (fun e3 => have h2 := h.2 e3; (go_pushI rfl (go_goto (h2)))))))))
theorem bk_X8_putAtom_51 {σ : St} {f : FI} {g : FL} {a : Nat} {x1 : Int} {x2 : Int} {x3 : Int} {s0 : Nat} {s1 : Int} {r : St × List Vl} (hs : Sh8 σ a) (h : (∃ (f1 : FI) (g2 : FL), Ex mt 0 119 (il σ f g) [vR 8 (some s0), vI s1] ((il σ f1 g2), []) ∧ ((¬ x2 = 3 → (A_X8_putAtom_65 σ f1 g2 a x1 x3 r)) ∧ (x2 = 3 → (∃ (f7 : FI) (g8 : FL), Ex mt 0 119 (il σ f1 g2) [vR 8 (some a), vI 116] ((il σ f7 g8), []) ∧ (A_X8_putAtom_65 σ f7 g8 a x1 x3 r)))))) : A_X8_putAtom_51 σ f g a x1 x2 x3 s0 s1 r := (show Gx mt 1 cd_X8_putAtom (il σ f g) b_X8_putAtom_51 [some (vR 8 (some a)), some (vI x1), some (vI x2), some (vI x3)] [vI s1, vR 8 (some s0)] r from (Exists.elim h fun f1 w11 => Exists.elim w11 fun g2 h3 => (go_callV rfl rfl rfl h3.1 (go_loadI rfl (go_pushI rfl (gq_icmp_ne (fun e6 => have h4 := h3.2.1 e6; (h4 _)) (fun e6 => have h5 := h3.2.2 e6; (go_loadA rfl (go_pushI rfl (Exists.elim h5 fun f7 w10 => Exists.elim w10 fun g8 h9 => (go_callV rfl rfl rfl h9.1 (go_fall (h9.2 _)))))))))))))
theorem bk_X8_putAtom_65 {σ : St} {f : FI} {g : FL} {a : Nat} {x1 : Int} {x3 : Int} {r : St × List Vl} (hs : Sh8 σ a) (h : ((¬ x1 = 4 → (A_X8_putAtom_78 σ f g a x3 a 61 r)) ∧ (x1 = 4 → (A_X8_putAtom_78 σ f g a x3 a 58 r)))) : A_X8_putAtom_65 σ f g a x1 x3 r := fun y2 => (show Gx mt 1 cd_X8_putAtom (il σ f g) b_X8_putAtom_65 [some (vR 8 (some a)), some (vI x1), some (vI y2), some (vI x3)] [] r from (go_loadA rfl (go_loadI rfl (go_pushI rfl (gq_icmp_ne (fun e3 => have h1 := h.1 e3; (go_pushI rfl (go_fall (h1 _ _)))) (fun e3 => have h2 := h.2 e3; (go_pushI rfl (go_goto (h2 _ _)))))))))
theorem bk_X8_putAtom_78 {σ : St} {f : FI} {g : FL} {a : Nat} {x3 : Int} {s0 : Nat} {s1 : Int} {r : St × List Vl} (hs : Sh8 σ a) (h : (∃ (f1 : FI) (g2 : FL), Ex mt 0 119 (il σ f g) [vR 8 (some s0), vI s1] ((il σ f1 g2), []) ∧ ((-2147483648 ≤ (48 + x3) ∧ (48 + x3) ≤ 2147483647)) ∧ (∃ (f4 : FI) (g5 : FL), Ex mt 0 119 (il σ f1 g2) [vR 8 (some a), vI (48 + x3)] ((il σ f4 g5), []) ∧ (r = ((il σ f4 g5), []))))) : A_X8_putAtom_78 σ f g a x3 s0 s1 r := fun y1 y2 => (show Gx mt 1 cd_X8_putAtom (il σ f g) b_X8_putAtom_78 [some (vR 8 (some a)), some (vI y1), some (vI y2), some (vI x3)] [vI s1, vR 8 (some s0)] r from (Exists.elim h fun f1 w8 => Exists.elim w8 fun g2 h3 => (go_callV rfl rfl rfl h3.1 (go_loadA rfl (go_pushI rfl (go_loadI rfl (go_iadd h3.2.1 (Exists.elim h3.2.2 fun f4 w7 => Exists.elim w7 fun g5 h6 => (go_callV rfl rfl rfl h6.1 (h6.2 ▸ gq_retV))))))))))
def A_X8_put_21 (d : Nat) (σ : St) (f : FI) (g : FL) (a : Nat) (x1 : Nat) (x3 : Int) (x4 : Int) (x5 : Int) (x6 : Int) (x7 : Int) (r : St × List Vl) : Prop := ∀ (y2 : Int) (y8 : Option Vl), Gx mt (d + 30) cd_X8_put (il σ f g) (cd_X8_put 21) [some (vR 8 (some a)), some (vR 9 (some x1)), some (vI y2), some (vI x3), some (vI x4), some (vI x5), some (vI x6), some (vI x7), y8] [] r
def A_X8_put_58 (d : Nat) (σ : St) (f : FI) (g : FL) (a : Nat) (x1 : Nat) (x3 : Int) (x4 : Int) (x5 : Int) (x6 : Int) (r : St × List Vl) : Prop := ∀ (y2 : Int) (y7 : Int) (y8 : Option Vl), Gx mt (d + 30) cd_X8_put (il σ f g) (cd_X8_put 58) [some (vR 8 (some a)), some (vR 9 (some x1)), some (vI y2), some (vI x3), some (vI x4), some (vI x5), some (vI x6), some (vI y7), y8] [] r
def A_X8_put_78 (d : Nat) (σ : St) (f : FI) (g : FL) (a : Nat) (x1 : Nat) (x4 : Int) (x5 : Int) (x6 : Int) (s0 : Int) (s1 : Int) (r : St × List Vl) : Prop := ∀ (y2 : Int) (y3 : Int) (y7 : Int) (y8 : Option Vl), Gx mt (d + 30) cd_X8_put (il σ f g) (cd_X8_put 78) [some (vR 8 (some a)), some (vR 9 (some x1)), some (vI y2), some (vI y3), some (vI x4), some (vI x5), some (vI x6), some (vI y7), y8] [vI s1, vI s0] r
def A_X8_put_86 (d : Nat) (σ : St) (f : FI) (g : FL) (a : Nat) (x1 : Nat) (x4 : Int) (x5 : Int) (x6 : Int) (s0 : Int) (r : St × List Vl) : Prop := ∀ (y2 : Int) (y3 : Int) (y7 : Int) (y8 : Option Vl), Gx mt (d + 30) cd_X8_put (il σ f g) (cd_X8_put 86) [some (vR 8 (some a)), some (vR 9 (some x1)), some (vI y2), some (vI y3), some (vI x4), some (vI x5), some (vI x6), some (vI y7), y8] [vI s0] r
def A_X8_put_99 (d : Nat) (σ : St) (f : FI) (g : FL) (a : Nat) (x1 : Nat) (x4 : Int) (x5 : Int) (x6 : Int) (x7 : Int) (r : St × List Vl) : Prop := ∀ (y2 : Int) (y3 : Int) (y8 : Option Vl), Gx mt (d + 30) cd_X8_put (il σ f g) (cd_X8_put 99) [some (vR 8 (some a)), some (vR 9 (some x1)), some (vI y2), some (vI y3), some (vI x4), some (vI x5), some (vI x6), some (vI x7), y8] [] r
def A_X8_put_119 (d : Nat) (σ : St) (f : FI) (g : FL) (a : Nat) (x6 : Int) (r : St × List Vl) : Prop := ∀ (y1 : Option Nat) (y2 : Int) (y3 : Int) (y4 : Int) (y5 : Int) (y7 : Int) (y8 : Option Vl), Gx mt (d + 30) cd_X8_put (il σ f g) (cd_X8_put 119) [some (vR 8 (some a)), some (vR 9 y1), some (vI y2), some (vI y3), some (vI y4), some (vI y5), some (vI x6), some (vI y7), y8] [] r
def A_X8_put_122 (d : Nat) (σ : St) (f : FI) (g : FL) (a : Nat) (x6 : Int) (x8 : Int) (r : St × List Vl) : Prop := ∀ (y1 : Option Nat) (y2 : Int) (y3 : Int) (y4 : Int) (y5 : Int) (y7 : Int), Gx mt (d + 30) cd_X8_put (il σ f g) (cd_X8_put 122) [some (vR 8 (some a)), some (vR 9 y1), some (vI y2), some (vI y3), some (vI y4), some (vI y5), some (vI x6), some (vI y7), some (vI x8)] [] r
theorem bk_X8_put_0 {σ : St} {f : FI} {g : FL} {a : Nat} {x1 : Nat} {x2 : Int} {x3 : Int} {x4 : Int} {r : St × List Vl} {d : Nat} (hs : Sh8 σ a) {c1 : Nat} (hs1 : Sh9 σ x1 c1) (h : ((40 < x4 → (r = ((il σ f g), []))) ∧ (¬ 40 < x4 → ((0 ≤ x2 → (A_X8_put_21 d σ f g a x1 x3 x4 x2 0 0 r)) ∧ (¬ 0 ≤ x2 → (r = ((il σ f g), []))))))) : Ex mt (d + 30) 116 (il σ f g) [vR 8 (some a), vR 9 (some x1), vI x2, vI x3, vI x4] r := Ex.mk mt_116 (show Gx mt (d + 30) cd_X8_put (il σ f g) b_X8_put_0 [some (vR 8 (some a)), some (vR 9 (some x1)), some (vI x2), some (vI x3), some (vI x4), none, none, none, none] [] r from (go_loadI rfl (go_pushI rfl (gq_icmp_gt (fun e3 => have h1 := h.1 e3; (h1 ▸ gq_retV)) (fun e3 => have h2 := h.2 e3; (go_loadI rfl (gq_if_ge (fun e6 => have h4 := h2.1 e6; (go_loadI rfl (go_stoI rfl rfl (go_pushI rfl (go_stoI rfl rfl (go_pushI rfl (go_stoI rfl rfl (go_fall (h4 _ _))))))))) (fun e6 => have h5 := h2.2 e6; (go_fall (h5 ▸ gq_retV))))))))))
theorem bk_X8_put_21 {σ : St} {f : FI} {g : FL} {a : Nat} {x1 : Nat} {x3 : Int} {x4 : Int} {x5 : Int} {x6 : Int} {x7 : Int} {r : St × List Vl} {d : Nat} (hs : Sh8 σ a) {c1 : Nat} (hs1 : Sh9 σ x1 c1) (h : ((200 ≤ x7 → (A_X8_put_58 d σ f g a x1 x3 x4 x5 x6 r)) ∧ (¬ 200 ≤ x7 → ((0 ≤ x5 ∧ x5 < (c1 : Int))) ∧ ((¬ (f (x1 + 1) ((x5).toNat)) = 5 → (A_X8_put_58 d σ f g a x1 x3 x4 x5 x6 r)) ∧ ((f (x1 + 1) ((x5).toNat)) = 5 → ((0 ≤ x5 ∧ x5 < (c1 : Int)) ∧ (-2147483648 ≤ (x6 + 1) ∧ (x6 + 1) ≤ 2147483647) ∧ (-2147483648 ≤ (x7 + 1) ∧ (x7 + 1) ≤ 2147483647)) ∧ (A_X8_put_21 d σ f g a x1 x3 x4 (f (x1 + 2) ((x5).toNat)) (x6 + 1) (x7 + 1) r)))))) : A_X8_put_21 d σ f g a x1 x3 x4 x5 x6 x7 r := fun y2 y8 => (show Gx mt (d + 30) cd_X8_put (il σ f g) b_X8_put_21 [some (vR 8 (some a)), some (vR 9 (some x1)), some (vI y2), some (vI x3), some (vI x4), some (vI x5), some (vI x6), some (vI x7), y8] [] r from (go_loadI rfl (go_pushI rfl (gq_icmp_ge (fun e3 => have h1 := h.1 e3; (h1 _ _ _)) (fun e3 => have h2 := h.2 e3; (go_loadA rfl (gi_getR (Sh9.r0 hs1) (go_loadI rfl (gi_iald (inl_ (Sh9.l0 hs1) h2.1) (go_pushI rfl (gq_icmp_ne (fun e6 => have h4 := h2.2.1 e6; (h4 _ _ _)) (fun e6 => have h5 := h2.2.2 e6; (go_loadA rfl (gi_getR (Sh9.r1 hs1) (go_loadI rfl (gi_iald (inl_ (Sh9.l1 hs1) h5.1.1) (go_stoI rfl rfl (go_iinc rfl h5.1.2.1 rfl (go_iinc rfl h5.1.2.2 rfl (go_goto (h5.2 _ _)))))))))))))))))))))
theorem bk_X8_put_58 {σ : St} {f : FI} {g : FL} {a : Nat} {x1 : Nat} {x3 : Int} {x4 : Int} {x5 : Int} {x6 : Int} {r : St × List Vl} {d : Nat} (hs : Sh8 σ a) {c1 : Nat} (hs1 : Sh9 σ x1 c1) (h : ((0 ≤ x5 ∧ x5 < (c1 : Int))) ∧ ((x6 ≤ 0 → (A_X8_put_78 d σ f g a x1 x4 x5 x6 (if (f (x1 + 1) ((x5).toNat)) = 7 then 0 else if (f (x1 + 1) ((x5).toNat)) = 6 then 1 else 2) x3 r)) ∧ (¬ x6 ≤ 0 → (A_X8_put_78 d σ f g a x1 x4 x5 x6 (if (f (x1 + 1) ((x5).toNat)) = 7 then 0 else if (f (x1 + 1) ((x5).toNat)) = 6 then 1 else 2) 2 r)))) : A_X8_put_58 d σ f g a x1 x3 x4 x5 x6 r := fun y2 y7 y8 => (show Gx mt (d + 30) cd_X8_put (il σ f g) b_X8_put_58 [some (vR 8 (some a)), some (vR 9 (some x1)), some (vI y2), some (vI x3), some (vI x4), some (vI x5), some (vI x6), some (vI y7), y8] [] r from (go_loadA rfl (gi_getR (Sh9.r0 hs1) (go_loadI rfl (gi_iald (inl_ (Sh9.l0 hs1) h.1) (go_callS rfl rfl (decide_eq_true (by omega)) (pu_bindingOf) (go_loadI rfl (gq_if_le (fun e3 => have h1 := h.2.1 e3; (go_loadI rfl (go_fall (h1 _ _ _ _)))) (fun e3 => have h2 := h.2.2 e3; (go_pushI rfl (go_goto (h2 _ _ _ _))))))))))))
theorem bk_X8_put_78 {σ : St} {f : FI} {g : FL} {a : Nat} {x1 : Nat} {x4 : Int} {x5 : Int} {x6 : Int} {s0 : Int} {s1 : Int} {r : St × List Vl} {d : Nat} (hs : Sh8 σ a) {c1 : Nat} (hs1 : Sh9 σ x1 c1) (h : ((s1 ≤ s0 → (A_X8_put_86 d σ f g a x1 x4 x5 x6 0 r)) ∧ (¬ s1 ≤ s0 → (A_X8_put_86 d σ f g a x1 x4 x5 x6 1 r)))) : A_X8_put_78 d σ f g a x1 x4 x5 x6 s0 s1 r := fun y2 y3 y7 y8 => (show Gx mt (d + 30) cd_X8_put (il σ f g) b_X8_put_78 [some (vR 8 (some a)), some (vR 9 (some x1)), some (vI y2), some (vI y3), some (vI x4), some (vI x5), some (vI x6), some (vI y7), y8] [vI s1, vI s0] r from (gq_icmp_ge (fun e3 => have h1 := h.1 e3; (go_pushI rfl (go_fall (h1 _ _ _ _)))) (fun e3 => have h2 := h.2 e3; (go_pushI rfl (go_goto (h2 _ _ _ _))))))
theorem bk_X8_put_86 {σ : St} {f : FI} {g : FL} {a : Nat} {x1 : Nat} {x4 : Int} {x5 : Int} {x6 : Int} {s0 : Int} {r : St × List Vl} {d : Nat} (hs : Sh8 σ a) {c1 : Nat} (hs1 : Sh9 σ x1 c1) (h : ((s0 = 0 → (A_X8_put_99 d σ f g a x1 x4 x5 x6 s0 r)) ∧ (¬ s0 = 0 → (∃ (f4 : FI) (g5 : FL), Ex mt 0 119 (il σ f g) [vR 8 (some a), vI 40] ((il σ f4 g5), []) ∧ (A_X8_put_99 d σ f4 g5 a x1 x4 x5 x6 s0 r))))) : A_X8_put_86 d σ f g a x1 x4 x5 x6 s0 r := fun y2 y3 y7 y8 => (show Gx mt (d + 30) cd_X8_put (il σ f g) b_X8_put_86 [some (vR 8 (some a)), some (vR 9 (some x1)), some (vI y2), some (vI y3), some (vI x4), some (vI x5), some (vI x6), some (vI y7), y8] [vI s0] r from (go_stoI rfl rfl (go_loadI rfl (gq_if_eq (fun e3 => have h1 := h.1 e3; (h1 _ _ _)) (fun e3 => have h2 := h.2 e3; (go_loadA rfl (go_pushI rfl (Exists.elim h2 fun f4 w7 => Exists.elim w7 fun g5 h6 => (go_callV rfl rfl (decide_eq_true (by omega)) h6.1 (go_fall (h6.2 _ _ _)))))))))))
theorem bk_X8_put_99 {σ : St} {f : FI} {g : FL} {a : Nat} {x1 : Nat} {x4 : Int} {x5 : Int} {x6 : Int} {x7 : Int} {r : St × List Vl} {d : Nat} (hs : Sh8 σ a) {c1 : Nat} (hs1 : Sh9 σ x1 c1) (h : (∃ (f1 : FI) (g2 : FL), Ex mt (d + 29) 117 (il σ f g) [vR 8 (some a), vR 9 (some x1), vI x5, vI x4] ((il σ f1 g2), []) ∧ ((x7 = 0 → (A_X8_put_119 d σ f1 g2 a x6 r)) ∧ (¬ x7 = 0 → (∃ (f7 : FI) (g8 : FL), Ex mt 0 119 (il σ f1 g2) [vR 8 (some a), vI 41] ((il σ f7 g8), []) ∧ (A_X8_put_119 d σ f7 g8 a x6 r)))))) : A_X8_put_99 d σ f g a x1 x4 x5 x6 x7 r := fun y2 y3 y8 => (show Gx mt (d + 30) cd_X8_put (il σ f g) b_X8_put_99 [some (vR 8 (some a)), some (vR 9 (some x1)), some (vI y2), some (vI y3), some (vI x4), some (vI x5), some (vI x6), some (vI x7), y8] [] r from (go_loadA rfl (go_loadA rfl (go_loadI rfl (go_loadI rfl (Exists.elim h fun f1 w11 => Exists.elim w11 fun g2 h3 => (go_callV rfl rfl (decide_eq_true (by omega)) h3.1 (go_loadI rfl (gq_if_eq (fun e6 => have h4 := h3.2.1 e6; (h4 _ _ _ _ _ _ _)) (fun e6 => have h5 := h3.2.2 e6; (go_loadA rfl (go_pushI rfl (Exists.elim h5 fun f7 w10 => Exists.elim w10 fun g8 h9 => (go_callV rfl rfl (decide_eq_true (by omega)) h9.1 (go_fall (h9.2 _ _ _ _ _ _ _))))))))))))))))
theorem bk_X8_put_119 {σ : St} {f : FI} {g : FL} {a : Nat} {x6 : Int} {r : St × List Vl} {d : Nat} (hs : Sh8 σ a) (h : (A_X8_put_122 d σ f g a x6 0 r)) : A_X8_put_119 d σ f g a x6 r := fun y1 y2 y3 y4 y5 y7 y8 => (show Gx mt (d + 30) cd_X8_put (il σ f g) b_X8_put_119 [some (vR 8 (some a)), some (vR 9 y1), some (vI y2), some (vI y3), some (vI y4), some (vI y5), some (vI x6), some (vI y7), y8] [] r from (go_pushI rfl (go_stoI rfl rfl (go_fall (h _ _ _ _ _ _)))))
theorem bk_X8_put_122 {σ : St} {f : FI} {g : FL} {a : Nat} {x6 : Int} {x8 : Int} {r : St × List Vl} {d : Nat} (hs : Sh8 σ a) (h : ((x6 ≤ x8 → (r = ((il σ f g), []))) ∧ (¬ x6 ≤ x8 → (∃ (f4 : FI) (g5 : FL), Ex mt 0 119 (il σ f g) [vR 8 (some a), vI 42] ((il σ f4 g5), []) ∧ ((-2147483648 ≤ (x8 + 1) ∧ (x8 + 1) ≤ 2147483647)) ∧ (A_X8_put_122 d σ f4 g5 a x6 (x8 + 1) r))))) : A_X8_put_122 d σ f g a x6 x8 r := fun y1 y2 y3 y4 y5 y7 => (show Gx mt (d + 30) cd_X8_put (il σ f g) b_X8_put_122 [some (vR 8 (some a)), some (vR 9 y1), some (vI y2), some (vI y3), some (vI y4), some (vI y5), some (vI x6), some (vI y7), some (vI x8)] [] r from (go_loadI rfl (go_loadI rfl (gq_icmp_ge (fun e3 => have h1 := h.1 e3; (h1 ▸ gq_retV)) (fun e3 => have h2 := h.2 e3; (go_loadA rfl (go_pushI rfl (Exists.elim h2 fun f4 w7 => Exists.elim w7 fun g5 h6 => (go_callV rfl rfl (decide_eq_true (by omega)) h6.1 (go_iinc rfl h6.2.1 rfl (go_goto (h6.2.2 _ _ _ _ _ _))))))))))))
theorem bk_X8_putBare_0 {σ : St} {f : FI} {g : FL} {a : Nat} {x1 : Nat} {x2 : Int} {x3 : Int} {r : St × List Vl} {d : Nat} (hs : Sh8 σ a) {c1 : Nat} (hs1 : Sh9 σ x1 c1) (h : ((0 ≤ x2 ∧ x2 < (c1 : Int))) ∧ ((¬ (f (x1 + 1) ((x2).toNat)) = 7 → ((¬ (f (x1 + 1) ((x2).toNat)) = 6 → ((0 ≤ x2 ∧ x2 < (c1 : Int))) ∧ (∃ (f7 : FI) (g8 : FL), Ex mt 1 118 (il σ f g) [vR 8 (some a), vI (f (x1 + 1) ((x2).toNat)), vI (f (x1 + 2) ((x2).toNat)), vI (f (x1 + 3) ((x2).toNat))] ((il σ f7 g8), []) ∧ (r = ((il σ f7 g8), [])))) ∧ ((f (x1 + 1) ((x2).toNat)) = 6 → ((0 ≤ x2 ∧ x2 < (c1 : Int)) ∧ (-2147483648 ≤ (x3 + 1) ∧ (x3 + 1) ≤ 2147483647)) ∧ (∃ (f11 : FI) (g12 : FL), Ex mt (d + 29) 116 (il σ f g) [vR 8 (some a), vR 9 (some x1), vI (f (x1 + 2) ((x2).toNat)), vI 1, vI (x3 + 1)] ((il σ f11 g12), []) ∧ (∃ (f14 : FI) (g15 : FL), Ex mt 0 119 (il σ f11 g12) [vR 8 (some a), vI 59] ((il σ f14 g15), []) ∧ ((0 ≤ x2 ∧ x2 < (c1 : Int)) ∧ (-2147483648 ≤ (x3 + 1) ∧ (x3 + 1) ≤ 2147483647)) ∧ (∃ (f17 : FI) (g18 : FL), Ex mt (d + 29) 116 (il σ f14 g15) [vR 8 (some a), vR 9 (some x1), vI (f14 (x1 + 3) ((x2).toNat)), vI 2, vI (x3 + 1)] ((il σ f17 g18), []) ∧ (r = ((il σ f17 g18), [])))))))) ∧ ((f (x1 + 1) ((x2).toNat)) = 7 → ((0 ≤ x2 ∧ x2 < (c1 : Int)) ∧ (-2147483648 ≤ (x3 + 1) ∧ (x3 + 1) ≤ 2147483647)) ∧ (∃ (f23 : FI) (g24 : FL), Ex mt (d + 29) 116 (il σ f g) [vR 8 (some a), vR 9 (some x1), vI (f (x1 + 2) ((x2).toNat)), vI 0, vI (x3 + 1)] ((il σ f23 g24), []) ∧ (∃ (f26 : FI) (g27 : FL), Ex mt 0 119 (il σ f23 g24) [vR 8 (some a), vI 43] ((il σ f26 g27), []) ∧ ((0 ≤ x2 ∧ x2 < (c1 : Int)) ∧ (-2147483648 ≤ (x3 + 1) ∧ (x3 + 1) ≤ 2147483647)) ∧ (∃ (f29 : FI) (g30 : FL), Ex mt (d + 29) 116 (il σ f26 g27) [vR 8 (some a), vR 9 (some x1), vI (f26 (x1 + 3) ((x2).toNat)), vI 1, vI (x3 + 1)] ((il σ f29 g30), []) ∧ (r = ((il σ f29 g30), [])))))))) : Ex mt (d + 30) 117 (il σ f g) [vR 8 (some a), vR 9 (some x1), vI x2, vI x3] r := Ex.mk mt_117 (show Gx mt (d + 30) cd_X8_putBare (il σ f g) b_X8_putBare_0 [some (vR 8 (some a)), some (vR 9 (some x1)), some (vI x2), some (vI x3), none] [] r from (go_loadA rfl (gi_getR (Sh9.r0 hs1) (go_loadI rfl (gi_iald (inl_ (Sh9.l0 hs1) h.1) (go_stoI rfl rfl (go_loadI rfl (go_pushI rfl (gq_icmp_ne (fun e3 => have h1 := h.2.1 e3; (go_loadI rfl (go_pushI rfl (gq_icmp_ne (fun e6 => have h4 := h1.1 e6; (go_loadA rfl (go_loadI rfl (go_loadA rfl (gi_getR (Sh9.r1 hs1) (go_loadI rfl (gi_iald (inl_ (Sh9.l1 hs1) h4.1) (go_loadA rfl (gi_getR (Sh9.r2 hs1) (go_loadI rfl (gi_iald (inl_ (Sh9.l2 hs1) h4.1) (Exists.elim h4.2 fun f7 w10 => Exists.elim w10 fun g8 h9 => (go_callV rfl rfl (decide_eq_true (by omega)) h9.1 (go_fall (h9.2 ▸ gq_retV))))))))))))))) (fun e6 => have h5 := h1.2 e6; (go_loadA rfl (go_loadA rfl (go_loadA rfl (gi_getR (Sh9.r1 hs1) (go_loadI rfl (gi_iald (inl_ (Sh9.l1 hs1) h5.1.1) (go_pushI rfl (go_loadI rfl (go_pushI rfl (go_iadd h5.1.2 (Exists.elim h5.2 fun f11 w22 => Exists.elim w22 fun g12 h13 => (go_callV rfl rfl (decide_eq_true (by omega)) h13.1 (go_loadA rfl (go_pushI rfl (Exists.elim h13.2 fun f14 w21 => Exists.elim w21 fun g15 h16 => (go_callV rfl rfl (decide_eq_true (by omega)) h16.1 (go_loadA rfl (go_loadA rfl (go_loadA rfl (gi_getR (Sh9.r2 hs1) (go_loadI rfl (gi_iald (inl_ (Sh9.l2 hs1) h16.2.1.1) (go_pushI rfl (go_loadI rfl (go_pushI rfl (go_iadd h16.2.1.2 (Exists.elim h16.2.2 fun f17 w20 => Exists.elim w20 fun g18 h19 => (go_callV rfl rfl (decide_eq_true (by omega)) h19.1 (go_goto (h19.2 ▸ gq_retV))))))))))))))))))))))))))))))))))) (fun e3 => have h2 := h.2.2 e3; (go_loadA rfl (go_loadA rfl (go_loadA rfl (gi_getR (Sh9.r1 hs1) (go_loadI rfl (gi_iald (inl_ (Sh9.l1 hs1) h2.1.1) (go_pushI rfl (go_loadI rfl (go_pushI rfl (go_iadd h2.1.2 (Exists.elim h2.2 fun f23 w34 => Exists.elim w34 fun g24 h25 => (go_callV rfl rfl (decide_eq_true (by omega)) h25.1 (go_loadA rfl (go_pushI rfl (Exists.elim h25.2 fun f26 w33 => Exists.elim w33 fun g27 h28 => (go_callV rfl rfl (decide_eq_true (by omega)) h28.1 (go_loadA rfl (go_loadA rfl (go_loadA rfl (gi_getR (Sh9.r2 hs1) (go_loadI rfl (gi_iald (inl_ (Sh9.l2 hs1) h28.2.1.1) (go_pushI rfl (go_loadI rfl (go_pushI rfl (go_iadd h28.2.1.2 (Exists.elim h28.2.2 fun f29 w32 => Exists.elim w32 fun g30 h31 => (go_callV rfl rfl (decide_eq_true (by omega)) h31.1 (go_goto (h31.2 ▸ gq_retV))))))))))))))))))))))))))))))))))))))))
/-- bytes come behind what stands in a row o, whose size stands in a cell -/
def Pr (a i o : Nat) (f f' : FI) (s : Nat) (l : List Int) : Prop := f' a i = ((s + l.length : Nat) : Int) ∧ (∀ k, k < l.length → f' o (s + k) = l.getD k 0) ∧ (∀ k, k < s → f' o k = f o k) ∧ ∀ c j, ¬ (c = a ∧ j = i) → c ≠ o → f' c j = f c j
theorem Pr.nil {a i o : Nat} {f : FI} {s : Nat} (h : f a i = (s : Int)) : Pr a i o f f s [] := ⟨h, fun k hk => absurd hk (Nat.not_lt_zero k), fun _ _ => rfl, fun _ _ _ _ => rfl⟩
theorem Pr.app {a i o : Nat} {f f1 f2 : FI} {s : Nat} {l1 l2 : List Int} (h1 : Pr a i o f f1 s l1) (h2 : Pr a i o f1 f2 (s + l1.length) l2) : Pr a i o f f2 s (l1 ++ l2) := by
  refine ⟨?_, fun k hk => ?_, fun k hk => ?_, fun c j hc ho => ?_⟩
  · rw [h2.1, List.length_append, Nat.add_assoc]
  · rw [List.length_append] at hk
    by_cases z : k < l1.length
    · rw [h2.2.2.1 _ (by omega), h1.2.1 k z, List.getD_eq_getElem?_getD, List.getD_eq_getElem?_getD, List.getElem?_append_left z]
    · have := h2.2.1 (k - l1.length) (by omega)
      rw [show s + l1.length + (k - l1.length) = s + k by omega] at this
      rw [this, List.getD_eq_getElem?_getD, List.getD_eq_getElem?_getD, List.getElem?_append_right (by omega)]
  · rw [h2.2.2.1 k (by omega), h1.2.2.1 k hk]
  · rw [h2.2.2.2 c j hc ho, h1.2.2.2 c j hc ho]
theorem Pr.one {a i o : Nat} {f : FI} {s : Nat} {x v : Int} (hao : a ≠ o) (hv : v = ((s + 1 : Nat) : Int)) : Pr a i o f (up2 (up2 f o s x) a i v) s [x] := by
  refine ⟨?_, fun k hk => ?_, fun k hk => ?_, fun c j hc ho => ?_⟩
  · rw [u2_s, hv]; rfl
  · have : k = 0 := by
      rw [List.length_singleton] at hk
      omega
    subst this
    rw [u2_a (fun z => hao z.symm), Nat.add_zero, u2_s]
    rfl
  · rw [u2_a (fun z => hao z.symm), u2_i (by omega)]
  · unfold up2
    rw [if_neg hc, if_neg (fun z => ho z.1)]
theorem x_putByte {σ : St} {f : FI} {g : FL} {a s : Nat} {x : Int} (hs : Sh8 σ a) (h1 : f a 1 = (s : Int)) (h2 : s < 200) : ∃ f' : FI, Ex mt 0 119 (il σ f g) [vR 8 (some a), vI x] (il σ f' g, []) ∧ Pr a 1 (a + 1) f f' s [x] := by
  refine ⟨_, bk_X8_putByte_0 hs ⟨fun z => absurd z (by rw [h1]; omega), fun _ => ?_⟩, Pr.one (v := ((s + 1 : Nat) : Int)) (by omega) rfl⟩
  rw [h1]
  refine ⟨⟨by omega, by omega⟩, ?_⟩
  rw [show (s : Int) + 1 = ((s + 1 : Nat) : Int) by omega]
  rfl
theorem x_putAtom {σ : St} {f : FI} {g : FL} {a s : Nat} {k l r : Int} (hs : Sh8 σ a) (h1 : f a 1 = (s : Int)) (hk : 0 ≤ k ∧ k ≤ 4) (hl : 0 ≤ l ∧ l ≤ 3) (hr : 0 ≤ r ∧ r ≤ 7) (h2 : s + (aTx k l r).length ≤ 200) : ∃ f' : FI, Ex mt 1 118 (il σ f g) [vR 8 (some a), vI k, vI l, vI r] (il σ f' g, []) ∧ Pr a 1 (a + 1) f f' s (aTx k l r) := by
  unfold aTx at h2 ⊢
  by_cases k0 : k = 0
  · rw [if_pos k0] at h2 ⊢
    obtain ⟨f', E, P⟩ := x_putByte (σ := σ) (g := g) (x := 48) hs h1 (by rw [List.length_singleton] at h2; omega)
    exact ⟨f', bk_X8_putAtom_0 hs ⟨fun _ => ⟨fun z => absurd k0 z, fun _ => ⟨f', g, E, rfl⟩⟩, fun z => absurd k0 z⟩, P⟩
  · rw [if_neg k0] at h2 ⊢
    by_cases k1 : k = 1
    · rw [if_pos k1] at h2 ⊢
      obtain ⟨f', E, P⟩ := x_putByte (σ := σ) (g := g) (x := 49) hs h1 (by rw [List.length_singleton] at h2; omega)
      exact ⟨f', bk_X8_putAtom_0 hs ⟨fun z => absurd z k0, fun _ => ⟨fun z => absurd k1 z, fun _ => ⟨fun _ => ⟨f', g, E, rfl⟩, fun z => absurd z k0⟩⟩⟩, P⟩
    · rw [if_neg k1] at h2 ⊢
      simp only [List.length_append, List.length_singleton] at h2
      -- the value
      have d78 : ∀ (fi : FI) (u : Nat) (y : Int), fi a 1 = (u : Int) → u + 2 ≤ 200 → ∃ f' : FI, A_X8_putAtom_78 σ fi g a r a y (il σ f' g, []) ∧ Pr a 1 (a + 1) fi f' u ([y] ++ [48 + r]) := fun fi u y e1 e2 => by
        obtain ⟨f1, E1, P1⟩ := x_putByte (σ := σ) (g := g) (x := y) hs e1 (by omega)
        obtain ⟨f2, E2, P2⟩ := x_putByte (σ := σ) (g := g) (x := 48 + r) hs P1.1 (by rw [List.length_singleton]; omega)
        exact ⟨f2, bk_X8_putAtom_78 hs ⟨f1, g, E1, by omega, f2, g, E2, rfl⟩, P1.app P2⟩
      have d65 : ∀ (fi : FI) (u : Nat), fi a 1 = (u : Int) → u + 2 ≤ 200 → ∃ f' : FI, A_X8_putAtom_65 σ fi g a k r (il σ f' g, []) ∧ Pr a 1 (a + 1) fi f' u ([if k = 4 then 58 else 61] ++ [48 + r]) := fun fi u e1 e2 => by
        by_cases k4 : k = 4
        · rw [if_pos k4]
          obtain ⟨f', A, P⟩ := d78 fi u 58 e1 e2
          exact ⟨f', bk_X8_putAtom_65 hs ⟨fun z => absurd k4 z, fun _ => A⟩, P⟩
        · rw [if_neg k4]
          obtain ⟨f', A, P⟩ := d78 fi u 61 e1 e2
          exact ⟨f', bk_X8_putAtom_65 hs ⟨fun _ => A, fun z => absurd z k4⟩, P⟩
      have d36 : ∀ (fi : FI) (u : Nat), fi a 1 = (u : Int) → u + ((if l = 3 then [97, 116] else [97 + l]).length + 2) ≤ 200 → ∃ f' : FI, A_X8_putAtom_36 σ fi g a k l r (il σ f' g, []) ∧ Pr a 1 (a + 1) fi f' u ((if l = 3 then [97, 116] else [97 + l]) ++ ([if k = 4 then 58 else 61] ++ [48 + r])) := fun fi u e1 e2 => by
        by_cases l3 : l = 3
        · rw [if_pos l3] at e2 ⊢
          have e2 : u + (2 + 2) ≤ 200 := e2
          obtain ⟨f1, E1, P1⟩ := x_putByte (σ := σ) (g := g) (x := 97) hs e1 (by omega)
          obtain ⟨f2, E2, P2⟩ := x_putByte (σ := σ) (g := g) (x := 116) hs P1.1 (by rw [List.length_singleton]; omega)
          have P12 := P1.app P2
          obtain ⟨f3, A, P3⟩ := d65 f2 (u + 2) P12.1 (by omega)
          exact ⟨f3, bk_X8_putAtom_36 hs ⟨fun z => absurd l3 z, fun _ => bk_X8_putAtom_51 hs ⟨f1, g, E1, fun z => absurd l3 z, fun _ => ⟨f2, g, E2, A⟩⟩⟩, P12.app P3⟩
        · rw [if_neg l3] at e2 ⊢
          rw [List.length_singleton] at e2
          obtain ⟨f1, E1, P1⟩ := x_putByte (σ := σ) (g := g) (x := 97 + l) hs e1 (by omega)
          obtain ⟨f3, A, P3⟩ := d65 f1 (u + 1) P1.1 (by omega)
          exact ⟨f3, bk_X8_putAtom_36 hs ⟨fun _ => ⟨by omega, bk_X8_putAtom_51 hs ⟨f1, g, E1, fun _ => A, fun z => absurd z l3⟩⟩, fun z => absurd z l3⟩, P1.app P3⟩
      by_cases k3 : k = 3
      · rw [if_pos k3] at h2 ⊢
        rw [List.length_singleton] at h2
        obtain ⟨f1, E1, P1⟩ := x_putByte (σ := σ) (g := g) (x := 33) hs h1 (by omega)
        obtain ⟨f2, A, P2⟩ := d36 f1 (s + 1) P1.1 (by omega)
        exact ⟨f2, bk_X8_putAtom_0 hs ⟨fun z => absurd z k0, fun _ => ⟨fun _ => ⟨fun z => absurd k3 z, fun _ => ⟨f1, g, E1, A⟩⟩, fun z => absurd z k1⟩⟩, P1.app P2⟩
      · rw [if_neg k3] at h2 ⊢
        rw [List.length_nil] at h2
        obtain ⟨f2, A, P2⟩ := d36 f s h1 (by omega)
        exact ⟨f2, bk_X8_putAtom_0 hs ⟨fun z => absurd z k0, fun _ => ⟨fun _ => ⟨fun _ => A, fun z => absurd z k3⟩, fun z => absurd z k1⟩⟩, P2⟩
/-- the rows of a tree stand in the cells behind x -/
def Hld (f : FI) (x N : Nat) (K L R : FN) : Prop := ∀ i, i < N → f (x + 1) i = K i ∧ f (x + 2) i = L i ∧ f (x + 3) i = R i
theorem Hld.pr {f f' : FI} {x N a i o s : Nat} {K L R : FN} {l : List Int} (h : Hld f x N K L R) (p : Pr a i o f f' s l) (h1 : ∀ c, x + 1 ≤ c → c ≤ x + 3 → c ≠ a ∧ c ≠ o) : Hld f' x N K L R := fun j hj => by
  have := h j hj
  rw [p.2.2.2 _ _ (fun z => (h1 (x + 1) (by omega) (by omega)).1 z.1) (h1 (x + 1) (by omega) (by omega)).2, p.2.2.2 _ _ (fun z => (h1 (x + 2) (by omega) (by omega)).1 z.1) (h1 (x + 2) (by omega) (by omega)).2, p.2.2.2 _ _ (fun z => (h1 (x + 3) (by omega) (by omega)).1 z.1) (h1 (x + 3) (by omega) (by omega)).2]
  exact this
theorem rep_s (j : Nat) (v : Int) : List.replicate (j + 1) v = [v] ++ List.replicate j v := rfl
theorem x_put21 {σ : St} {g : FL} {a x c N : Nat} {K L R : FN} (hs : Sh8 σ a) (hx : Sh9 σ x c) (hxa : x + 3 < a ∨ a + 1 < x) (hN : N ≤ c) (hw : Wf K L R N) : ∀ k : Nat, k < N → ∀ (d dd s j : Nat) (a0 : Int) (fi : FI), 2 * lv K L R k ≤ d → dd + lv K L R k ≤ 41 → (0 ≤ a0 ∧ a0 ≤ 2) → fi a 1 = (s : Int) → Hld fi x N K L R → s + ((if j = 0 then tx K L R a0 k else tx K L R 2 k).length + j) ≤ 200 → ∃ f' : FI, A_X8_put_21 d σ fi g a x a0 (dd : Int) (k : Int) (j : Int) (j : Int) (il σ f' g, []) ∧ Pr a 1 (a + 1) fi f' s ((if j = 0 then tx K L R a0 k else tx K L R 2 k) ++ List.replicate j 42) := by
  have hcell : ∀ c, x + 1 ≤ c → c ≤ x + 3 → c ≠ a ∧ c ≠ a + 1 := fun c h1 h2 => by omega
  intro k
  induction k using Nat.strongRecOn with
  | ind k ih =>
    intro hk d dd s j a0 fi hd hdd ha0 h1 hH hlen
    have pos := bT_pos hw k hk
    have tl : (bT K L R k).length ≤ (if j = 0 then tx K L R a0 k else tx K L R 2 k).length := by split <;> exact (tx_len K L R _ k).1
    have ek : fi (x + 1) k = K k := (hH k hk).1
    have el : fi (x + 2) k = L k := (hH k hk).2.1
    by_cases k5 : K k = 5
    · -- a star
      obtain ⟨t1, t2, t3⟩ := bT_5 hw hk k5
      have e0 : (if j = 0 then tx K L R a0 k else tx K L R 2 k) = tx K L R 2 (L k).toNat ++ [42] := by
        rw [← t1]
        split
        · exact tx_ne (by rw [k5]; show ¬ (2 : Int) < a0; omega)
        · exact tx_ne (by rw [k5]; decide)
      rw [e0] at hlen ⊢
      have hl2 := hlen
      simp only [List.length_append, List.length_singleton] at hl2
      obtain ⟨f', A, P⟩ := ih (L k).toNat (by omega) (by omega) d dd s (j + 1) a0 fi (by omega) (by omega) ha0 h1 hH (by
        rw [if_neg (by omega)]
        simp only [List.length_append, List.length_singleton] at hlen
        omega)
      rw [if_neg (by omega), rep_s, ← List.append_assoc] at P
      refine ⟨f', bk_X8_put_21 hs hx ⟨fun z => absurd z (by omega), fun _ => ⟨by omega, fun z => absurd (show fi (x + 1) k = 5 by rw [ek]; exact k5) z, fun _ => ⟨⟨by omega, by omega, by omega⟩, ?_⟩⟩⟩, P⟩
      rw [show fi (x + 2) ((k : Int)).toNat = (((L k).toNat : Nat) : Int) by rw [show ((k : Int)).toNat = k from rfl, el]; omega]
      exact A
    · -- the bare node
      have bare : ∀ (d1 : Nat) (fj : FI) (u : Nat), 2 * lv K L R k ≤ d1 + 1 → fj a 1 = (u : Int) → Hld fj x N K L R → u + (bT K L R k).length ≤ 200 → ∃ f' : FI, Ex mt (d1 + 30) 117 (il σ fj g) [vR 8 (some a), vR 9 (some x), vI (k : Int), vI (dd : Int)] (il σ f' g, []) ∧ Pr a 1 (a + 1) fj f' u (bT K L R k) := fun d1 fj u q1 q2 q3 q4 => by
        have w := hw k hk
        have jk : fj (x + 1) k = K k := (q3 k hk).1
        have jl : fj (x + 2) k = L k := (q3 k hk).2.1
        -- a joined node
        have child : ∀ (cc : Int) (b0 : Int) (d2 : Nat) (fh : FI) (v : Nat), 0 ≤ cc → cc < k → lv K L R cc.toNat + 1 ≤ lv K L R k → (0 ≤ b0 ∧ b0 ≤ 2) → d1 = d2 + 1 → fh a 1 = (v : Int) → Hld fh x N K L R → v + (tx K L R b0 cc.toNat).length ≤ 200 → ∃ f' : FI, Ex mt (d1 + 29) 116 (il σ fh g) [vR 8 (some a), vR 9 (some x), vI cc, vI b0, vI ((dd : Int) + 1)] (il σ f' g, []) ∧ Pr a 1 (a + 1) fh f' v (tx K L R b0 cc.toNat) := fun cc b0 d2 fh v c1 c2 c3 c4 c5 c6 c7 c8 => by
          subst c5
          have pc := (bT_pos hw cc.toNat (by omega)).2
          obtain ⟨f', A, P⟩ := ih cc.toNat (by omega) (by omega) d2 (dd + 1) v 0 b0 fh (by omega) (by omega) c4 c6 c7 (by rw [if_pos rfl]; omega)
          rw [if_pos rfl, List.replicate_zero, List.append_nil] at P
          rw [show ((cc.toNat : Nat) : Int) = cc by omega, show ((dd + 1 : Nat) : Int) = (dd : Int) + 1 by omega] at A
          exact ⟨f', bk_X8_put_0 hs hx ⟨fun z => absurd z (by omega), fun _ => ⟨fun _ => A, fun z => absurd c1 z⟩⟩, P⟩
        by_cases k7 : K k = 7
        · obtain ⟨t1, t2, t3, t4⟩ := bT_7 hw hk k7
          have p1 := bT_pos hw (L k).toNat (by omega)
          have p2' := bT_pos hw (R k).toNat (by omega)
          rw [t1] at q4 ⊢
          simp only [List.length_append, List.length_singleton] at q4
          obtain ⟨f1, E1, P1⟩ := child (L k) 0 (d1 - 1) fj u t3.1 t3.2 (by omega) (by omega) (by omega) q2 q3 (by rw [tZ_0]; omega)
          rw [tZ_0] at P1
          obtain ⟨f2, E2, P2⟩ := x_putByte (σ := σ) (g := g) (x := 43) hs P1.1 (by omega)
          have P12 := P1.app P2
          have H2 := q3.pr P12 hcell
          obtain ⟨f3, E3, P3⟩ := child (R k) 1 (d1 - 1) f2 (u + ((bT K L R (L k).toNat).length + 1)) t4.1 t4.2 (by omega) (by omega) (by omega) (by rw [P12.1, List.length_append, List.length_singleton]) H2 (by omega)
          refine ⟨f3, bk_X8_putBare_0 hs hx ⟨by omega, fun z => absurd (show fj (x + 1) k = 7 by rw [jk]; exact k7) z, fun _ => ⟨⟨by omega, by omega⟩, f1, g, ?_, f2, g, E2, ⟨by omega, by omega⟩, f3, g, ?_, rfl⟩⟩, ?_⟩
          · rw [show fj (x + 2) ((k : Int)).toNat = L k from jl]
            exact E1
          · rw [show f2 (x + 3) ((k : Int)).toNat = R k from (H2 k hk).2.2]
            exact E3
          · rw [← List.append_assoc]
            exact P12.app (by rw [List.length_append, List.length_singleton]; exact P3)
        · by_cases k6 : K k = 6
          · obtain ⟨t1, t2, t3, t4⟩ := bT_6 hw hk k6
            have p1 := bT_pos hw (L k).toNat (by omega)
            have p2' := bT_pos hw (R k).toNat (by omega)
            rw [t1] at q4 ⊢
            simp only [List.length_append, List.length_singleton] at q4
            obtain ⟨f1, E1, P1⟩ := child (L k) 1 (d1 - 1) fj u t3.1 t3.2 (by omega) (by omega) (by omega) q2 q3 (by omega)
            obtain ⟨f2, E2, P2⟩ := x_putByte (σ := σ) (g := g) (x := 59) hs P1.1 (by omega)
            have P12 := P1.app P2
            have H2 := q3.pr P12 hcell
            obtain ⟨f3, E3, P3⟩ := child (R k) 2 (d1 - 1) f2 (u + ((tx K L R 1 (L k).toNat).length + 1)) t4.1 t4.2 (by omega) (by omega) (by omega) (by rw [P12.1, List.length_append, List.length_singleton]) H2 (by omega)
            refine ⟨f3, bk_X8_putBare_0 hs hx ⟨by omega, fun _ => ⟨fun z => absurd (show fj (x + 1) k = 6 by rw [jk]; exact k6) z, fun _ => ⟨⟨by omega, by omega⟩, f1, g, ?_, f2, g, E2, ⟨by omega, by omega⟩, f3, g, ?_, rfl⟩⟩, fun z => absurd (show fj (x + 1) k = 7 from z) (by rw [jk]; exact k7)⟩, ?_⟩
            · rw [show fj (x + 2) ((k : Int)).toNat = L k from jl]
              exact E1
            · rw [show f2 (x + 3) ((k : Int)).toNat = R k from (H2 k hk).2.2]
              exact E3
            · rw [← List.append_assoc]
              exact P12.app (by rw [List.length_append, List.length_singleton]; exact P3)
          · unfold Wf1 at w
            obtain ⟨t1, t2⟩ := bT_a (K := K) (L := L) (R := R) (k := k) (by omega)
            rw [t1] at q4 ⊢
            obtain ⟨f1, E1, P1⟩ := x_putAtom (σ := σ) (g := g) (f := fj) hs q2 (show 0 ≤ K k ∧ K k ≤ 4 by omega) (show 0 ≤ L k ∧ L k ≤ 3 by omega) (show 0 ≤ R k ∧ R k ≤ 7 by omega) q4
            refine ⟨f1, bk_X8_putBare_0 hs hx ⟨by omega, fun _ => ⟨fun _ => ⟨by omega, f1, g, ?_, rfl⟩, fun z => absurd (show fj (x + 1) k = 6 from z) (by rw [jk]; exact k6)⟩, fun z => absurd (show fj (x + 1) k = 7 from z) (by rw [jk]; exact k7)⟩, P1⟩
            rw [show fj (x + 1) ((k : Int)).toNat = K k from jk, show fj (x + 2) ((k : Int)).toNat = L k from jl, show fj (x + 3) ((k : Int)).toNat = R k from (q3 k hk).2.2]
            exact E1
      -- the stars behind it
      have stars : ∀ n i : Nat, i + n = j → ∀ (fj : FI) (u : Nat), fj a 1 = (u : Int) → u + n ≤ 200 → ∃ f' : FI, A_X8_put_122 d σ fj g a (j : Int) (i : Int) (il σ f' g, []) ∧ Pr a 1 (a + 1) fj f' u (List.replicate n 42) := by
        intro n
        induction n with
        | zero =>
          intro i hi fj u q1 q2
          obtain rfl : i = j := by omega
          exact ⟨fj, bk_X8_put_122 hs ⟨fun _ => rfl, fun z => absurd (by omega) z⟩, Pr.nil q1⟩
        | succ n ihn =>
          intro i hi fj u q1 q2
          obtain ⟨f1, E1, P1⟩ := x_putByte (σ := σ) (g := g) (x := 42) hs q1 (by omega)
          obtain ⟨f2, A, P2⟩ := ihn (i + 1) (by omega) f1 (u + 1) P1.1 (by omega)
          exact ⟨f2, bk_X8_put_122 hs ⟨fun z => absurd z (by omega), fun _ => ⟨f1, g, E1, by omega, A⟩⟩, by rw [rep_s]; exact P1.app P2⟩
      obtain ⟨d1, rfl⟩ : ∃ d1, d = d1 + 1 := ⟨d - 1, by omega⟩
      -- with or without brackets
      have whole : ∀ b0 : Int, s + ((brk (K k) b0 (bT K L R k)).length + j) ≤ 200 → ∃ f' : FI, A_X8_put_78 (d1 + 1) σ fi g a x (dd : Int) (k : Int) (j : Int) (bnd (K k)) b0 (il σ f' g, []) ∧ Pr a 1 (a + 1) fi f' s (brk (K k) b0 (bT K L R k) ++ List.replicate j 42) := fun b0 hb => by
        unfold brk at hb ⊢
        by_cases z : bnd (K k) < b0
        · rw [if_pos z] at hb ⊢
          simp only [List.length_append, List.length_singleton] at hb
          obtain ⟨f1, E1, P1⟩ := x_putByte (σ := σ) (g := g) (x := 40) hs h1 (by omega)
          obtain ⟨f2, E2, P2⟩ := bare d1 f1 (s + 1) (by omega) P1.1 (hH.pr P1 hcell) (by omega)
          have P12 := P1.app P2
          obtain ⟨f3, E3, P3⟩ := x_putByte (σ := σ) (g := g) (x := 41) hs P12.1 (by rw [List.length_append, List.length_singleton]; omega)
          have P123 := P12.app P3
          obtain ⟨f4, A, P4⟩ := stars j 0 (by omega) f3 _ P123.1 (by simp only [List.length_append, List.length_singleton]; omega)
          refine ⟨f4, bk_X8_put_78 hs hx ⟨fun y => absurd y (by omega), fun _ => bk_X8_put_86 hs hx ⟨fun y => absurd y (by decide), fun _ => ⟨f1, g, E1, bk_X8_put_99 hs hx ⟨f2, g, E2, fun y => absurd y (by decide), fun _ => ⟨f3, g, E3, bk_X8_put_119 hs A⟩⟩⟩⟩⟩, ?_⟩
          have := P123.app P4
          rw [List.append_assoc [40]] at this
          exact this
        · rw [if_neg z] at hb ⊢
          obtain ⟨f2, E2, P2⟩ := bare d1 fi s (by omega) h1 hH (by omega)
          obtain ⟨f4, A, P4⟩ := stars j 0 (by omega) f2 _ P2.1 (by omega)
          exact ⟨f4, bk_X8_put_78 hs hx ⟨fun _ => bk_X8_put_86 hs hx ⟨fun _ => bk_X8_put_99 hs hx ⟨f2, g, E2, fun _ => bk_X8_put_119 hs A, fun y => absurd rfl y⟩, fun y => absurd rfl y⟩, fun y => absurd (by omega) y⟩, P2.app P4⟩
      have go : ∀ f' : FI, A_X8_put_58 (d1 + 1) σ fi g a x a0 (dd : Int) (k : Int) (j : Int) (il σ f' g, []) → A_X8_put_21 (d1 + 1) σ fi g a x a0 (dd : Int) (k : Int) (j : Int) (j : Int) (il σ f' g, []) := fun f' A => bk_X8_put_21 hs hx ⟨fun _ => A, fun _ => ⟨by omega, fun _ => A, fun y => absurd (show fi (x + 1) k = 5 from y) (by rw [ek]; exact k5)⟩⟩
      have eb : (if fi (x + 1) ((k : Int)).toNat = 7 then (0 : Int) else if fi (x + 1) ((k : Int)).toNat = 6 then 1 else 2) = bnd (K k) := by
        rw [show fi (x + 1) ((k : Int)).toNat = K k from ek]
        rfl
      by_cases j0 : j = 0
      · subst j0
        rw [if_pos rfl] at hlen ⊢
        obtain ⟨f', A, P⟩ := whole a0 hlen
        refine ⟨f', go f' (bk_X8_put_58 hs hx ⟨by omega, fun _ => ?_, fun y => absurd (by decide) y⟩), P⟩
        rw [eb]
        exact A
      · rw [if_neg j0] at hlen ⊢
        obtain ⟨f', A, P⟩ := whole 2 hlen
        refine ⟨f', go f' (bk_X8_put_58 hs hx ⟨by omega, fun y => absurd y (by omega), fun _ => ?_⟩), P⟩
        rw [eb]
        exact A
theorem x_putRoot {σ : St} {f : FI} {g : FL} {a x c N k : Nat} {K L R : FN} (hs : Sh8 σ a) (hx : Sh9 σ x c) (hxa : x + 3 < a ∨ a + 1 < x) (hN : N ≤ c) (hw : Wf K L R N) (hk : k < N) (h1 : f a 1 = 0) (hH : Hld f x N K L R) (hl : (bT K L R k).length ≤ 200) (hv : lv K L R k ≤ 40) : ∃ f' : FI, Ex mt 203 116 (il σ f g) [vR 8 (some a), vR 9 (some x), vI (k : Int), vI 0, vI 0] (il σ f' g, []) ∧ Pr a 1 (a + 1) f f' 0 (bT K L R k) := by
  obtain ⟨f', A, P⟩ := x_put21 hs hx hxa hN hw k hk 80 0 0 0 0 f (by omega) (by omega) (by omega) h1 hH (by rw [if_pos rfl, tZ_0]; omega)
  rw [if_pos rfl, tZ_0, List.replicate_zero, List.append_nil] at P
  have E : Ex mt (80 + 30) 116 (il σ f g) [vR 8 (some a), vR 9 (some x), vI (k : Int), vI 0, vI 0] (il σ f' g, []) := bk_X8_put_0 hs hx ⟨fun z => absurd z (by decide), fun _ => ⟨fun _ => A, fun z => absurd (by omega) z⟩⟩
  exact ⟨f', E.up (by decide), P⟩
