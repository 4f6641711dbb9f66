/-! writes: the order, in the model -/
def A_X12_ends__2 (σ : St) (f : FI) (g : FL) (a : Nat) (x1 : Int) (r : St × List Vl) : Prop := Gx mt 5 cd_X12_ends_ (il σ f g) (cd_X12_ends_ 2) [some (vR 12 (some a)), some (vI x1)] [] r
theorem bk_X12_ends__0 {σ : St} {f : FI} {g : FL} {a : Nat} {r : St × List Vl} (hs : Sh12 σ a) (h : (A_X12_ends__2 σ f g a 0 r)) : Ex mt 5 267 (il σ f g) [vR 12 (some a)] r := Ex.mk mt_267 (show Gx mt 5 cd_X12_ends_ (il σ f g) b_X12_ends__0 [some (vR 12 (some a)), none] [] r from (go_pushI rfl (go_stoI rfl rfl (go_fall (h)))))
theorem bk_X12_ends__2 {σ : St} {f : FI} {g : FL} {a : Nat} {x1 : Int} {r : St × List Vl} (hs : Sh12 σ a) (h : ((512 ≤ x1 → (r = ((il σ f g), []))) ∧ (¬ 512 ≤ x1 → (∃ (f4 : FI) (g5 : FL) (v7 : Int), Ex mt 4 255 (il σ f g) [vR 12 (some a), vI x1, vI 0] ((il σ f4 g5), [vI v7]) ∧ ((0 ≤ x1 ∧ x1 < 512)) ∧ (∃ (f8 : FI) (g9 : FL) (v11 : Int), Ex mt 4 255 (il σ (up2 f4 (a + 26) ((x1).toNat) v7) g5) [vR 12 (some a), vI x1, vI 255] ((il σ f8 g9), [vI v11]) ∧ ((0 ≤ x1 ∧ x1 < 512) ∧ (-2147483648 ≤ (x1 + 1) ∧ (x1 + 1) ≤ 2147483647)) ∧ (A_X12_ends__2 σ (up2 f8 (a + 27) ((x1).toNat) v11) g9 a (x1 + 1) r)))))) : A_X12_ends__2 σ f g a x1 r := (show Gx mt 5 cd_X12_ends_ (il σ f g) b_X12_ends__2 [some (vR 12 (some a)), some (vI x1)] [] r from (go_loadI rfl (go_pushI rfl (gq_icmp_ge (fun e3 => have h1 := h.1 e3; (h1 ▸ gq_retV)) (fun e3 => have h2 := h.2 e3; (go_loadA rfl (gi_getR (Sh12.r43 hs) (go_loadI rfl (go_loadA rfl (go_loadI rfl (go_pushI rfl (Exists.elim h2 fun f4 w14 => Exists.elim w14 fun g5 w15 => Exists.elim w15 fun v7 h6 => (go_callV rfl rfl rfl h6.1 (gi_iast (inl_ (Sh12.l43 hs) h6.2.1) (go_loadA rfl (gi_getR (Sh12.r44 hs) (go_loadI rfl (go_loadA rfl (go_loadI rfl (go_pushI rfl (Exists.elim h6.2.2 fun f8 w12 => Exists.elim w12 fun g9 w13 => Exists.elim w13 fun v11 h10 => (go_callV rfl rfl rfl h10.1 (gi_iast (inl_ (Sh12.l44 hs) h10.2.1.1) (go_iinc rfl h10.2.1.2 rfl (go_goto (h10.2.2))))))))))))))))))))))))))
def A_X12_writes_8 (σ : St) (f : FI) (g : FL) (a : Nat) (x1 : Int) (x2 : Int) (r : St × List Vl) : Prop := ∀ (y3 : Option Vl) (y4 : Option Vl), Gx mt 6 cd_X12_writes (il σ f g) (cd_X12_writes 8) [some (vR 12 (some a)), some (vI x1), some (vI x2), y3, y4] [] r
def A_X12_writes_40 (σ : St) (f : FI) (g : FL) (a : Nat) (x1 : Int) (x2 : Int) (r : St × List Vl) : Prop := ∀ (y3 : Option Vl) (y4 : Option Vl), Gx mt 6 cd_X12_writes (il σ f g) (cd_X12_writes 40) [some (vR 12 (some a)), some (vI x1), some (vI x2), y3, y4] [] r
def A_X12_writes_68 (σ : St) (f : FI) (g : FL) (a : Nat) (x1 : Int) (x2 : Int) (x3 : Int) (r : St × List Vl) : Prop := ∀ (y4 : Option Vl), Gx mt 6 cd_X12_writes (il σ f g) (cd_X12_writes 68) [some (vR 12 (some a)), some (vI x1), some (vI x2), some (vI x3), y4] [] r
def A_X12_writes_133 (σ : St) (f : FI) (g : FL) (a : Nat) (x1 : Int) (x2 : Int) (r : St × List Vl) : Prop := ∀ (y3 : Option Vl) (y4 : Option Vl), Gx mt 6 cd_X12_writes (il σ f g) (cd_X12_writes 133) [some (vR 12 (some a)), some (vI x1), some (vI x2), y3, y4] [] r
def A_X12_writes_164 (σ : St) (f : FI) (g : FL) (a : Nat) (x1 : Int) (x2 : Int) (x3 : Int) (r : St × List Vl) : Prop := ∀ (y4 : Option Vl), Gx mt 6 cd_X12_writes (il σ f g) (cd_X12_writes 164) [some (vR 12 (some a)), some (vI x1), some (vI x2), some (vI x3), y4] [] r
def A_X12_writes_262 (σ : St) (f : FI) (g : FL) (a : Nat) (x1 : Int) (x2 : Int) (r : St × List Vl) : Prop := ∀ (y3 : Option Vl) (y4 : Option Vl), Gx mt 6 cd_X12_writes (il σ f g) (cd_X12_writes 262) [some (vR 12 (some a)), some (vI x1), some (vI x2), y3, y4] [] r
def A_X12_writes_269 (σ : St) (f : FI) (g : FL) (a : Nat) (x1 : Int) (x2 : Int) (x3 : Int) (r : St × List Vl) : Prop := ∀ (y4 : Option Vl), Gx mt 6 cd_X12_writes (il σ f g) (cd_X12_writes 269) [some (vR 12 (some a)), some (vI x1), some (vI x2), some (vI x3), y4] [] r
theorem bk_X12_writes_0 {σ : St} {f : FI} {g : FL} {a : Nat} {r : St × List Vl} (hs : Sh12 σ a) (h : (∃ (f1 : FI) (g2 : FL), Ex mt 5 267 (il σ f g) [vR 12 (some a)] ((il σ f1 g2), []) ∧ (A_X12_writes_8 σ f1 g2 a 0 0 r))) : Ex mt 6 269 (il σ f g) [vR 12 (some a)] r := Ex.mk mt_269 (show Gx mt 6 cd_X12_writes (il σ f g) b_X12_writes_0 [some (vR 12 (some a)), none, none, none, none] [] r from (go_loadA rfl (Exists.elim h fun f1 w4 => Exists.elim w4 fun g2 h3 => (go_callV rfl rfl rfl h3.1 (go_pushI rfl (go_stoI rfl rfl (go_pushI rfl (go_stoI rfl rfl (go_fall (h3.2 _ _))))))))))
theorem bk_X12_writes_8 {σ : St} {f : FI} {g : FL} {a : Nat} {x1 : Int} {x2 : Int} {r : St × List Vl} (hs : Sh12 σ a) (h : ((8 ≤ x2 → (A_X12_writes_40 σ f g a x1 0 r)) ∧ (¬ 8 ≤ x2 → (∃ (f4 : FI) (g5 : FL) (v7 : Int), Ex mt 0 245 (il σ f g) [vR 12 (some a), vI x2] ((il σ f4 g5), [vI v7]) ∧ ((v7 = 0 → ((-2147483648 ≤ (x2 + 1) ∧ (x2 + 1) ≤ 2147483647)) ∧ (A_X12_writes_8 σ f4 g5 a (iOr x1 0) (x2 + 1) r)) ∧ (¬ v7 = 0 → ((0 ≤ x2 ∧ x2 < 31)) ∧ ((-2147483648 ≤ (x2 + 1) ∧ (x2 + 1) ≤ 2147483647)) ∧ (A_X12_writes_8 σ f4 g5 a (iOr x1 (p2 x2)) (x2 + 1) r))))))) : A_X12_writes_8 σ f g a x1 x2 r := fun y3 y4 => (show Gx mt 6 cd_X12_writes (il σ f g) b_X12_writes_8 [some (vR 12 (some a)), some (vI x1), some (vI x2), y3, y4] [] r from (go_loadI rfl (go_pushI rfl (gq_icmp_ge (fun e3 => have h1 := h.1 e3; (go_pushI rfl (go_stoI rfl rfl (go_fall (h1 _ _))))) (fun e3 => have h2 := h.2 e3; (go_loadI rfl (go_loadA rfl (go_loadI rfl (Exists.elim h2 fun f4 w11 => Exists.elim w11 fun g5 w12 => Exists.elim w12 fun v7 h6 => (go_callV rfl rfl rfl h6.1 (gq_if_eq (fun e10 => have h8 := h6.2.1 e10; (go_pushI rfl (go_fall (go_ior rfl (go_stoI rfl rfl (go_iinc rfl h8.1 rfl (go_goto (h8.2 _ _)))))))) (fun e10 => have h9 := h6.2.2 e10; (go_pushI rfl (go_loadI rfl (go_ishl (iShl_1 h9.1) (go_goto (go_ior rfl (go_stoI rfl rfl (go_iinc rfl h9.2.1 rfl (go_goto (h9.2.2 _ _)))))))))))))))))))))
theorem bk_X12_writes_40 {σ : St} {f : FI} {g : FL} {a : Nat} {x1 : Int} {x2 : Int} {r : St × List Vl} (hs : Sh12 σ a) (h : ((256 ≤ x2 → (A_X12_writes_133 σ f g a x1 255 r)) ∧ (¬ 256 ≤ x2 → ((-2147483648 ≤ x1 ∧ x1 ≤ 2147483647)) ∧ ((¬ (iAnd x2 (-1 - x1)) = 0 → ((0 ≤ x2 ∧ x2 < 256)) ∧ (A_X12_writes_68 σ (up2 f (a + 31) ((x2).toNat) 0) g a x1 x2 0 r)) ∧ ((iAnd x2 (-1 - x1)) = 0 → ((0 ≤ x2 ∧ x2 < 256)) ∧ (A_X12_writes_68 σ (up2 f (a + 31) ((x2).toNat) 1) g a x1 x2 0 r)))))) : A_X12_writes_40 σ f g a x1 x2 r := fun y3 y4 => (show Gx mt 6 cd_X12_writes (il σ f g) b_X12_writes_40 [some (vR 12 (some a)), some (vI x1), some (vI x2), y3, y4] [] r from (go_loadI rfl (go_pushI rfl (gq_icmp_ge (fun e3 => have h1 := h.1 e3; (go_pushI rfl (go_stoI rfl rfl (go_fall (h1 _ _))))) (fun e3 => have h2 := h.2 e3; (go_loadA rfl (gi_getR (Sh12.r48 hs) (go_loadI rfl (go_loadI rfl (go_loadI rfl (go_pushI rfl (go_ixor (iXor_m1 h2.1) (go_iand rfl (gq_if_ne (fun e6 => have h4 := h2.2.1 e6; (go_pushI rfl (go_fall (gi_zast (inl_ (Sh12.l48 hs) h4.1) ⟨by decide, by decide⟩ (go_pushI rfl (go_stoI rfl rfl (go_fall (h4.2 _)))))))) (fun e6 => have h5 := h2.2.2 e6; (go_pushI rfl (go_goto (gi_zast (inl_ (Sh12.l48 hs) h5.1) ⟨by decide, by decide⟩ (go_pushI rfl (go_stoI rfl rfl (go_fall (h5.2 _))))))))))))))))))))))
theorem bk_X12_writes_68 {σ : St} {f : FI} {g : FL} {a : Nat} {x1 : Int} {x2 : Int} {x3 : Int} {r : St × List Vl} (hs : Sh12 σ a) (h : ((512 ≤ x3 → ((-2147483648 ≤ (x2 + 1) ∧ (x2 + 1) ≤ 2147483647)) ∧ (A_X12_writes_40 σ f g a x1 (x2 + 1) r)) ∧ (¬ 512 ≤ x3 → ((0 ≤ x2 ∧ x2 < 256)) ∧ (((f (a + 31) ((x2).toNat)) = 0 → ((-2147483648 ≤ (x2 + 1) ∧ (x2 + 1) ≤ 2147483647)) ∧ (A_X12_writes_40 σ f g a x1 (x2 + 1) r)) ∧ (¬ (f (a + 31) ((x2).toNat)) = 0 → ((0 ≤ x3 ∧ x3 < 512) ∧ (0 ≤ f a 33 ∧ f a 33 ≤ 255)) ∧ ((¬ ((hB (f a 33) (x3 / 64))) → ((0 ≤ x2 ∧ x2 < 256) ∧ (-2147483648 ≤ (x3 + 1) ∧ (x3 + 1) ≤ 2147483647)) ∧ (A_X12_writes_68 σ (up2 f (a + 31) ((x2).toNat) 1) g a x1 x2 (x3 + 1) r)) ∧ (((hB (f a 33) (x3 / 64))) → (∃ (f10 : FI) (g11 : FL) (v13 : Int), Ex mt 4 255 (il σ f g) [vR 12 (some a), vI x3, vI x2] ((il σ f10 g11), [vI v13]) ∧ (∃ (f14 : FI) (g15 : FL) (v17 : Int), Ex mt 0 268 (il σ f10 g11) [vR 12 (some a), vI x3, vI v13] ((il σ f14 g15), [vI v17]) ∧ ((¬ v17 = 0 → ((0 ≤ x2 ∧ x2 < 256) ∧ (-2147483648 ≤ (x3 + 1) ∧ (x3 + 1) ≤ 2147483647)) ∧ (A_X12_writes_68 σ (up2 f14 (a + 31) ((x2).toNat) 0) g15 a x1 x2 (x3 + 1) r)) ∧ (v17 = 0 → ((0 ≤ x2 ∧ x2 < 256) ∧ (-2147483648 ≤ (x3 + 1) ∧ (x3 + 1) ≤ 2147483647)) ∧ (A_X12_writes_68 σ (up2 f14 (a + 31) ((x2).toNat) 1) g15 a x1 x2 (x3 + 1) r)))))))))))) : A_X12_writes_68 σ f g a x1 x2 x3 r := fun y4 => (show Gx mt 6 cd_X12_writes (il σ f g) b_X12_writes_68 [some (vR 12 (some a)), some (vI x1), some (vI x2), some (vI x3), y4] [] r from (go_loadI rfl (go_pushI rfl (gq_icmp_ge (fun e3 => have h1 := h.1 e3; (go_iinc rfl h1.1 rfl (go_goto (h1.2 _ _)))) (fun e3 => have h2 := h.2 e3; (go_loadA rfl (gi_getR (Sh12.r48 hs) (go_loadI rfl (gi_zald (inl_ (Sh12.l48 hs) h2.1) (gq_if_eq (fun e6 => have h4 := h2.2.1 e6; (go_iinc rfl h4.1 rfl (go_goto (h4.2 _ _)))) (fun e6 => have h5 := h2.2.2 e6; (go_loadA rfl (gi_getR (Sh12.r48 hs) (go_loadI rfl (go_loadA rfl (go_loadI rfl (go_callV rfl rfl rfl (pu_enters hs h5.1.1 h5.1.2) (go_ifb_eq (fun e9 => have h7 := h5.2.1 e9; (go_pushI rfl (go_goto (gi_zast (inl_ (Sh12.l48 hs) h7.1.1) ⟨by decide, by decide⟩ (go_iinc rfl h7.1.2 rfl (go_goto (h7.2 _))))))) (fun e9 => have h8 := h5.2.2 e9; (go_loadA rfl (go_loadI rfl (go_loadA rfl (go_loadI rfl (go_loadI rfl (Exists.elim h8 fun f10 w23 => Exists.elim w23 fun g11 w24 => Exists.elim w24 fun v13 h12 => (go_callV rfl rfl rfl h12.1 (Exists.elim h12.2 fun f14 w21 => Exists.elim w21 fun g15 w22 => Exists.elim w22 fun v17 h16 => (go_callV rfl rfl rfl h16.1 (gq_if_ne (fun e20 => have h18 := h16.2.1 e20; (go_pushI rfl (go_fall (gi_zast (inl_ (Sh12.l48 hs) h18.1.1) ⟨by decide, by decide⟩ (go_iinc rfl h18.1.2 rfl (go_goto (h18.2 _))))))) (fun e20 => have h19 := h16.2.2 e20; (go_fall (go_pushI rfl (go_goto (gi_zast (inl_ (Sh12.l48 hs) h19.1.1) ⟨by decide, by decide⟩ (go_iinc rfl h19.1.2 rfl (go_goto (h19.2 _)))))))))))))))))))))))))))))))))))))
theorem bk_X12_writes_133 {σ : St} {f : FI} {g : FL} {a : Nat} {x1 : Int} {x2 : Int} {r : St × List Vl} (hs : Sh12 σ a) (h : ((x2 < 0 → ((¬ (f (a + 32) 0) = 0 → (A_X12_writes_262 σ (up2 f a 51 0) g a x1 0 r)) ∧ ((f (a + 32) 0) = 0 → (r = ((il σ f g), [vI (-2)]))))) ∧ (¬ x2 < 0 → ((0 ≤ x2 ∧ x2 < 256)) ∧ (((f (a + 31) ((x2).toNat)) = 0 → ((0 ≤ x2 ∧ x2 < 256)) ∧ (A_X12_writes_164 σ (up2 f (a + 32) ((x2).toNat) 0) g a x1 x2 0 r)) ∧ (¬ (f (a + 31) ((x2).toNat)) = 0 → ((¬ x2 = x1 → ((0 ≤ x2 ∧ x2 < 256)) ∧ (A_X12_writes_164 σ (up2 f (a + 32) ((x2).toNat) 0) g a x1 x2 0 r)) ∧ (x2 = x1 → ((0 ≤ x2 ∧ x2 < 256)) ∧ (A_X12_writes_164 σ (up2 f (a + 32) ((x2).toNat) 1) g a x1 x2 0 r)))))))) : A_X12_writes_133 σ f g a x1 x2 r := fun y3 y4 => (show Gx mt 6 cd_X12_writes (il σ f g) b_X12_writes_133 [some (vR 12 (some a)), some (vI x1), some (vI x2), y3, y4] [] r from (go_loadI rfl (gq_if_lt (fun e3 => have h1 := h.1 e3; (go_loadA rfl (gi_getR (Sh12.r49 hs) (go_pushI rfl (gi_zald (inl_ (Sh12.l49 hs) (by decide)) (gq_if_ne (fun e6 => have h4 := h1.1 e6; (go_pushI rfl (go_stoI rfl rfl (go_loadA rfl (go_pushI rfl (gi_putI (go_fall (h4 _ _)))))))) (fun e6 => have h5 := h1.2 e6; (go_pushI rfl (h5 ▸ gq_retI))))))))) (fun e3 => have h2 := h.2 e3; (go_loadA rfl (gi_getR (Sh12.r49 hs) (go_loadI rfl (go_loadA rfl (gi_getR (Sh12.r48 hs) (go_loadI rfl (gi_zald (inl_ (Sh12.l48 hs) h2.1) (gq_if_eq (fun e9 => have h7 := h2.2.1 e9; (go_pushI rfl (go_fall (gi_zast (inl_ (Sh12.l49 hs) h7.1) ⟨by decide, by decide⟩ (go_pushI rfl (go_stoI rfl rfl (go_fall (h7.2 _)))))))) (fun e9 => have h8 := h2.2.2 e9; (go_loadI rfl (go_loadI rfl (gq_icmp_ne (fun e12 => have h10 := h8.1 e12; (go_pushI rfl (go_fall (gi_zast (inl_ (Sh12.l49 hs) h10.1) ⟨by decide, by decide⟩ (go_pushI rfl (go_stoI rfl rfl (go_fall (h10.2 _)))))))) (fun e12 => have h11 := h8.2 e12; (go_pushI rfl (go_goto (gi_zast (inl_ (Sh12.l49 hs) h11.1) ⟨by decide, by decide⟩ (go_pushI rfl (go_stoI rfl rfl (go_fall (h11.2 _))))))))))))))))))))))))
theorem bk_X12_writes_164 {σ : St} {f : FI} {g : FL} {a : Nat} {x1 : Int} {x2 : Int} {x3 : Int} {r : St × List Vl} (hs : Sh12 σ a) (h : ((8 ≤ x3 → ((-2147483648 ≤ (x2 + (-1)) ∧ (x2 + (-1)) ≤ 2147483647)) ∧ (A_X12_writes_133 σ f g a x1 (x2 + (-1)) r)) ∧ (¬ 8 ≤ x3 → ((0 ≤ x2 ∧ x2 < 256)) ∧ (((f (a + 31) ((x2).toNat)) = 0 → ((-2147483648 ≤ (x2 + (-1)) ∧ (x2 + (-1)) ≤ 2147483647)) ∧ (A_X12_writes_133 σ f g a x1 (x2 + (-1)) r)) ∧ (¬ (f (a + 31) ((x2).toNat)) = 0 → ((0 ≤ x3 ∧ x3 < 31) ∧ (0 ≤ x2 ∧ x2 < 256)) ∧ ((¬ (f (a + 32) ((x2).toNat)) = 0 → ((0 ≤ x2 ∧ x2 < 256) ∧ (-2147483648 ≤ (x3 + 1) ∧ (x3 + 1) ≤ 2147483647)) ∧ (A_X12_writes_164 σ (up2 f (a + 32) ((x2).toNat) 1) g a x1 x2 (x3 + 1) r)) ∧ ((f (a + 32) ((x2).toNat)) = 0 → (((iOr x2 (p2 x3)) = x2 → ((0 ≤ x2 ∧ x2 < 256) ∧ (-2147483648 ≤ (x3 + 1) ∧ (x3 + 1) ≤ 2147483647)) ∧ (A_X12_writes_164 σ (up2 f (a + 32) ((x2).toNat) 0) g a x1 x2 (x3 + 1) r)) ∧ (¬ (iOr x2 (p2 x3)) = x2 → ((-2147483648 ≤ x1 ∧ x1 ≤ 2147483647)) ∧ ((¬ (iAnd (iOr x2 (p2 x3)) (-1 - x1)) = 0 → ((0 ≤ x2 ∧ x2 < 256) ∧ (-2147483648 ≤ (x3 + 1) ∧ (x3 + 1) ≤ 2147483647)) ∧ (A_X12_writes_164 σ (up2 f (a + 32) ((x2).toNat) 0) g a x1 x2 (x3 + 1) r)) ∧ ((iAnd (iOr x2 (p2 x3)) (-1 - x1)) = 0 → ((0 ≤ (iOr x2 (p2 x3)) ∧ (iOr x2 (p2 x3)) < 256)) ∧ (((f (a + 32) (((iOr x2 (p2 x3))).toNat)) = 0 → ((0 ≤ x2 ∧ x2 < 256) ∧ (-2147483648 ≤ (x3 + 1) ∧ (x3 + 1) ≤ 2147483647)) ∧ (A_X12_writes_164 σ (up2 f (a + 32) ((x2).toNat) 0) g a x1 x2 (x3 + 1) r)) ∧ (¬ (f (a + 32) (((iOr x2 (p2 x3))).toNat)) = 0 → ((0 ≤ x2 ∧ x2 < 256) ∧ (-2147483648 ≤ (x3 + 1) ∧ (x3 + 1) ≤ 2147483647)) ∧ (A_X12_writes_164 σ (up2 f (a + 32) ((x2).toNat) 1) g a x1 x2 (x3 + 1) r)))))))))))))) : A_X12_writes_164 σ f g a x1 x2 x3 r := fun y4 => (show Gx mt 6 cd_X12_writes (il σ f g) b_X12_writes_164 [some (vR 12 (some a)), some (vI x1), some (vI x2), some (vI x3), y4] [] r from (go_loadI rfl (go_pushI rfl (gq_icmp_ge (fun e3 => have h1 := h.1 e3; (go_iinc rfl h1.1 rfl (go_goto (h1.2 _ _)))) (fun e3 => have h2 := h.2 e3; (go_loadA rfl (gi_getR (Sh12.r48 hs) (go_loadI rfl (gi_zald (inl_ (Sh12.l48 hs) h2.1) (gq_if_eq (fun e6 => have h4 := h2.2.1 e6; (go_iinc rfl h4.1 rfl (go_goto (h4.2 _ _)))) (fun e6 => have h5 := h2.2.2 e6; (go_loadI rfl (go_pushI rfl (go_loadI rfl (go_ishl (iShl_1 h5.1.1) (go_ior rfl (go_stoI rfl rfl (go_loadA rfl (gi_getR (Sh12.r49 hs) (go_loadI rfl (go_loadA rfl (gi_getR (Sh12.r49 hs) (go_loadI rfl (gi_zald (inl_ (Sh12.l49 hs) h5.1.2) (gq_if_ne (fun e9 => have h7 := h5.2.1 e9; (go_pushI rfl (go_goto (gi_zast (inl_ (Sh12.l49 hs) h7.1.1) ⟨by decide, by decide⟩ (go_iinc rfl h7.1.2 rfl (go_goto (h7.2 _))))))) (fun e9 => have h8 := h5.2.2 e9; (go_loadI rfl (go_loadI rfl (gq_icmp_eq (fun e12 => have h10 := h8.1 e12; (go_pushI rfl (go_fall (gi_zast (inl_ (Sh12.l49 hs) h10.1.1) ⟨by decide, by decide⟩ (go_iinc rfl h10.1.2 rfl (go_goto (h10.2 _))))))) (fun e12 => have h11 := h8.2 e12; (go_loadI rfl (go_loadI rfl (go_pushI rfl (go_ixor (iXor_m1 h11.1) (go_iand rfl (gq_if_ne (fun e15 => have h13 := h11.2.1 e15; (go_pushI rfl (go_fall (gi_zast (inl_ (Sh12.l49 hs) h13.1.1) ⟨by decide, by decide⟩ (go_iinc rfl h13.1.2 rfl (go_goto (h13.2 _))))))) (fun e15 => have h14 := h11.2.2 e15; (go_loadA rfl (gi_getR (Sh12.r49 hs) (go_loadI rfl (gi_zald (inl_ (Sh12.l49 hs) h14.1) (gq_if_eq (fun e18 => have h16 := h14.2.1 e18; (go_pushI rfl (go_fall (gi_zast (inl_ (Sh12.l49 hs) h16.1.1) ⟨by decide, by decide⟩ (go_iinc rfl h16.1.2 rfl (go_goto (h16.2 _))))))) (fun e18 => have h17 := h14.2.2 e18; (go_fall (go_pushI rfl (go_goto (gi_zast (inl_ (Sh12.l49 hs) h17.1.1) ⟨by decide, by decide⟩ (go_iinc rfl h17.1.2 rfl (go_goto (h17.2 _))))))))))))))))))))))))))))))))))))))))))))))))))
theorem bk_X12_writes_262 {σ : St} {f : FI} {g : FL} {a : Nat} {x1 : Int} {x2 : Int} {r : St × List Vl} (hs : Sh12 σ a) (h : ((x2 = x1 → (r = ((il σ f g), [vI (f a 51)]))) ∧ (¬ x2 = x1 → (A_X12_writes_269 σ f g a x1 x2 0 r)))) : A_X12_writes_262 σ f g a x1 x2 r := fun y3 y4 => (show Gx mt 6 cd_X12_writes (il σ f g) b_X12_writes_262 [some (vR 12 (some a)), some (vI x1), some (vI x2), y3, y4] [] r from (go_loadI rfl (go_loadI rfl (gq_icmp_eq (fun e3 => have h1 := h.1 e3; (go_loadA rfl (gi_getI (h1 ▸ gq_retI)))) (fun e3 => have h2 := h.2 e3; (go_pushI rfl (go_stoI rfl rfl (go_fall (h2 _)))))))))
theorem bk_X12_writes_269 {σ : St} {f : FI} {g : FL} {a : Nat} {x1 : Int} {x2 : Int} {x3 : Int} {r : St × List Vl} (hs : Sh12 σ a) (h : ((-2147483648 ≤ x2 ∧ x2 ≤ 2147483647) ∧ (0 ≤ x3 ∧ x3 < 32)) ∧ ((((x2 / p2 x3) % 2) = 1 → ((-2147483648 ≤ (x3 + 1) ∧ (x3 + 1) ≤ 2147483647)) ∧ (A_X12_writes_269 σ f g a x1 x2 (x3 + 1) r)) ∧ (¬ ((x2 / p2 x3) % 2) = 1 → ((-2147483648 ≤ x1 ∧ x1 ≤ 2147483647) ∧ (0 ≤ x3 ∧ x3 < 32)) ∧ ((((x1 / p2 x3) % 2) = 0 → ((-2147483648 ≤ (x3 + 1) ∧ (x3 + 1) ≤ 2147483647)) ∧ (A_X12_writes_269 σ f g a x1 x2 (x3 + 1) r)) ∧ (¬ ((x1 / p2 x3) % 2) = 0 → ((0 ≤ x3 ∧ x3 < 31) ∧ (0 ≤ (iOr x2 (p2 x3)) ∧ (iOr x2 (p2 x3)) < 256)) ∧ ((¬ (f (a + 32) (((iOr x2 (p2 x3))).toNat)) = 0 → ((0 ≤ (f a 51) ∧ (f a 51) < 8) ∧ (-2147483648 ≤ ((f a 51) + 1) ∧ ((f a 51) + 1) ≤ 2147483647) ∧ (0 ≤ x3 ∧ x3 < 31)) ∧ (A_X12_writes_262 σ (up2 (up2 f (a + 33) (((f a 51)).toNat) x3) a 51 ((f a 51) + 1)) g a x1 (iOr x2 (p2 x3)) r)) ∧ ((f (a + 32) (((iOr x2 (p2 x3))).toNat)) = 0 → ((-2147483648 ≤ (x3 + 1) ∧ (x3 + 1) ≤ 2147483647)) ∧ (A_X12_writes_269 σ f g a x1 x2 (x3 + 1) r)))))))) : A_X12_writes_269 σ f g a x1 x2 x3 r := fun y4 => (show Gx mt 6 cd_X12_writes (il σ f g) b_X12_writes_269 [some (vR 12 (some a)), some (vI x1), some (vI x2), some (vI x3), y4] [] r from (go_loadI rfl (go_loadI rfl (go_ishr (iShr_v h.1.1 h.1.2) (go_pushI rfl (go_iand (iAnd_m1 _) (go_pushI rfl (gq_icmp_eq (fun e3 => have h1 := h.2.1 e3; (go_iinc rfl h1.1 rfl (go_goto (h1.2 _)))) (fun e3 => have h2 := h.2.2 e3; (go_loadI rfl (go_loadI rfl (go_ishr (iShr_v h2.1.1 h2.1.2) (go_pushI rfl (go_iand (iAnd_m1 _) (gq_if_eq (fun e6 => have h4 := h2.2.1 e6; (go_iinc rfl h4.1 rfl (go_goto (h4.2 _)))) (fun e6 => have h5 := h2.2.2 e6; (go_loadA rfl (gi_getR (Sh12.r49 hs) (go_loadI rfl (go_pushI rfl (go_loadI rfl (go_ishl (iShl_1 h5.1.1) (go_ior rfl (gi_zald (inl_ (Sh12.l49 hs) h5.1.2) (gq_if_ne (fun e9 => have h7 := h5.2.1 e9; (go_loadA rfl (gi_getR (Sh12.r50 hs) (go_loadA rfl (gi_getI (go_loadI rfl (gi_iast (inl_ (Sh12.l50 hs) h7.1.1) (go_loadA rfl (go_dupA (gi_getIe (u2_a (by omega)) (go_pushI rfl (go_iadd h7.1.2.1 (gi_putI (go_loadI rfl (go_pushI rfl (go_loadI rfl (go_ishl (iShl_1 h7.1.2.2) (go_ior rfl (go_stoI rfl rfl (go_goto (h7.2 _ _))))))))))))))))))))) (fun e9 => have h8 := h5.2.2 e9; (go_fall (go_iinc rfl h8.1 rfl (go_goto (h8.2 _))))))))))))))))))))))))))))))
theorem fb_least {P : Nat → Prop} : ∀ n, P n → ∃ m, m ≤ n ∧ P m ∧ ∀ c, c < m → ¬ P c := by
  intro n
  induction n using Nat.strongRecOn with
  | _ n ih =>
    intro h
    by_cases z : ∃ c, c < n ∧ P c
    · obtain ⟨c, hc, hp⟩ := z
      obtain ⟨m, h1, h2, h3⟩ := ih c hc hp
      exact ⟨m, by omega, h2, h3⟩
    · exact ⟨n, Nat.le_refl n, h, fun c hc hp => z ⟨c, hc, hp⟩⟩
theorem x_endsM {σ : St} {f : FI} {g : FL} {B : Nat} {nn : Nat → Nat} {s : Int} (hm : Sh12 σ (B + 165)) (hB0 : ITb f B nn) (hL : IL f g B) (hS : IS f B s) (hs : s < 1999990000) : ∃ (f' : FI) (s' : Int), Ex mt 5 267 (il σ f g) [vR 12 (some (B + 165))] (il σ f' g, []) ∧ (∀ q : Nat, q < 512 → f' (B + 165 + 26) q = enD (GB f g B 0) (q : Int) ∧ f' (B + 165 + 27) q = enD (GB f g B 255) (q : Int)) ∧ (IS f' B s' ∧ s' ≤ s + 1024) ∧ Fr (Scr3 B) f f' := by
  have loop2 : ∀ k i : Nat, i + k = 512 → ∀ (fi : FI) (si : Int), IS fi B si → si ≤ s + 2 * i → Fr (Scr3 B) f fi → (∀ q : Nat, q < i → fi (B + 165 + 26) q = enD (GB f g B 0) (q : Int) ∧ fi (B + 165 + 27) q = enD (GB f g B 255) (q : Int)) → ∃ (f' : FI) (s' : Int), A_X12_ends__2 σ fi g (B + 165) (i : Int) (il σ f' g, []) ∧ (∀ q : Nat, q < 512 → f' (B + 165 + 26) q = enD (GB f g B 0) (q : Int) ∧ f' (B + 165 + 27) q = enD (GB f g B 255) (q : Int)) ∧ (IS f' B s' ∧ s' ≤ s + 1024) ∧ Fr (Scr3 B) f f' := by
    intro k
    induction k with
    | zero =>
      intro i hi fi si hSi hsi hF hj
      obtain rfl : i = 512 := by omega
      exact ⟨fi, si, bk_X12_ends__2 hm ⟨fun _ => rfl, fun z => absurd (by decide) z⟩, hj, ⟨hSi, by omega⟩, hF⟩
    | succ k ih =>
      intro i hi fi si hSi hsi hF hj
      obtain ⟨f1, -, E1, -, -, -, -, S1, F1⟩ := x_endsAs (g := g) (p := (i : Int)) (b := 0) hm (Scr3.itb hB0 hF) (Scr3.il hL hF) hSi (by omega) (by omega) (by omega)
      have e0 : enD (GB fi g B 0) (i : Int) = enD (GB f g B 0) (i : Int) := enD_cong fun z hz => GB_of hz (Scr3.T hF) rfl
      rw [e0] at E1
      have F1' := (hF.trans (Scr3.of F1)).up (a := B + 165 + 26) (k := i) (v := enD (GB f g B 0) (i : Int)) (Or.inr (Or.inr (Or.inr (Or.inl rfl))))
      have S1' : IS (up2 f1 (B + 165 + 26) i (enD (GB f g B 0) (i : Int))) B (si + 1) := S1.of (u2_a (by omega)) (up2_ne (by omega))
      obtain ⟨f2, -, E2, -, -, -, -, S2, F2⟩ := x_endsAs (g := g) (p := (i : Int)) (b := 255) hm (Scr3.itb hB0 F1') (Scr3.il hL F1') S1' (by omega) (by omega) (by omega)
      have e1 : enD (GB (up2 f1 (B + 165 + 26) i (enD (GB f g B 0) (i : Int))) g B 255) (i : Int) = enD (GB f g B 255) (i : Int) := enD_cong fun z hz => GB_of hz (Scr3.T F1') rfl
      rw [e1] at E2
      have F2' := (F1'.trans (Scr3.of F2)).up (a := B + 165 + 27) (k := i) (v := enD (GB f g B 255) (i : Int)) (Or.inr (Or.inr (Or.inr (Or.inr rfl))))
      have S2' : IS (up2 f2 (B + 165 + 27) i (enD (GB f g B 255) (i : Int))) B (si + 1 + 1) := S2.of (u2_a (by omega)) (up2_ne (by omega))
      obtain ⟨f', s', A, r⟩ := ih (i + 1) (by omega) _ _ S2' (by omega) F2' (fun q hq => by
        have g1 : ∀ j, f2 (B + 165 + 26) j = up2 f1 (B + 165 + 26) i (enD (GB f g B 0) (i : Int)) (B + 165 + 26) j := fun j => F2 _ j (by unfold Scr; omega)
        have g2 : ∀ j, f2 (B + 165 + 27) j = fi (B + 165 + 27) j := fun j => by rw [F2 _ j (by unfold Scr; omega), u2_a (by omega), F1 _ j (by unfold Scr; omega)]
        rw [u2_a (by omega), g1]
        by_cases z : q = i
        · subst z
          exact ⟨u2_s, u2_s⟩
        · rw [u2_i z, u2_i z, g2, F1 _ q (by unfold Scr; omega)]
          exact hj q (by omega))
      exact ⟨f', s', bk_X12_ends__2 hm ⟨fun z => absurd z (by omega), fun _ => ⟨f1, g, _, E1, by omega, f2, g, _, E2, ⟨by omega, by omega⟩, A⟩⟩, r⟩
  obtain ⟨f', s', A, r⟩ := loop2 512 0 rfl f s hS (by omega) Fr.rfl' (fun q hq => absurd hq (Nat.not_lt_zero q))
  exact ⟨f', s', bk_X12_ends__0 hm A, r⟩
def Sub (S all : Nat) : Prop := ∀ i, i < 8 → S.testBit i = true → all.testBit i = true
theorem sub_iff {S all : Nat} (hS : S < 256) (ha : all < 256) : iAnd (S : Int) (-1 - (all : Int)) = 0 ↔ Sub S all := by
  rw [iAnd_not (by omega) (by omega)]
  have hl : S &&& (2 ^ 32 - (all + 1)) < 2 ^ 8 := Nat.lt_of_le_of_lt Nat.and_le_left hS
  constructor
  · intro z i hi hb
    have z' : S &&& (2 ^ 32 - (all + 1)) = 0 := by omega
    have := and_not_bit (a := S) (s := all) (i := i) (by omega) (by omega)
    rw [z', Nat.zero_testBit, hb] at this
    simpa using this.symm
  · intro z
    have : S &&& (2 ^ 32 - (all + 1)) = 0 := bit_ext (n := 8) hl (by decide) fun i hi => by
      rw [and_not_bit (by omega) (by omega), Nat.zero_testBit]
      have := z i hi
      cases h : S.testBit i
      · rfl
      · rw [this h]; rfl
    rw [this]
    rfl
def b01 (x : Int) (P : Prop) : Prop := (x = 1 ∧ P) ∨ (x = 0 ∧ ¬ P)
theorem b01.t {x : Int} {P : Prop} (h : b01 x P) : ¬ x = 0 ↔ P := by
  rcases h with ⟨rfl, h⟩ | ⟨rfl, h⟩
  · exact ⟨fun _ => h, fun _ => by decide⟩
  · exact ⟨fun z => absurd rfl z, fun z => absurd z h⟩
theorem b01.cong {x : Int} {P Q : Prop} (h : b01 x P) (e : P ↔ Q) : b01 x Q := h.elim (fun z => Or.inl ⟨z.1, e.mp z.2⟩) (fun z => Or.inr ⟨z.1, fun y => z.2 (e.mpr y)⟩)
theorem Gd_of {f f' : FI} {g : FL} {B S : Nat} (e : SameT f f' B) (e2 : f' (B + 43) 2 = f (B + 43) 2) : Gd f' g B S ↔ Gd f g B S := by
  have h1 : ∀ (b : Int) (q : Int), enD (GB f' g B b) q = enD (GB f g B b) q := fun b q => enD_cong fun z hz => GB_of hz e rfl
  unfold Gd En
  simp only [h1, e2]
abbrev InF (B S : Nat) : Nat → Nat → Prop := fun a k => (a = B + 165 ∧ 38 ≤ k ∧ k ≤ 41) ∨ a = B + 165 + 23 ∨ a = B + 165 + 24 ∨ (a = B + 165 + 31 ∧ k = S)
theorem m_good {σ : St} {f : FI} {g : FL} {B S all : Nat} {nn : Nat → Nat} {s : Int} (hm : Sh12 σ (B + 165)) (hB0 : ITb f B nn) (hL : IL f g B) (hE : IE f B) (hS : S < 256) (hsl : s < 1999990000) (hO : ∀ q : Nat, q < 512 → f (B + 165 + 26) q = enD (GB f g B 0) (q : Int) ∧ f (B + 165 + 27) q = enD (GB f g B 255) (q : Int)) : ∀ k q : Nat, q + k = 512 → ∀ (fi : FI) (si : Int), IS fi B si → si ≤ s + q → Fr (InF B S) f fi → fi (B + 165 + 31) S = 1 → (∀ j : Nat, j < q → En f B j → enD (GB f g B (S : Int)) (j : Int) = enD (GB f g B 0) (j : Int) ∨ enD (GB f g B (S : Int)) (j : Int) = enD (GB f g B 255) (j : Int)) → ∃ (f1 : FI) (s1 : Int), IS f1 B s1 ∧ s1 ≤ s + 512 ∧ Fr (InF B S) f f1 ∧ b01 (f1 (B + 165 + 31) S) (Gd f g B S) ∧ ∀ r, A_X12_writes_40 σ f1 g (B + 165) (all : Int) ((S : Int) + 1) r → A_X12_writes_68 σ fi g (B + 165) (all : Int) (S : Int) (q : Int) r := by
  intro k
  induction k with
  | zero =>
    intro q hq fi si hSi hsi hF h1 hj
    obtain rfl : q = 512 := by omega
    exact ⟨fi, si, hSi, by omega, hF, Or.inl ⟨h1, hj⟩, fun r A => bk_X12_writes_68 hm ⟨fun _ => ⟨by omega, A⟩, fun z => absurd (by decide) z⟩⟩
  | succ k ih =>
    intro q hq fi si hSi hsi hF h1 hj
    have e33 : fi (B + 165) 33 = f (B + 43) 2 := by rw [hF _ _ (by omega), hE.1]
    have ob : ((0 : Int) ≤ (q : Int) ∧ (q : Int) < 512) ∧ ((0 : Int) ≤ fi (B + 165) 33 ∧ fi (B + 165) 33 ≤ 255) := by rw [e33]; exact ⟨by omega, hE.2⟩
    have n31 : ¬ fi (B + 165 + 31) (S : Int).toNat = 0 := by
      show ¬ fi (B + 165 + 31) S = 0
      rw [h1]
      decide
    by_cases hEn : hB (f (B + 43) 2) ((q : Int) / 64)
    · have eT : SameT f fi B := fun a h1 h2 => by
        funext j
        exact hF a j (by omega)
      have hBi : ITb fi B nn := hB0.fr eT fun a h1 h2 => by
        funext j
        exact hF a j (by omega)
      have hLi : IL fi g B := hL.fr (by
        funext j
        exact hF _ j (by omega)) (hF _ _ (by omega)) rfl
      obtain ⟨f2, -, E2, -, -, -, -, S2, F2⟩ := x_endsAs (g := g) (p := (q : Int)) (b := (S : Int)) hm hBi hLi hSi (by omega) (by omega) (by omega)
      have e0 : enD (GB fi g B (S : Int)) (q : Int) = enD (GB f g B (S : Int)) (q : Int) := enD_cong fun z hz => GB_of hz eT rfl
      rw [e0] at E2
      have F2' : Fr (InF B S) f f2 := fun a k hk => by rw [F2 a k (by unfold Scr; omega), hF a k hk]
      have N := x_neiM (σ := σ) (f := f2) (g := g) (p := (q : Int)) (v := enD (GB f g B (S : Int)) (q : Int)) hm (by omega)
      have w1 : f2 (B + 165 + 26) (q : Int).toNat = enD (GB f g B 0) (q : Int) := by rw [F2' _ _ (by omega)]; exact (hO q (by omega)).1
      have w2 : f2 (B + 165 + 27) (q : Int).toNat = enD (GB f g B 255) (q : Int) := by rw [F2' _ _ (by omega)]; exact (hO q (by omega)).2
      rw [w1, w2] at N
      by_cases ok : enD (GB f g B (S : Int)) (q : Int) = enD (GB f g B 0) (q : Int) ∨ enD (GB f g B (S : Int)) (q : Int) = enD (GB f g B 255) (q : Int)
      · obtain ⟨f3, s3, a1, a2, a3, a4, a5⟩ := ih (q + 1) (by omega) (up2 f2 (B + 165 + 31) S 1) (si + 1) (S2.of (u2_a (by omega)) (up2_ne (by omega))) (by omega) (F2'.up (Or.inr (Or.inr (Or.inr ⟨rfl, rfl⟩)))) u2_s fun j hj2 hEj => by
          by_cases z : j = q
          · subst z; exact ok
          · exact hj j (by omega) hEj
        exact ⟨f3, s3, a1, a2, a3, a4, fun r A => bk_X12_writes_68 hm ⟨fun z => absurd z (by omega), fun _ => ⟨by omega, fun z => absurd z n31, fun _ => ⟨ob, fun z => absurd (by rw [e33]; exact hEn) z, fun _ => ⟨f2, g, _, E2, f2, g, _, N, fun z => absurd (bI_f fun y => ok.elim y.1 y.2) z, fun _ => ⟨⟨by omega, by omega⟩, a5 r A⟩⟩⟩⟩⟩⟩
      · refine ⟨up2 f2 (B + 165 + 31) S 0, si + 1, S2.of (u2_a (by omega)) (up2_ne (by omega)), by omega, F2'.up (Or.inr (Or.inr (Or.inr ⟨rfl, rfl⟩))), Or.inr ⟨u2_s, fun z => ok (z q (by omega) hEn)⟩, fun r A => bk_X12_writes_68 hm ⟨fun z => absurd z (by omega), fun _ => ⟨by omega, fun z => absurd z n31, fun _ => ⟨ob, fun z => absurd (by rw [e33]; exact hEn) z, fun _ => ⟨f2, g, _, E2, f2, g, _, N, fun _ => ⟨⟨by omega, by omega⟩, ?_⟩, fun z => absurd ((bI_0 _).mp z) fun y => y ⟨fun x => ok (Or.inl x), fun x => ok (Or.inr x)⟩⟩⟩⟩⟩⟩
        by_cases z : (512 : Int) ≤ (q : Int) + 1
        · exact bk_X12_writes_68 hm ⟨fun _ => ⟨by omega, A⟩, fun y => absurd z y⟩
        · exact bk_X12_writes_68 hm ⟨fun y => absurd y z, fun _ => ⟨by omega, fun _ => ⟨by omega, A⟩, fun y => absurd u2_s y⟩⟩
    · obtain ⟨f3, s3, a1, a2, a3, a4, a5⟩ := ih (q + 1) (by omega) (up2 fi (B + 165 + 31) S 1) si (hSi.of (u2_a (by omega)) (up2_ne (by omega))) (by omega) (hF.up (Or.inr (Or.inr (Or.inr ⟨rfl, rfl⟩)))) u2_s fun j hj2 hEj => by
        by_cases z : j = q
        · subst z; exact absurd hEj hEn
        · exact hj j (by omega) hEj
      exact ⟨f3, s3, a1, a2, a3, a4, fun r A => bk_X12_writes_68 hm ⟨fun z => absurd z (by omega), fun _ => ⟨by omega, fun z => absurd z n31, fun _ => ⟨ob, fun _ => ⟨⟨by omega, by omega⟩, a5 r A⟩, fun z => absurd (by rw [e33] at z; exact z) hEn⟩⟩⟩⟩
abbrev Scr4 (B : Nat) : Nat → Nat → Prop := fun a k => (a = B + 165 ∧ 38 ≤ k ∧ k ≤ 41) ∨ a = B + 165 + 23 ∨ a = B + 165 + 24 ∨ a = B + 165 + 31
theorem m_goods {σ : St} {f : FI} {g : FL} {B all : Nat} {nn : Nat → Nat} {s : Int} (hm : Sh12 σ (B + 165)) (hB0 : ITb f B nn) (hL : IL f g B) (hE : IE f B) (ha : all < 256) (hsl : s < 1999800000) (hO : ∀ q : Nat, q < 512 → f (B + 165 + 26) q = enD (GB f g B 0) (q : Int) ∧ f (B + 165 + 27) q = enD (GB f g B 255) (q : Int)) : ∀ k S : Nat, S + k = 256 → ∀ (fi : FI) (si : Int), IS fi B si → si ≤ s + 512 * S → Fr (Scr4 B) f fi → (∀ T : Nat, T < S → b01 (fi (B + 165 + 31) T) (Sub T all ∧ Gd f g B T)) → ∃ (f1 : FI) (s1 : Int), IS f1 B s1 ∧ s1 ≤ s + 131072 ∧ Fr (Scr4 B) f f1 ∧ (∀ T : Nat, T < 256 → b01 (f1 (B + 165 + 31) T) (Sub T all ∧ Gd f g B T)) ∧ ∀ r, A_X12_writes_133 σ f1 g (B + 165) (all : Int) 255 r → A_X12_writes_40 σ fi g (B + 165) (all : Int) (S : Int) r := by
  intro k
  induction k with
  | zero =>
    intro S hS fi si hSi hsi hF hT
    obtain rfl : S = 256 := by omega
    exact ⟨fi, si, hSi, by omega, hF, hT, fun r A => bk_X12_writes_40 hm ⟨fun _ => A, fun z => absurd (by decide) z⟩⟩
  | succ k ih =>
    intro S hS fi si hSi hsi hF hT
    have eT : SameT f fi B := fun a h1 h2 => by
      funext j
      exact hF a j (by omega)
    have e43 : fi (B + 43) 2 = f (B + 43) 2 := hF _ _ (by omega)
    -- what holds of any state that differs only there
    have up : ∀ v : Int, Fr (Scr4 B) f (up2 fi (B + 165 + 31) S v) := fun v => hF.up (Or.inr (Or.inr (Or.inr rfl)))
    by_cases hsub : Sub S all
    · have eT1 : SameT f (up2 fi (B + 165 + 31) S 1) B := fun a h1 h2 => by
        funext j
        exact up 1 a j (by omega)
      have eV : ∀ b q : Int, enD (GB (up2 fi (B + 165 + 31) S 1) g B b) q = enD (GB f g B b) q := fun b q => enD_cong fun z hz => GB_of hz eT1 rfl
      obtain ⟨f1, s1, a1, a2, a3, a4, a5⟩ := m_good (all := all) (s := si) (f := up2 fi (B + 165 + 31) S 1) (S := S) hm (hB0.fr eT1 fun a h1 h2 => by
        funext j
        exact up 1 a j (by omega)) (hL.fr (by
        funext j
        exact up 1 _ j (by omega)) (up 1 _ _ (by omega)) rfl) (by
        unfold IE at hE ⊢
        rw [up 1 _ _ (by omega), up 1 _ _ (by omega)]
        exact hE) (by omega) (by omega) (fun q hq => by
        rw [eV, eV, up 1 _ _ (by omega), up 1 _ _ (by omega)]
        exact hO q hq) 512 0 rfl (up2 fi (B + 165 + 31) S 1) si (hSi.of (u2_a (by omega)) (up2_ne (by omega))) (by omega) Fr.rfl' u2_s (fun j hj => absurd hj (Nat.not_lt_zero j))
      have gd : Gd (up2 fi (B + 165 + 31) S 1) g B S ↔ Gd f g B S := Gd_of eT1 (up 1 _ _ (by omega))
      obtain ⟨f2, s2, c1, c2, c3, c4, c5⟩ := ih (S + 1) (by omega) f1 s1 a1 (by omega) (fun a j hj => by rw [a3 a j (by omega), up 1 a j hj]) (fun T hTS => by
        by_cases z : T = S
        · subst z
          exact a4.cong ⟨fun y => ⟨hsub, gd.mp y⟩, fun y => gd.mpr y.2⟩
        · rw [a3 _ _ (by omega), u2_i z]
          exact hT T (by omega))
      exact ⟨f2, s2, c1, c2, c3, c4, fun r A => bk_X12_writes_40 hm ⟨fun z => absurd z (by omega), fun _ => ⟨by omega, fun z => absurd ((sub_iff (by omega) ha).mpr hsub) z, fun _ => ⟨by omega, a5 r (c5 r A)⟩⟩⟩⟩
    · obtain ⟨f2, s2, c1, c2, c3, c4, c5⟩ := ih (S + 1) (by omega) (up2 fi (B + 165 + 31) S 0) si (hSi.of (u2_a (by omega)) (up2_ne (by omega))) (by omega) (up 0) (fun T hTS => by
        by_cases z : T = S
        · subst z
          exact Or.inr ⟨u2_s, fun y => hsub y.1⟩
        · rw [u2_i z]
          exact hT T (by omega))
      refine ⟨f2, s2, c1, c2, c3, c4, fun r A => bk_X12_writes_40 hm ⟨fun z => absurd z (by omega), fun _ => ⟨by omega, fun z => ⟨by omega, ?_⟩, fun z => absurd ((sub_iff (by omega) ha).mp z) hsub⟩⟩⟩
      exact bk_X12_writes_68 hm ⟨fun z => absurd z (by decide), fun _ => ⟨by omega, fun _ => ⟨by omega, c5 r A⟩, fun z => absurd u2_s z⟩⟩
