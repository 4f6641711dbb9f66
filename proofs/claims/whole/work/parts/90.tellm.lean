/-! tell: the model prints, and the call pair -/
theorem bk_X12_later_0 {σ : St} {f : FI} {g : FL} {a : Nat} {x1 : Int} {r : St × List Vl} (hs : Sh12 σ a) (h : ((0 ≤ (f a 68) ∧ (f a 68) < 800) ∧ (-2147483648 ≤ ((f a 68) + 1) ∧ ((f a 68) + 1) ≤ 2147483647)) ∧ (r = ((il σ (up2 (up2 f (a + 46) (((f a 68)).toNat) x1) a 68 ((f a 68) + 1)) g), []))) : Ex mt 0 286 (il σ f g) [vR 12 (some a), vI x1] r := Ex.mk mt_286 (show Gx mt 0 cd_X12_later (il σ f g) b_X12_later_0 [some (vR 12 (some a)), some (vI x1)] [] r from (go_loadA rfl (gi_getR (Sh12.r66 hs) (go_loadA rfl (gi_getI (go_loadI rfl (gi_iast (inl_ (Sh12.l66 hs) h.1.1) (go_loadA rfl (go_dupA (gi_getIe (u2_a (by omega)) (go_pushI rfl (go_iadd h.1.2 (gi_putI (h.2 ▸ gq_retV))))))))))))))
theorem bk_X12_laterNode_0 {σ : St} {f : FI} {g : FL} {a : Nat} {x1 : Int} {x2 : Int} {r : St × List Vl} (hs : Sh12 σ a) (h : ((x2 = 0 → (∃ (f4 : FI) (g5 : FL), Ex mt 0 286 (il σ f g) [vR 12 (some a), vI x1] ((il σ f4 g5), []) ∧ ((x2 = 0 → (r = ((il σ f4 g5), []))) ∧ (¬ x2 = 0 → (∃ (f10 : FI) (g11 : FL), Ex mt 0 286 (il σ f4 g5) [vR 12 (some a), vI 10040] ((il σ f10 g11), []) ∧ (r = ((il σ f10 g11), []))))))) ∧ (¬ x2 = 0 → (∃ (f15 : FI) (g16 : FL), Ex mt 0 286 (il σ f g) [vR 12 (some a), vI 10041] ((il σ f15 g16), []) ∧ (∃ (f18 : FI) (g19 : FL), Ex mt 0 286 (il σ f15 g16) [vR 12 (some a), vI x1] ((il σ f18 g19), []) ∧ ((x2 = 0 → (r = ((il σ f18 g19), []))) ∧ (¬ x2 = 0 → (∃ (f24 : FI) (g25 : FL), Ex mt 0 286 (il σ f18 g19) [vR 12 (some a), vI 10040] ((il σ f24 g25), []) ∧ (r = ((il σ f24 g25), [])))))))))) : Ex mt 1 287 (il σ f g) [vR 12 (some a), vI x1, vI x2] r := Ex.mk mt_287 (show Gx mt 1 cd_X12_laterNode (il σ f g) b_X12_laterNode_0 [some (vR 12 (some a)), some (vI x1), some (vI x2)] [] r from (go_loadI rfl (gq_if_eq (fun e3 => have h1 := h.1 e3; (go_loadA rfl (go_loadI rfl (Exists.elim h1 fun f4 w14 => Exists.elim w14 fun g5 h6 => (go_callV rfl rfl rfl h6.1 (go_loadI rfl (gq_if_eq (fun e9 => have h7 := h6.2.1 e9; (h7 ▸ gq_retV)) (fun e9 => have h8 := h6.2.2 e9; (go_loadA rfl (go_pushI rfl (Exists.elim h8 fun f10 w13 => Exists.elim w13 fun g11 h12 => (go_callV rfl rfl rfl h12.1 (go_fall (h12.2 ▸ gq_retV)))))))))))))) (fun e3 => have h2 := h.2 e3; (go_loadA rfl (go_pushI rfl (Exists.elim h2 fun f15 w29 => Exists.elim w29 fun g16 h17 => (go_callV rfl rfl rfl h17.1 (go_fall (go_loadA rfl (go_loadI rfl (Exists.elim h17.2 fun f18 w28 => Exists.elim w28 fun g19 h20 => (go_callV rfl rfl rfl h20.1 (go_loadI rfl (gq_if_eq (fun e23 => have h21 := h20.2.1 e23; (h21 ▸ gq_retV)) (fun e23 => have h22 := h20.2.2 e23; (go_loadA rfl (go_pushI rfl (Exists.elim h22 fun f24 w27 => Exists.elim w27 fun g25 h26 => (go_callV rfl rfl rfl h26.1 (go_fall (h26.2 ▸ gq_retV))))))))))))))))))))))
theorem bk_X12_put1_0 {σ : St} {f : FI} {g : FL} {a : Nat} {x1 : Int} {r : St × List Vl} (hs : Sh12 σ a) (h : ((0 ≤ (f a 67) ∧ (f a 67) < 800) ∧ (-128 ≤ (i2b x1) ∧ (i2b x1) ≤ 127) ∧ (-2147483648 ≤ ((f a 67) + 1) ∧ ((f a 67) + 1) ≤ 2147483647)) ∧ (r = ((il σ (up2 (up2 f (a + 45) (((f a 67)).toNat) (i2b x1)) a 67 ((f a 67) + 1)) g), []))) : Ex mt 0 288 (il σ f g) [vR 12 (some a), vI x1] r := Ex.mk mt_288 (show Gx mt 0 cd_X12_put1 (il σ f g) b_X12_put1_0 [some (vR 12 (some a)), some (vI x1)] [] r from (go_loadA rfl (gi_getR (Sh12.r65 hs) (go_loadA rfl (gi_getI (go_loadI rfl (go_i2b rfl (gi_bast (inl_ (Sh12.l65 hs) h.1.1) h.1.2.1 (go_loadA rfl (go_dupA (gi_getIe (u2_a (by omega)) (go_pushI rfl (go_iadd h.1.2.2 (gi_putI (h.2 ▸ gq_retV)))))))))))))))
def A_X12_tells_69 (σ : St) (f : FI) (g : FL) (a : Nat) (x2 : Int) (x4 : Int) (s0 : Nat) (s1 : Int) (s2 : Int) (r : St × List Vl) : Prop := ∀ (y1 : Int) (y3 : Int), Gx mt 2 cd_X12_tells (il σ f g) (cd_X12_tells 69) [some (vR 12 (some a)), some (vI y1), some (vI x2), some (vI y3), some (vI x4)] [vI s2, vI s1, vR 12 (some s0)] r
def A_X12_tells_89 (σ : St) (f : FI) (g : FL) (a : Nat) (x2 : Int) (x4 : Int) (s0 : Nat) (s1 : Int) (s2 : Int) (r : St × List Vl) : Prop := ∀ (y1 : Int) (y3 : Int), Gx mt 2 cd_X12_tells (il σ f g) (cd_X12_tells 89) [some (vR 12 (some a)), some (vI y1), some (vI x2), some (vI y3), some (vI x4)] [vI s2, vI s1, vR 12 (some s0)] r
def A_X12_tells_119 (σ : St) (f : FI) (g : FL) (s0 : Nat) (s1 : Int) (s2 : Int) (r : St × List Vl) : Prop := ∀ (y0 : Option Nat) (y1 : Int) (y2 : Int) (y3 : Int) (y4 : Int), Gx mt 2 cd_X12_tells (il σ f g) (cd_X12_tells 119) [some (vR 12 y0), some (vI y1), some (vI y2), some (vI y3), some (vI y4)] [vI s2, vI s1, vR 12 (some s0)] r
def A_X12_tells_125 (σ : St) (f : FI) (g : FL) (a : Nat) (x1 : Int) (x2 : Int) (r : St × List Vl) : Prop := ∀ (y3 : Option Vl) (y4 : Option Vl), Gx mt 2 cd_X12_tells (il σ f g) (cd_X12_tells 125) [some (vR 12 (some a)), some (vI x1), some (vI x2), y3, y4] [] r
def A_X12_tells_173 (σ : St) (f : FI) (g : FL) (s0 : Nat) (s1 : Int) (s2 : Int) (r : St × List Vl) : Prop := ∀ (y0 : Option Nat) (y1 : Int) (y2 : Int) (y3 : Int) (y4 : Option Vl), Gx mt 2 cd_X12_tells (il σ f g) (cd_X12_tells 173) [some (vR 12 y0), some (vI y1), some (vI y2), some (vI y3), y4] [vI s2, vI s1, vR 12 (some s0)] r
def A_X12_tells_179 (σ : St) (f : FI) (g : FL) (a : Nat) (x1 : Int) (x2 : Int) (r : St × List Vl) : Prop := ∀ (y3 : Option Vl) (y4 : Option Vl), Gx mt 2 cd_X12_tells (il σ f g) (cd_X12_tells 179) [some (vR 12 (some a)), some (vI x1), some (vI x2), y3, y4] [] r
def A_X12_tells_188 (σ : St) (f : FI) (g : FL) (a : Nat) (x2 : Int) (r : St × List Vl) : Prop := ∀ (y1 : Int) (y3 : Option Vl) (y4 : Option Vl), Gx mt 2 cd_X12_tells (il σ f g) (cd_X12_tells 188) [some (vR 12 (some a)), some (vI y1), some (vI x2), y3, y4] [] r
def A_X12_tells_206 (σ : St) (f : FI) (g : FL) (a : Nat) (x1 : Int) (x2 : Int) (r : St × List Vl) : Prop := ∀ (y3 : Option Vl) (y4 : Option Vl), Gx mt 2 cd_X12_tells (il σ f g) (cd_X12_tells 206) [some (vR 12 (some a)), some (vI x1), some (vI x2), y3, y4] [] r
def A_X12_tells_217 (σ : St) (f : FI) (g : FL) (a : Nat) (x1 : Int) (x2 : Int) (r : St × List Vl) : Prop := ∀ (y3 : Option Vl) (y4 : Option Vl), Gx mt 2 cd_X12_tells (il σ f g) (cd_X12_tells 217) [some (vR 12 (some a)), some (vI x1), some (vI x2), y3, y4] [] r
def A_X12_tells_233 (σ : St) (f : FI) (g : FL) (a : Nat) (x1 : Int) (x2 : Int) (s0 : Nat) (r : St × List Vl) : Prop := ∀ (y3 : Option Vl) (y4 : Option Vl), Gx mt 2 cd_X12_tells (il σ f g) (cd_X12_tells 233) [some (vR 12 (some a)), some (vI x1), some (vI x2), y3, y4] [vR 12 (some s0)] r
def A_X12_tells_242 (σ : St) (f : FI) (g : FL) (a : Nat) (x1 : Int) (x2 : Int) (s0 : Nat) (s1 : Int) (r : St × List Vl) : Prop := ∀ (y3 : Option Vl) (y4 : Option Vl), Gx mt 2 cd_X12_tells (il σ f g) (cd_X12_tells 242) [some (vR 12 (some a)), some (vI x1), some (vI x2), y3, y4] [vI s1, vR 12 (some s0)] r
def A_X12_tells_261 (σ : St) (f : FI) (g : FL) (a : Nat) (x1 : Int) (x2 : Int) (r : St × List Vl) : Prop := ∀ (y3 : Option Vl) (y4 : Option Vl), Gx mt 2 cd_X12_tells (il σ f g) (cd_X12_tells 261) [some (vR 12 (some a)), some (vI x1), some (vI x2), y3, y4] [] r
def A_X12_tells_274 (σ : St) (f : FI) (g : FL) (a : Nat) (x1 : Int) (s0 : Nat) (s1 : Int) (r : St × List Vl) : Prop := ∀ (y2 : Int) (y3 : Option Vl) (y4 : Option Vl), Gx mt 2 cd_X12_tells (il σ f g) (cd_X12_tells 274) [some (vR 12 (some a)), some (vI x1), some (vI y2), y3, y4] [vI s1, vR 12 (some s0)] r
theorem bk_X12_tells_0 {σ : St} {f : FI} {g : FL} {a : Nat} {x1 : Int} {r : St × List Vl} (hs : Sh12 σ a) (h : ((0 ≤ x1 ∧ x1 < 600)) ∧ (((f (a + 41) ((x1).toNat)) = 6 → ((0 ≤ x1 ∧ x1 < 600) ∧ (0 ≤ (f (a + 43) ((x1).toNat)) ∧ (f (a + 43) ((x1).toNat)) < 600)) ∧ (((f (a + 41) (((f (a + 43) ((x1).toNat))).toNat)) = 6 → (A_X12_tells_69 σ f g a (f (a + 41) ((x1).toNat)) (f (a + 42) ((x1).toNat)) a (f (a + 43) ((x1).toNat)) 1 r)) ∧ (¬ (f (a + 41) (((f (a + 43) ((x1).toNat))).toNat)) = 6 → ((¬ (f (a + 41) ((x1).toNat)) = 7 → (A_X12_tells_69 σ f g a (f (a + 41) ((x1).toNat)) (f (a + 42) ((x1).toNat)) a (f (a + 43) ((x1).toNat)) 0 r)) ∧ ((f (a + 41) ((x1).toNat)) = 7 → ((0 ≤ (f (a + 43) ((x1).toNat)) ∧ (f (a + 43) ((x1).toNat)) < 600)) ∧ ((¬ (f (a + 41) (((f (a + 43) ((x1).toNat))).toNat)) = 7 → (A_X12_tells_69 σ f g a (f (a + 41) ((x1).toNat)) (f (a + 42) ((x1).toNat)) a (f (a + 43) ((x1).toNat)) 0 r)) ∧ ((f (a + 41) (((f (a + 43) ((x1).toNat))).toNat)) = 7 → (A_X12_tells_69 σ f g a (f (a + 41) ((x1).toNat)) (f (a + 42) ((x1).toNat)) a (f (a + 43) ((x1).toNat)) 1 r)))))))) ∧ (¬ (f (a + 41) ((x1).toNat)) = 6 → ((¬ (f (a + 41) ((x1).toNat)) = 7 → (A_X12_tells_125 σ f g a x1 (f (a + 41) ((x1).toNat)) r)) ∧ ((f (a + 41) ((x1).toNat)) = 7 → ((0 ≤ x1 ∧ x1 < 600) ∧ (0 ≤ (f (a + 43) ((x1).toNat)) ∧ (f (a + 43) ((x1).toNat)) < 600)) ∧ (((f (a + 41) (((f (a + 43) ((x1).toNat))).toNat)) = 6 → (A_X12_tells_69 σ f g a (f (a + 41) ((x1).toNat)) (f (a + 42) ((x1).toNat)) a (f (a + 43) ((x1).toNat)) 1 r)) ∧ (¬ (f (a + 41) (((f (a + 43) ((x1).toNat))).toNat)) = 6 → ((¬ (f (a + 41) ((x1).toNat)) = 7 → (A_X12_tells_69 σ f g a (f (a + 41) ((x1).toNat)) (f (a + 42) ((x1).toNat)) a (f (a + 43) ((x1).toNat)) 0 r)) ∧ ((f (a + 41) ((x1).toNat)) = 7 → ((0 ≤ (f (a + 43) ((x1).toNat)) ∧ (f (a + 43) ((x1).toNat)) < 600)) ∧ ((¬ (f (a + 41) (((f (a + 43) ((x1).toNat))).toNat)) = 7 → (A_X12_tells_69 σ f g a (f (a + 41) ((x1).toNat)) (f (a + 42) ((x1).toNat)) a (f (a + 43) ((x1).toNat)) 0 r)) ∧ ((f (a + 41) (((f (a + 43) ((x1).toNat))).toNat)) = 7 → (A_X12_tells_69 σ f g a (f (a + 41) ((x1).toNat)) (f (a + 42) ((x1).toNat)) a (f (a + 43) ((x1).toNat)) 1 r)))))))))))) : Ex mt 2 289 (il σ f g) [vR 12 (some a), vI x1] r := Ex.mk mt_289 (show Gx mt 2 cd_X12_tells (il σ f g) b_X12_tells_0 [some (vR 12 (some a)), some (vI x1), none, none, none] [] r from (go_loadA rfl (gi_getR (Sh12.r60 hs) (go_loadI rfl (gi_iald (inl_ (Sh12.l60 hs) h.1) (go_stoI rfl rfl (go_loadI rfl (go_pushI rfl (gq_icmp_eq (fun e3 => have h1 := h.2.1 e3; (go_loadA rfl (gi_getR (Sh12.r62 hs) (go_loadI rfl (gi_iald (inl_ (Sh12.l62 hs) h1.1.1) (go_stoI rfl rfl (go_loadA rfl (gi_getR (Sh12.r61 hs) (go_loadI rfl (gi_iald (inl_ (Sh12.l61 hs) h1.1.1) (go_stoI rfl rfl (go_loadA rfl (go_loadI rfl (go_loadA rfl (gi_getR (Sh12.r60 hs) (go_loadI rfl (gi_iald (inl_ (Sh12.l60 hs) h1.1.2) (go_pushI rfl (gq_icmp_eq (fun e6 => have h4 := h1.2.1 e6; (go_pushI rfl (go_goto (h4 _ _)))) (fun e6 => have h5 := h1.2.2 e6; (go_loadI rfl (go_pushI rfl (gq_icmp_ne (fun e9 => have h7 := h5.1 e9; (go_pushI rfl (go_fall (h7 _ _)))) (fun e9 => have h8 := h5.2 e9; (go_loadA rfl (gi_getR (Sh12.r60 hs) (go_loadI rfl (gi_iald (inl_ (Sh12.l60 hs) h8.1) (go_pushI rfl (gq_icmp_ne (fun e12 => have h10 := h8.2.1 e12; (go_pushI rfl (go_fall (h10 _ _)))) (fun e12 => have h11 := h8.2.2 e12; (go_fall (go_pushI rfl (go_goto (h11 _ _))))))))))))))))))))))))))))))))))) (fun e3 => have h2 := h.2.2 e3; (go_loadI rfl (go_pushI rfl (gq_icmp_ne (fun e15 => have h13 := h2.1 e15; (h13 _ _)) (fun e15 => have h14 := h2.2 e15; (go_fall (go_loadA rfl (gi_getR (Sh12.r62 hs) (go_loadI rfl (gi_iald (inl_ (Sh12.l62 hs) h14.1.1) (go_stoI rfl rfl (go_loadA rfl (gi_getR (Sh12.r61 hs) (go_loadI rfl (gi_iald (inl_ (Sh12.l61 hs) h14.1.1) (go_stoI rfl rfl (go_loadA rfl (go_loadI rfl (go_loadA rfl (gi_getR (Sh12.r60 hs) (go_loadI rfl (gi_iald (inl_ (Sh12.l60 hs) h14.1.2) (go_pushI rfl (gq_icmp_eq (fun e18 => have h16 := h14.2.1 e18; (go_pushI rfl (go_goto (h16 _ _)))) (fun e18 => have h17 := h14.2.2 e18; (go_loadI rfl (go_pushI rfl (gq_icmp_ne (fun e21 => have h19 := h17.1 e21; (go_pushI rfl (go_fall (h19 _ _)))) (fun e21 => have h20 := h17.2 e21; (go_loadA rfl (gi_getR (Sh12.r60 hs) (go_loadI rfl (gi_iald (inl_ (Sh12.l60 hs) h20.1) (go_pushI rfl (gq_icmp_ne (fun e24 => have h22 := h20.2.1 e24; (go_pushI rfl (go_fall (h22 _ _)))) (fun e24 => have h23 := h20.2.2 e24; (go_fall (go_pushI rfl (go_goto (h23 _ _)))))))))))))))))))))))))))))))))))))))))))))))))
theorem bk_X12_tells_69 {σ : St} {f : FI} {g : FL} {a : Nat} {x2 : Int} {x4 : Int} {s0 : Nat} {s1 : Int} {s2 : Int} {r : St × List Vl} (hs : Sh12 σ a) (h : (∃ (f1 : FI) (g2 : FL), Ex mt 1 287 (il σ f g) [vR 12 (some s0), vI s1, vI s2] ((il σ f1 g2), []) ∧ ((¬ x2 = 6 → (A_X12_tells_89 σ f1 g2 a x2 x4 a 10000 59 r)) ∧ (x2 = 6 → (A_X12_tells_89 σ f1 g2 a x2 x4 a 10000 43 r))))) : A_X12_tells_69 σ f g a x2 x4 s0 s1 s2 r := fun y1 y3 => (show Gx mt 2 cd_X12_tells (il σ f g) b_X12_tells_69 [some (vR 12 (some a)), some (vI y1), some (vI x2), some (vI y3), some (vI x4)] [vI s2, vI s1, vR 12 (some s0)] r from (Exists.elim h fun f1 w7 => Exists.elim w7 fun g2 h3 => (go_callV rfl rfl rfl h3.1 (go_loadA rfl (go_pushI rfl (go_loadI rfl (go_pushI rfl (gq_icmp_ne (fun e6 => have h4 := h3.2.1 e6; (go_pushI rfl (go_fall (h4 _ _)))) (fun e6 => have h5 := h3.2.2 e6; (go_pushI rfl (go_goto (h5 _ _))))))))))))
theorem bk_X12_tells_89 {σ : St} {f : FI} {g : FL} {a : Nat} {x2 : Int} {x4 : Int} {s0 : Nat} {s1 : Int} {s2 : Int} {r : St × List Vl} (hs : Sh12 σ a) (h : ((-2147483648 ≤ (s1 + s2) ∧ (s1 + s2) ≤ 2147483647)) ∧ (∃ (f1 : FI) (g2 : FL), Ex mt 0 286 (il σ f g) [vR 12 (some s0), vI (s1 + s2)] ((il σ f1 g2), []) ∧ ((¬ x2 = 7 → (A_X12_tells_119 σ f1 g2 a x4 0 r)) ∧ (x2 = 7 → ((0 ≤ x4 ∧ x4 < 600)) ∧ ((¬ (f1 (a + 41) ((x4).toNat)) = 6 → (A_X12_tells_119 σ f1 g2 a x4 0 r)) ∧ ((f1 (a + 41) ((x4).toNat)) = 6 → (A_X12_tells_119 σ f1 g2 a x4 1 r))))))) : A_X12_tells_89 σ f g a x2 x4 s0 s1 s2 r := fun y1 y3 => (show Gx mt 2 cd_X12_tells (il σ f g) b_X12_tells_89 [some (vR 12 (some a)), some (vI y1), some (vI x2), some (vI y3), some (vI x4)] [vI s2, vI s1, vR 12 (some s0)] r from (go_iadd h.1 (Exists.elim h.2 fun f1 w10 => Exists.elim w10 fun g2 h3 => (go_callV rfl rfl rfl h3.1 (go_loadA rfl (go_loadI rfl (go_loadI rfl (go_pushI rfl (gq_icmp_ne (fun e6 => have h4 := h3.2.1 e6; (go_pushI rfl (go_fall (h4 _ _ _ _ _)))) (fun e6 => have h5 := h3.2.2 e6; (go_loadA rfl (gi_getR (Sh12.r60 hs) (go_loadI rfl (gi_iald (inl_ (Sh12.l60 hs) h5.1) (go_pushI rfl (gq_icmp_ne (fun e9 => have h7 := h5.2.1 e9; (go_pushI rfl (go_fall (h7 _ _ _ _ _)))) (fun e9 => have h8 := h5.2.2 e9; (go_pushI rfl (go_goto (h8 _ _ _ _ _))))))))))))))))))))
theorem bk_X12_tells_119 {σ : St} {f : FI} {g : FL} {s0 : Nat} {s1 : Int} {s2 : Int} {r : St × List Vl}  (h : (∃ (f1 : FI) (g2 : FL), Ex mt 1 287 (il σ f g) [vR 12 (some s0), vI s1, vI s2] ((il σ f1 g2), []) ∧ (r = ((il σ f1 g2), [])))) : A_X12_tells_119 σ f g s0 s1 s2 r := fun y0 y1 y2 y3 y4 => (show Gx mt 2 cd_X12_tells (il σ f g) b_X12_tells_119 [some (vR 12 y0), some (vI y1), some (vI y2), some (vI y3), some (vI y4)] [vI s2, vI s1, vR 12 (some s0)] r from (Exists.elim h fun f1 w4 => Exists.elim w4 fun g2 h3 => (go_callV rfl rfl rfl h3.1 (go_goto (h3.2 ▸ gq_retV)))))
theorem bk_X12_tells_125 {σ : St} {f : FI} {g : FL} {a : Nat} {x1 : Int} {x2 : Int} {r : St × List Vl} (hs : Sh12 σ a) (h : ((¬ x2 = 5 → (A_X12_tells_179 σ f g a x1 x2 r)) ∧ (x2 = 5 → ((0 ≤ x1 ∧ x1 < 600)) ∧ (∃ (f4 : FI) (g5 : FL), Ex mt 0 286 (il σ f g) [vR 12 (some a), vI 10042] ((il σ f4 g5), []) ∧ ((0 ≤ (f (a + 42) ((x1).toNat)) ∧ (f (a + 42) ((x1).toNat)) < 600)) ∧ (((f4 (a + 41) (((f (a + 42) ((x1).toNat))).toNat)) = 6 → (A_X12_tells_173 σ f4 g5 a (f (a + 42) ((x1).toNat)) 1 r)) ∧ (¬ (f4 (a + 41) (((f (a + 42) ((x1).toNat))).toNat)) = 6 → ((0 ≤ (f (a + 42) ((x1).toNat)) ∧ (f (a + 42) ((x1).toNat)) < 600)) ∧ ((¬ (f4 (a + 41) (((f (a + 42) ((x1).toNat))).toNat)) = 7 → (A_X12_tells_173 σ f4 g5 a (f (a + 42) ((x1).toNat)) 0 r)) ∧ ((f4 (a + 41) (((f (a + 42) ((x1).toNat))).toNat)) = 7 → (A_X12_tells_173 σ f4 g5 a (f (a + 42) ((x1).toNat)) 1 r))))))))) : A_X12_tells_125 σ f g a x1 x2 r := fun y3 y4 => (show Gx mt 2 cd_X12_tells (il σ f g) b_X12_tells_125 [some (vR 12 (some a)), some (vI x1), some (vI x2), y3, y4] [] r from (go_loadI rfl (go_pushI rfl (gq_icmp_ne (fun e3 => have h1 := h.1 e3; (h1 _ _)) (fun e3 => have h2 := h.2 e3; (go_loadA rfl (gi_getR (Sh12.r61 hs) (go_loadI rfl (gi_iald (inl_ (Sh12.l61 hs) h2.1) (go_stoI rfl rfl (go_loadA rfl (go_pushI rfl (Exists.elim h2.2 fun f4 w13 => Exists.elim w13 fun g5 h6 => (go_callV rfl rfl rfl h6.1 (go_loadA rfl (go_loadI rfl (go_loadA rfl (gi_getR (Sh12.r60 hs) (go_loadI rfl (gi_iald (inl_ (Sh12.l60 hs) h6.2.1) (go_pushI rfl (gq_icmp_eq (fun e9 => have h7 := h6.2.2.1 e9; (go_pushI rfl (go_goto (h7 _ _ _ _ _)))) (fun e9 => have h8 := h6.2.2.2 e9; (go_loadA rfl (gi_getR (Sh12.r60 hs) (go_loadI rfl (gi_iald (inl_ (Sh12.l60 hs) h8.1) (go_pushI rfl (gq_icmp_ne (fun e12 => have h10 := h8.2.1 e12; (go_pushI rfl (go_fall (h10 _ _ _ _ _)))) (fun e12 => have h11 := h8.2.2 e12; (go_fall (go_pushI rfl (go_goto (h11 _ _ _ _ _))))))))))))))))))))))))))))))))))
theorem bk_X12_tells_173 {σ : St} {f : FI} {g : FL} {s0 : Nat} {s1 : Int} {s2 : Int} {r : St × List Vl}  (h : (∃ (f1 : FI) (g2 : FL), Ex mt 1 287 (il σ f g) [vR 12 (some s0), vI s1, vI s2] ((il σ f1 g2), []) ∧ (r = ((il σ f1 g2), [])))) : A_X12_tells_173 σ f g s0 s1 s2 r := fun y0 y1 y2 y3 y4 => (show Gx mt 2 cd_X12_tells (il σ f g) b_X12_tells_173 [some (vR 12 y0), some (vI y1), some (vI y2), some (vI y3), y4] [vI s2, vI s1, vR 12 (some s0)] r from (Exists.elim h fun f1 w4 => Exists.elim w4 fun g2 h3 => (go_callV rfl rfl rfl h3.1 (go_goto (h3.2 ▸ gq_retV)))))
theorem bk_X12_tells_179 {σ : St} {f : FI} {g : FL} {a : Nat} {x1 : Int} {x2 : Int} {r : St × List Vl} (hs : Sh12 σ a) (h : ((x2 = 0 → (A_X12_tells_188 σ f g a x2 r)) ∧ (¬ x2 = 0 → ((¬ x2 = 1 → (A_X12_tells_206 σ f g a x1 x2 r)) ∧ (x2 = 1 → (A_X12_tells_188 σ f g a x2 r)))))) : A_X12_tells_179 σ f g a x1 x2 r := fun y3 y4 => (show Gx mt 2 cd_X12_tells (il σ f g) b_X12_tells_179 [some (vR 12 (some a)), some (vI x1), some (vI x2), y3, y4] [] r from (go_loadI rfl (gq_if_eq (fun e3 => have h1 := h.1 e3; (h1 _ _ _)) (fun e3 => have h2 := h.2 e3; (go_loadI rfl (go_pushI rfl (gq_icmp_ne (fun e6 => have h4 := h2.1 e6; (h4 _ _)) (fun e6 => have h5 := h2.2 e6; (go_fall (h5 _ _ _))))))))))
theorem bk_X12_tells_188 {σ : St} {f : FI} {g : FL} {a : Nat} {x2 : Int} {r : St × List Vl} (hs : Sh12 σ a) (h : ((¬ x2 = 0 → (∃ (f4 : FI) (g5 : FL), Ex mt 0 288 (il σ f g) [vR 12 (some a), vI 49] ((il σ f4 g5), []) ∧ (r = ((il σ f4 g5), [])))) ∧ (x2 = 0 → (∃ (f8 : FI) (g9 : FL), Ex mt 0 288 (il σ f g) [vR 12 (some a), vI 48] ((il σ f8 g9), []) ∧ (r = ((il σ f8 g9), [])))))) : A_X12_tells_188 σ f g a x2 r := fun y1 y3 y4 => (show Gx mt 2 cd_X12_tells (il σ f g) b_X12_tells_188 [some (vR 12 (some a)), some (vI y1), some (vI x2), y3, y4] [] r from (go_loadA rfl (go_loadI rfl (gq_if_ne (fun e3 => have h1 := h.1 e3; (go_pushI rfl (go_fall (Exists.elim h1 fun f4 w7 => Exists.elim w7 fun g5 h6 => (go_callV rfl rfl rfl h6.1 (go_goto (h6.2 ▸ gq_retV))))))) (fun e3 => have h2 := h.2 e3; (go_pushI rfl (go_goto (Exists.elim h2 fun f8 w11 => Exists.elim w11 fun g9 h10 => (go_callV rfl rfl rfl h10.1 (go_goto (h10.2 ▸ gq_retV)))))))))))
theorem bk_X12_tells_206 {σ : St} {f : FI} {g : FL} {a : Nat} {x1 : Int} {x2 : Int} {r : St × List Vl} (hs : Sh12 σ a) (h : ((¬ x2 = 3 → (A_X12_tells_217 σ f g a x1 x2 r)) ∧ (x2 = 3 → (∃ (f4 : FI) (g5 : FL), Ex mt 0 288 (il σ f g) [vR 12 (some a), vI 33] ((il σ f4 g5), []) ∧ (A_X12_tells_217 σ f4 g5 a x1 x2 r))))) : A_X12_tells_206 σ f g a x1 x2 r := fun y3 y4 => (show Gx mt 2 cd_X12_tells (il σ f g) b_X12_tells_206 [some (vR 12 (some a)), some (vI x1), some (vI x2), y3, y4] [] r from (go_loadI rfl (go_pushI rfl (gq_icmp_ne (fun e3 => have h1 := h.1 e3; (h1 _ _)) (fun e3 => have h2 := h.2 e3; (go_loadA rfl (go_pushI rfl (Exists.elim h2 fun f4 w7 => Exists.elim w7 fun g5 h6 => (go_callV rfl rfl rfl h6.1 (go_fall (h6.2 _ _)))))))))))
theorem bk_X12_tells_217 {σ : St} {f : FI} {g : FL} {a : Nat} {x1 : Int} {x2 : Int} {r : St × List Vl} (hs : Sh12 σ a) (h : ((0 ≤ x1 ∧ x1 < 600)) ∧ ((¬ (f (a + 42) ((x1).toNat)) = 3 → (A_X12_tells_233 σ f g a x1 x2 a r)) ∧ ((f (a + 42) ((x1).toNat)) = 3 → (A_X12_tells_242 σ f g a x1 x2 a 97 r)))) : A_X12_tells_217 σ f g a x1 x2 r := fun y3 y4 => (show Gx mt 2 cd_X12_tells (il σ f g) b_X12_tells_217 [some (vR 12 (some a)), some (vI x1), some (vI x2), y3, y4] [] r from (go_loadA rfl (go_loadA rfl (gi_getR (Sh12.r61 hs) (go_loadI rfl (gi_iald (inl_ (Sh12.l61 hs) h.1) (go_pushI rfl (gq_icmp_ne (fun e3 => have h1 := h.2.1 e3; (h1 _ _)) (fun e3 => have h2 := h.2.2 e3; (go_pushI rfl (go_goto (h2 _ _))))))))))))
theorem bk_X12_tells_233 {σ : St} {f : FI} {g : FL} {a : Nat} {x1 : Int} {x2 : Int} {s0 : Nat} {r : St × List Vl} (hs : Sh12 σ a) (h : ((0 ≤ x1 ∧ x1 < 600) ∧ (-2147483648 ≤ (97 + (f (a + 42) ((x1).toNat))) ∧ (97 + (f (a + 42) ((x1).toNat))) ≤ 2147483647)) ∧ (A_X12_tells_242 σ f g a x1 x2 s0 (97 + (f (a + 42) ((x1).toNat))) r)) : A_X12_tells_233 σ f g a x1 x2 s0 r := fun y3 y4 => (show Gx mt 2 cd_X12_tells (il σ f g) b_X12_tells_233 [some (vR 12 (some a)), some (vI x1), some (vI x2), y3, y4] [vR 12 (some s0)] r from (go_pushI rfl (go_loadA rfl (gi_getR (Sh12.r61 hs) (go_loadI rfl (gi_iald (inl_ (Sh12.l61 hs) h.1.1) (go_iadd h.1.2 (go_fall (h.2 _ _)))))))))
theorem bk_X12_tells_242 {σ : St} {f : FI} {g : FL} {a : Nat} {x1 : Int} {x2 : Int} {s0 : Nat} {s1 : Int} {r : St × List Vl} (hs : Sh12 σ a) (h : (∃ (f1 : FI) (g2 : FL), Ex mt 0 288 (il σ f g) [vR 12 (some s0), vI s1] ((il σ f1 g2), []) ∧ ((0 ≤ x1 ∧ x1 < 600)) ∧ ((¬ (f1 (a + 42) ((x1).toNat)) = 3 → (A_X12_tells_261 σ f1 g2 a x1 x2 r)) ∧ ((f1 (a + 42) ((x1).toNat)) = 3 → (∃ (f7 : FI) (g8 : FL), Ex mt 0 288 (il σ f1 g2) [vR 12 (some a), vI 116] ((il σ f7 g8), []) ∧ (A_X12_tells_261 σ f7 g8 a x1 x2 r)))))) : A_X12_tells_242 σ f g a x1 x2 s0 s1 r := fun y3 y4 => (show Gx mt 2 cd_X12_tells (il σ f g) b_X12_tells_242 [some (vR 12 (some a)), some (vI x1), some (vI x2), y3, y4] [vI s1, vR 12 (some s0)] r from (Exists.elim h fun f1 w11 => Exists.elim w11 fun g2 h3 => (go_callV rfl rfl rfl h3.1 (go_loadA rfl (gi_getR (Sh12.r61 hs) (go_loadI rfl (gi_iald (inl_ (Sh12.l61 hs) h3.2.1) (go_pushI rfl (gq_icmp_ne (fun e6 => have h4 := h3.2.2.1 e6; (h4 _ _)) (fun e6 => have h5 := h3.2.2.2 e6; (go_loadA rfl (go_pushI rfl (Exists.elim h5 fun f7 w10 => Exists.elim w10 fun g8 h9 => (go_callV rfl rfl rfl h9.1 (go_fall (h9.2 _ _))))))))))))))))
theorem bk_X12_tells_261 {σ : St} {f : FI} {g : FL} {a : Nat} {x1 : Int} {x2 : Int} {r : St × List Vl} (hs : Sh12 σ a) (h : ((¬ x2 = 4 → (A_X12_tells_274 σ f g a x1 a 61 r)) ∧ (x2 = 4 → (A_X12_tells_274 σ f g a x1 a 58 r)))) : A_X12_tells_261 σ f g a x1 x2 r := fun y3 y4 => (show Gx mt 2 cd_X12_tells (il σ f g) b_X12_tells_261 [some (vR 12 (some a)), some (vI x1), some (vI x2), y3, y4] [] r from (go_loadA rfl (go_loadI rfl (go_pushI rfl (gq_icmp_ne (fun e3 => have h1 := h.1 e3; (go_pushI rfl (go_fall (h1 _ _ _)))) (fun e3 => have h2 := h.2 e3; (go_pushI rfl (go_goto (h2 _ _ _)))))))))
theorem bk_X12_tells_274 {σ : St} {f : FI} {g : FL} {a : Nat} {x1 : Int} {s0 : Nat} {s1 : Int} {r : St × List Vl} (hs : Sh12 σ a) (h : (∃ (f1 : FI) (g2 : FL), Ex mt 0 288 (il σ f g) [vR 12 (some s0), vI s1] ((il σ f1 g2), []) ∧ ((0 ≤ x1 ∧ x1 < 600) ∧ (-2147483648 ≤ (48 + (f1 (a + 43) ((x1).toNat))) ∧ (48 + (f1 (a + 43) ((x1).toNat))) ≤ 2147483647)) ∧ (∃ (f4 : FI) (g5 : FL), Ex mt 0 288 (il σ f1 g2) [vR 12 (some a), vI (48 + (f1 (a + 43) ((x1).toNat)))] ((il σ f4 g5), []) ∧ (r = ((il σ f4 g5), []))))) : A_X12_tells_274 σ f g a x1 s0 s1 r := fun y2 y3 y4 => (show Gx mt 2 cd_X12_tells (il σ f g) b_X12_tells_274 [some (vR 12 (some a)), some (vI x1), some (vI y2), y3, y4] [vI s1, vR 12 (some s0)] r from (Exists.elim h fun f1 w8 => Exists.elim w8 fun g2 h3 => (go_callV rfl rfl rfl h3.1 (go_loadA rfl (go_pushI rfl (go_loadA rfl (gi_getR (Sh12.r62 hs) (go_loadI rfl (gi_iald (inl_ (Sh12.l62 hs) h3.2.1.1) (go_iadd h3.2.1.2 (Exists.elim h3.2.2 fun f4 w7 => Exists.elim w7 fun g5 h6 => (go_callV rfl rfl rfl h6.1 (go_fall (h6.2 ▸ gq_retV))))))))))))))
def A_X12_tell_32 (σ : St) (f : FI) (g : FL) (a : Nat) (r : St × List Vl) : Prop := ∀ (y1 : Int) (y2 : Int) (y3 : Int) (y4 : Option Vl), Gx mt 3 cd_X12_tell (il σ f g) (cd_X12_tell 32) [some (vR 12 (some a)), some (vI y1), some (vI y2), some (vI y3), y4] [] r
theorem bk_X12_tell_0 {σ : St} {f : FI} {g : FL} {a : Nat} {x1 : Int} {x2 : Int} {r : St × List Vl} (hs : Sh12 σ a) (h : ((-2147483648 ≤ f a 4 - 1 ∧ f a 4 - 1 ≤ 2147483647) ∧ (-2147483648 ≤ x1 ∧ x1 ≤ 2147483647)) ∧ ((((0 ≤ x1 ∧ x1 ≤ f a 4 - 1)) → (∃ (f4 : FI) (g5 : FL) (v7 : Int), Ex mt 2 285 (il σ f g) [vR 12 (some a), vI x1, vI x2] ((il σ f4 g5), [vI v7]) ∧ (∃ (f8 : FI) (g9 : FL), Ex mt 0 286 (il σ (up2 (up2 f4 a 67 0) a 68 0) g5) [vR 12 (some a), vI v7] ((il σ f8 g9), []) ∧ (A_X12_tell_32 σ f8 g9 a r)))) ∧ (¬ ((0 ≤ x1 ∧ x1 ≤ f a 4 - 1)) → (r = ((il σ f g), [vI (-1)]))))) : Ex mt 3 290 (il σ f g) [vR 12 (some a), vI x1, vI x2] r := Ex.mk mt_290 (show Gx mt 3 cd_X12_tell (il σ f g) b_X12_tell_0 [some (vR 12 (some a)), some (vI x1), some (vI x2), none, none] [] r from (go_loadA rfl (go_loadI rfl (go_callV rfl rfl rfl (pu_isWish hs h.1.1 h.1.2) (go_ifb_ne (fun e3 => have h1 := h.2.1 e3; (go_loadA rfl (go_loadI rfl (go_loadI rfl (Exists.elim h1 fun f4 w12 => Exists.elim w12 fun g5 w13 => Exists.elim w13 fun v7 h6 => (go_callV rfl rfl rfl h6.1 (go_stoI rfl rfl (go_loadA rfl (go_pushI rfl (gi_putI (go_loadA rfl (go_pushI rfl (gi_putI (go_loadA rfl (go_loadI rfl (Exists.elim h6.2 fun f8 w11 => Exists.elim w11 fun g9 h10 => (go_callV rfl rfl rfl h10.1 (go_fall (h10.2 _ _ _ _))))))))))))))))))) (fun e3 => have h2 := h.2.2 e3; (go_pushI rfl (h2 ▸ gq_retI))))))))
theorem bk_X12_tell_32 {σ : St} {f : FI} {g : FL} {a : Nat} {r : St × List Vl} (hs : Sh12 σ a) (h : (((f a 68) ≤ 0 → (r = ((il σ f g), [vI (f a 67)]))) ∧ (¬ (f a 68) ≤ 0 → ((-2147483648 ≤ ((f a 68) - 1) ∧ ((f a 68) - 1) ≤ 2147483647) ∧ (0 ≤ ((f a 68) - 1) ∧ ((f a 68) - 1) < 800)) ∧ (((f (a + 46) ((((f a 68) - 1)).toNat)) < 10000 → (∃ (f7 : FI) (g8 : FL), Ex mt 2 289 (il σ (up2 f a 68 ((f a 68) - 1)) g) [vR 12 (some a), vI (f (a + 46) ((((f a 68) - 1)).toNat))] ((il σ f7 g8), []) ∧ (A_X12_tell_32 σ f7 g8 a r))) ∧ (¬ (f (a + 46) ((((f a 68) - 1)).toNat)) < 10000 → ((-2147483648 ≤ ((f (a + 46) ((((f a 68) - 1)).toNat)) - 10000) ∧ ((f (a + 46) ((((f a 68) - 1)).toNat)) - 10000) ≤ 2147483647)) ∧ (∃ (f11 : FI) (g12 : FL), Ex mt 0 288 (il σ (up2 f a 68 ((f a 68) - 1)) g) [vR 12 (some a), vI ((f (a + 46) ((((f a 68) - 1)).toNat)) - 10000)] ((il σ f11 g12), []) ∧ (A_X12_tell_32 σ f11 g12 a r))))))) : A_X12_tell_32 σ f g a r := fun y1 y2 y3 y4 => (show Gx mt 3 cd_X12_tell (il σ f g) b_X12_tell_32 [some (vR 12 (some a)), some (vI y1), some (vI y2), some (vI y3), y4] [] r from (go_loadA rfl (gi_getI (gq_if_le (fun e3 => have h1 := h.1 e3; (go_loadA rfl (gi_getI (h1 ▸ gq_retI)))) (fun e3 => have h2 := h.2 e3; (go_loadA rfl (go_dupA (gi_getI (go_pushI rfl (go_isub h2.1.1 (gi_putI (go_loadA rfl (gi_getR (Sh12.r66 hs) (go_loadA rfl (gi_getIe u2_s (gi_ialde (inl_ (Sh12.l66 hs) h2.1.2) (u2_a (by omega)) (go_stoI rfl rfl (go_loadI rfl (go_pushI rfl (gq_icmp_lt (fun e6 => have h4 := h2.2.1 e6; (go_loadA rfl (go_loadI rfl (Exists.elim h4 fun f7 w10 => Exists.elim w10 fun g8 h9 => (go_callV rfl rfl rfl h9.1 (go_fall (go_goto (h9.2 _ _ _ _)))))))) (fun e6 => have h5 := h2.2.2 e6; (go_loadA rfl (go_loadI rfl (go_pushI rfl (go_isub h5.1 (Exists.elim h5.2 fun f11 w14 => Exists.elim w14 fun g12 h13 => (go_callV rfl rfl rfl h13.1 (go_goto (go_goto (h13.2 _ _ _ _))))))))))))))))))))))))))))))
theorem bk_X8_putAll_0 {σ : St} {f : FI} {g : FL} {a : Nat} {x1 : Nat} {r : St × List Vl} (hs : Sh8 σ a) {c1 : Nat} (hs1 : Sh9 σ x1 c1) (h : ((-2147483648 ≤ (((up2 f a 1 0) x1 3) - 1) ∧ (((up2 f a 1 0) x1 3) - 1) ≤ 2147483647)) ∧ (∃ (f1 : FI) (g2 : FL), Ex mt 203 116 (il σ (up2 f a 1 0) g) [vR 8 (some a), vR 9 (some x1), vI (((up2 f a 1 0) x1 3) - 1), vI 0, vI 0] ((il σ f1 g2), []) ∧ (r = ((il σ f1 g2), [vI (f1 a 1)])))) : Ex mt 204 114 (il σ f g) [vR 8 (some a), vR 9 (some x1)] r := Ex.mk mt_114 (show Gx mt 204 cd_X8_putAll (il σ f g) b_X8_putAll_0 [some (vR 8 (some a)), some (vR 9 (some x1))] [] r from (go_loadA rfl (go_pushI rfl (gi_putI (go_loadA rfl (go_loadA rfl (go_loadA rfl (gi_getI (go_pushI rfl (go_isub h.1 (go_pushI rfl (go_pushI rfl (Exists.elim h.2 fun f1 w4 => Exists.elim w4 fun g2 h3 => (go_callV rfl rfl rfl h3.1 (go_loadA rfl (gi_getI (h3.2 ▸ gq_retI)))))))))))))))))
theorem bk_X8_putShorter_0 {σ : St} {f : FI} {g : FL} {a : Nat} {x1 : Nat} {r : St × List Vl} (hs : Sh8 σ a) {c1 : Nat} (hs1 : Sh9 σ x1 c1) (h : (∃ (f1 : FI) (g2 : FL) (v4 : Int), Ex mt 4 121 (il σ (up2 f a 1 0) g) [vR 8 (some a), vR 9 (some x1)] ((il σ f1 g2), [vI v4]) ∧ (∃ (f5 : FI) (g6 : FL), Ex mt 203 116 (il σ f1 g2) [vR 8 (some a), vR 9 (some (a + 2)), vI v4, vI 0, vI 0] ((il σ f5 g6), []) ∧ (r = ((il σ f5 g6), [vI (f5 a 1)]))))) : Ex mt 204 115 (il σ f g) [vR 8 (some a), vR 9 (some x1)] r := Ex.mk mt_115 (show Gx mt 204 cd_X8_putShorter (il σ f g) b_X8_putShorter_0 [some (vR 8 (some a)), some (vR 9 (some x1))] [] r from (go_loadA rfl (go_pushI rfl (gi_putI (go_loadA rfl (go_loadA rfl (gi_getR (Sh8.r2 hs) (go_loadA rfl (go_loadA rfl (Exists.elim h fun f1 w9 => Exists.elim w9 fun g2 w10 => Exists.elim w10 fun v4 h3 => (go_callV rfl rfl rfl h3.1 (go_pushI rfl (go_pushI rfl (Exists.elim h3.2 fun f5 w8 => Exists.elim w8 fun g6 h7 => (go_callV rfl rfl rfl h7.1 (go_loadA rfl (gi_getI (h7.2 ▸ gq_retI))))))))))))))))))
theorem bk_X11_tell_0 {σ : St} {f : FI} {g : FL} {a : Nat} {x1 : Int} {x2 : Int} {r : St × List Vl} (hs : Sh11 σ a) (h : ((∃ (f1 : FI) (g2 : FL), Ex mt 0 188 (il σ f g) [vR 11 (some a), vI x1] ((il σ f1 g2), [vR 10 none]) ∧ (r = ((il σ f1 g2), [vI (-1)]))) ∨ (∃ (f1 : FI) (g2 : FL) (q4 : Nat), Ex mt 0 188 (il σ f g) [vR 11 (some a), vI x1] ((il σ f1 g2), [vR 10 (some q4)]) ∧ ((x2 = 0 → (∃ q8, gR σ q4 1 = some q8 ∧ (∃ (f10 : FI) (g11 : FL) (v13 : Int), Ex mt 204 114 (il σ f1 g2) [vR 8 (some (a + 36)), vR 9 (some q8)] ((il σ f10 g11), [vI v13]) ∧ (r = ((il σ f10 g11), [vI v13]))))) ∧ (¬ x2 = 0 → (∃ q16, gR σ q4 1 = some q16 ∧ (∃ (f18 : FI) (g19 : FL) (v21 : Int), Ex mt 204 115 (il σ f1 g2) [vR 8 (some (a + 36)), vR 9 (some q16)] ((il σ f18 g19), [vI v21]) ∧ (r = ((il σ f18 g19), [vI v21]))))))))) : Ex mt 205 175 (il σ f g) [vR 11 (some a), vI x1, vI x2] r := Ex.mk mt_175 (show Gx mt 205 cd_X11_tell (il σ f g) b_X11_tell_0 [some (vR 11 (some a)), some (vI x1), some (vI x2), none] [] r from (go_loadA rfl (go_loadI rfl (Or.elim h (fun h24q => (Exists.elim h24q fun f1 w25 => Exists.elim w25 fun g2 h24 => (go_callV rfl rfl rfl h24.1 (go_stoA rfl rfl (go_loadA rfl (go_nnullN (go_pushI rfl (h24.2 ▸ gq_retI)))))))) (fun h3q => (Exists.elim h3q fun f1 w26 => Exists.elim w26 fun g2 w27 => Exists.elim w27 fun q4 h3 => (go_callV rfl rfl rfl h3.1 (go_stoA rfl rfl (go_loadA rfl (go_nnullS (go_loadI rfl (gq_if_eq (fun e7 => have h5 := h3.2.1 e7; (go_loadA rfl (gi_getR (Sh11.r8 hs) (go_loadA rfl (Exists.elim h5 fun q8 h9 => (gi_getR h9.1 (Exists.elim h9.2 fun f10 w14 => Exists.elim w14 fun g11 w15 => Exists.elim w15 fun v13 h12 => (go_callV rfl rfl rfl h12.1 (go_fall (h12.2 ▸ gq_retI)))))))))) (fun e7 => have h6 := h3.2.2 e7; (go_loadA rfl (gi_getR (Sh11.r8 hs) (go_loadA rfl (Exists.elim h6 fun q16 h17 => (gi_getR h17.1 (Exists.elim h17.2 fun f18 w22 => Exists.elim w22 fun g19 w23 => Exists.elim w23 fun v21 h20 => (go_callV rfl rfl rfl h20.1 (go_goto (h20.2 ▸ gq_retI))))))))))))))))))))))
theorem i2b_id {x : Int} (h : 0 ≤ x ∧ x ≤ 127) : i2b x = x := by
  have : ∀ n : Nat, n < 128 → i2b (n : Int) = (n : Int) := by decide +kernel
  have e := this x.toNat (by omega)
  rw [show ((x.toNat : Nat) : Int) = x by omega] at e
  exact e
theorem x_put1 {σ : St} {f : FI} {g : FL} {M s : Nat} {x : Int} (hm : Sh12 σ M) (h1 : f M 67 = (s : Int)) (h2 : s < 800) (hx : 0 ≤ x ∧ x ≤ 127) : ∃ f' : FI, Ex mt 0 288 (il σ f g) [vR 12 (some M), vI x] (il σ f' g, []) ∧ Pr M 67 (M + 45) f f' s [x] := by
  refine ⟨_, bk_X12_put1_0 hm ?_, Pr.one (v := ((s + 1 : Nat) : Int)) (by omega) rfl⟩
  rw [h1, i2b_id hx]
  refine ⟨⟨by omega, by omega, by omega⟩, ?_⟩
  rw [show (s : Int) + 1 = ((s + 1 : Nat) : Int) by omega]
  rfl
theorem x_later {σ : St} {f : FI} {g : FL} {M s : Nat} {x : Int} (hm : Sh12 σ M) (h1 : f M 68 = (s : Int)) (h2 : s < 800) : ∃ f' : FI, Ex mt 0 286 (il σ f g) [vR 12 (some M), vI x] (il σ f' g, []) ∧ Pr M 68 (M + 46) f f' s [x] := by
  refine ⟨_, bk_X12_later_0 hm ?_, Pr.one (v := ((s + 1 : Nat) : Int)) (by omega) rfl⟩
  rw [h1]
  refine ⟨⟨by omega, by omega⟩, ?_⟩
  rw [show (s : Int) + 1 = ((s + 1 : Nat) : Int) by omega]
  rfl
/-- a node that waits, the lowest first -/
def brI (k a x : Int) : List Int := if bnd k < a then [10041] ++ ([x] ++ [10040]) else [x]
theorem x_laterNode {σ : St} {f : FI} {g : FL} {M s : Nat} {x w : Int} {k a : Int} (hm : Sh12 σ M) (h1 : f M 68 = (s : Int)) (h2 : s + 3 ≤ 800) (hw : (w = 1 ∧ bnd k < a) ∨ (w = 0 ∧ ¬ bnd k < a)) : ∃ f' : FI, Ex mt 1 287 (il σ f g) [vR 12 (some M), vI x, vI w] (il σ f' g, []) ∧ Pr M 68 (M + 46) f f' s (brI k a x) := by
  unfold brI
  rcases hw with ⟨rfl, hb⟩ | ⟨rfl, hb⟩
  · rw [if_pos hb]
    obtain ⟨f1, E1, P1⟩ := x_later (g := g) (x := 10041) hm h1 (by omega)
    obtain ⟨f2, E2, P2⟩ := x_later (g := g) (x := x) hm P1.1 (by rw [List.length_singleton]; omega)
    have P12 := P1.app P2
    obtain ⟨f3, E3, P3⟩ := x_later (g := g) (x := 10040) hm P12.1 (by rw [List.length_append, List.length_singleton, List.length_singleton]; omega)
    refine ⟨f3, bk_X12_laterNode_0 hm ⟨fun y => absurd y (by decide), fun _ => ⟨f1, g, E1, f2, g, E2, fun y => absurd y (by decide), fun _ => ⟨f3, g, E3, rfl⟩⟩⟩, ?_⟩
    rw [← List.append_assoc]
    exact P12.app P3
  · rw [if_neg hb]
    obtain ⟨f1, E1, P1⟩ := x_later (g := g) (x := x) hm h1 (by omega)
    exact ⟨f1, bk_X12_laterNode_0 hm ⟨fun _ => ⟨f1, g, E1, fun _ => rfl, fun y => absurd rfl y⟩, fun y => absurd rfl y⟩, P1⟩
theorem HM.pr {f f' : FI} {M i o s : Nat} {z : TS} {l : List Int} (h : HM f M z) (p : Pr M i o f f' s l) (hi : i ≠ 64) (ho : o = M + 45 ∨ o = M + 46) : HM f' M z := by
  refine ⟨?_, fun j hj => ?_⟩
  · rw [p.2.2.2 _ _ (by omega) (by omega)]
    exact h.1
  · rw [p.2.2.2 _ _ (by omega) (by omega), p.2.2.2 _ _ (by omega) (by omega), p.2.2.2 _ _ (by omega) (by omega)]
    exact h.2 j hj
/-- what waits, the lowest first -/
def Stk2 (f : FI) (M d : Nat) (l : List Int) : Prop := f M 68 = ((d + l.length : Nat) : Int) ∧ ∀ k, k < l.length → f (M + 46) (d + k) = l.getD k 0
/-- printed, and the stack is as it was -/
def PT (M : Nat) (f f' : FI) (s d : Nat) (l : List Int) : Prop := f' M 67 = ((s + l.length : Nat) : Int) ∧ (∀ k, k < l.length → f' (M + 45) (s + k) = l.getD k 0) ∧ (∀ k, k < s → f' (M + 45) k = f (M + 45) k) ∧ f' M 68 = (d : Int) ∧ (∀ k, k < d → f' (M + 46) k = f (M + 46) k) ∧ ∀ c j, ¬ (c = M ∧ (j = 67 ∨ j = 68)) → c ≠ M + 45 → c ≠ M + 46 → f' c j = f c j
theorem PT.app {M : Nat} {f f1 f2 : FI} {s d d1 : Nat} {l1 l2 : List Int} (h1 : PT M f f1 s d1 l1) (h2 : PT M f1 f2 (s + l1.length) d l2) (hd : d ≤ d1) : PT M f f2 s d (l1 ++ l2) := by
  obtain ⟨a1, a2, a3, a4, a5, a6⟩ := h1
  obtain ⟨b1, b2, b3, b4, b5, b6⟩ := h2
  refine ⟨?_, fun k hk => ?_, fun k hk => ?_, b4, fun k hk => ?_, fun c j hc h45 h46 => ?_⟩
  · rw [b1, List.length_append, Nat.add_assoc]
  · rw [List.length_append] at hk
    by_cases z : k < l1.length
    · rw [b3 _ (by omega), a2 k z, List.getD_eq_getElem?_getD, List.getD_eq_getElem?_getD, List.getElem?_append_left z]
    · have := b2 (k - l1.length) (by omega)
      rw [show s + l1.length + (k - l1.length) = s + k by omega] at this
      rw [this, List.getD_eq_getElem?_getD, List.getD_eq_getElem?_getD, List.getElem?_append_right (by omega)]
  · rw [b3 k (by omega), a3 k hk]
  · rw [b5 k hk, a5 k (by omega)]
  · rw [b6 c j hc h45 h46, a6 c j hc h45 h46]
theorem HM.pt {M : Nat} {f f' : FI} {s d : Nat} {l : List Int} {z : TS} (h : HM f M z) (p : PT M f f' s d l) : HM f' M z := by
  refine ⟨?_, fun j hj => ?_⟩
  · rw [p.2.2.2.2.2 _ _ (by omega) (by omega) (by omega)]
    exact h.1
  · rw [p.2.2.2.2.2 _ _ (by omega) (by omega) (by omega), p.2.2.2.2.2 _ _ (by omega) (by omega) (by omega), p.2.2.2.2.2 _ _ (by omega) (by omega) (by omega)]
    exact h.2 j hj
/-- the text of what waits -/
def itx (z : TS) (x : Int) : List Int := if 10000 ≤ x then [x - 10000] else bT z.2.1 z.2.2.1 z.2.2.2 x.toNat
/-- the texts, the highest first -/
def itxs (z : TS) : List Int → List Int
  | [] => []
  | x :: l => itxs z l ++ itx z x
theorem itxs_app (z : TS) : ∀ l l' : List Int, itxs z (l ++ l') = itxs z l' ++ itxs z l
  | [], l' => by
    show itxs z l' = itxs z l' ++ []
    rw [List.append_nil]
  | x :: l, l' => by
    show itxs z (l ++ l') ++ itx z x = itxs z l' ++ (itxs z l ++ itx z x)
    rw [itxs_app z l l', List.append_assoc]
/-- one that waits and can be printed -/
def GdI (z : TS) (n : Nat) (x : Int) : Prop := (10000 ≤ x ∧ x ≤ 10127) ∨ (0 ≤ x ∧ x < n)
theorem itx_pos {z : TS} (hw : WfZ z) {n : Nat} (hn : n ≤ z.1) {x : Int} (h : GdI z n x) : 1 ≤ (itx z x).length := by
  unfold itx
  split
  · simp
  · rcases h with h | h
    · omega
    · exact (bT_pos hw x.toNat (by omega)).1
/-- a node on top of the stack is printed -/
def PrN (σ : St) (g : FL) (M : Nat) (z : TS) (n : Nat) : Prop := ∀ (s d : Nat) (fi : FI), HM fi M z → fi M 67 = (s : Int) → fi M 68 = ((d + 1 : Nat) : Int) → fi (M + 46) d = (n : Int) → s + (bT z.2.1 z.2.2.1 z.2.2.2 n).length ≤ 200 → d + (bT z.2.1 z.2.2.1 z.2.2.2 n).length ≤ 400 → ∃ f' : FI, PT M fi f' s d (bT z.2.1 z.2.2.1 z.2.2.2 n) ∧ ∀ r, A_X12_tell_32 σ f' g M r → A_X12_tell_32 σ fi g M r
/-- all that waits is printed -/
theorem pr_all {σ : St} {g : FL} {M : Nat} {z : TS} {n : Nat} (hm : Sh12 σ M) (hw : WfZ z) (hz : z.1 ≤ 600) (hn : n ≤ z.1) (ih : ∀ k, k < n → PrN σ g M z k) : ∀ (m : Nat) (l : List Int), l.length = m → (∀ x ∈ l, GdI z n x) → ∀ (s d : Nat) (fi : FI), HM fi M z → fi M 67 = (s : Int) → Stk2 fi M d l → s + (itxs z l).length ≤ 200 → d + (itxs z l).length ≤ 400 → ∃ f' : FI, PT M fi f' s d (itxs z l) ∧ ∀ r, A_X12_tell_32 σ f' g M r → A_X12_tell_32 σ fi g M r := by
  intro m
  induction m with
  | zero =>
    intro l hl hg s d fi hM h67 hS h1 h2
    obtain rfl : l = [] := List.length_eq_zero_iff.mp hl
    exact ⟨fi, ⟨h67, fun k hk => absurd hk (Nat.not_lt_zero k), fun _ _ => rfl, hS.1, fun _ _ => rfl, fun _ _ _ _ _ => rfl⟩, fun r A => A⟩
  | succ m ihm =>
    intro l hl hg s d fi hM h67 hS h1 h2
    -- the highest
    obtain ⟨l0, x, rfl⟩ : ∃ l0 x, l = l0 ++ [x] := by
      have hne : l ≠ [] := fun z => by rw [z] at hl; exact absurd hl (by simp)
      exact ⟨l.dropLast, l.getLast hne, (List.dropLast_concat_getLast hne).symm⟩
    have l0m : l0.length = m := by rw [List.length_append, List.length_singleton] at hl; omega
    have ex : itxs z (l0 ++ [x]) = itx z x ++ itxs z l0 := by
      rw [itxs_app]
      show ([] ++ itx z x) ++ itxs z l0 = _
      rw [List.nil_append]
    rw [ex] at h1 h2 ⊢
    rw [List.length_append] at h1 h2
    have hgx := hg x (List.mem_append_right _ (List.mem_singleton.mpr rfl))
    have hg0 : ∀ y ∈ l0, GdI z n y := fun y hy => hg y (List.mem_append_left _ hy)
    have len0 : l0.length ≤ (itxs z l0).length := by
      have : ∀ l : List Int, (∀ y ∈ l, GdI z n y) → l.length ≤ (itxs z l).length := by
        intro l
        induction l with
        | nil => intro _; exact Nat.le_refl _
        | cons y l ihl =>
          intro h
          show l.length + 1 ≤ (itxs z l ++ itx z y).length
          rw [List.length_append]
          have := ihl fun w hw2 => h w (List.mem_cons_of_mem _ hw2)
          have := itx_pos hw hn (h y (List.mem_cons_self ..))
          omega
      exact this l0 hg0
    have px := itx_pos hw hn hgx
    obtain ⟨s1, s2⟩ := hS
    rw [List.length_append, List.length_singleton] at s1
    have top : fi (M + 46) (d + l0.length) = x := by
      rw [s2 l0.length (by rw [List.length_append, List.length_singleton]; omega), List.getD_eq_getElem?_getD, List.getElem?_append_right (Nat.le_refl _)]
      simp
    -- one item
    have one : ∃ f1 : FI, PT M fi f1 s (d + l0.length) (itx z x) ∧ ∀ r, A_X12_tell_32 σ f1 g M r → A_X12_tell_32 σ fi g M r := by
      unfold itx at px h1 h2 ⊢
      by_cases c : 10000 ≤ x
      · rw [if_pos c] at px h1 h2 ⊢
        rw [List.length_singleton] at h1 h2
        obtain ⟨f1, E, P⟩ := x_put1 (σ := σ) (f := up2 fi M 68 ((d + l0.length : Nat) : Int)) (g := g) (M := M) (s := s) (x := x - 10000) hm (by rw [u2_i (by decide)]; exact h67) (by omega) (by unfold GdI at hgx; omega)
        refine ⟨f1, ⟨P.1, P.2.1, fun k hk => ?_, ?_, fun k hk => ?_, fun c j hc h45 h46 => ?_⟩, fun r A => bk_X12_tell_32 hm ⟨fun y => absurd y (by rw [s1]; omega), fun _ => ?_⟩⟩
        · rw [P.2.2.1 k hk, u2_a (by omega)]
        · rw [P.2.2.2 _ _ (by omega) (by omega), u2_s]
        · rw [P.2.2.2 _ _ (by omega) (by omega), u2_a (by omega)]
        · rw [P.2.2.2 c j (by omega) h45]
          unfold up2
          rw [if_neg (by omega)]
        · rw [s1, show ((d + (l0.length + 1) : Nat) : Int) - 1 = ((d + l0.length : Nat) : Int) by omega, show (((d + l0.length : Nat) : Int)).toNat = d + l0.length from rfl, top]
          exact ⟨⟨by omega, by omega⟩, fun y => absurd y (by omega), fun _ => ⟨by unfold GdI at hgx; omega, f1, g, E, A⟩⟩
      · rw [if_neg c] at px h1 h2 ⊢
        have hx : 0 ≤ x ∧ x < n := by unfold GdI at hgx; omega
        exact ih x.toNat (by omega) s (d + l0.length) fi hM h67 (by rw [s1]; rfl) (by rw [top]; omega) (by omega) (by omega)
    obtain ⟨f1, P1, K1⟩ := one
    obtain ⟨f2, P2, K2⟩ := ihm l0 l0m hg0 (s + (itx z x).length) d f1 (hM.pt P1) P1.1 ⟨P1.2.2.2.1, fun k hk => by
      rw [P1.2.2.2.2.1 _ (by omega), s2 k (by rw [List.length_append]; omega), List.getD_eq_getElem?_getD, List.getD_eq_getElem?_getD, List.getElem?_append_left hk]⟩ (by omega) (by omega)
    exact ⟨f2, P1.app P2 (by omega), fun r A => K1 r (K2 r A)⟩
theorem bnd_1 {k : Int} : bnd k < 1 ↔ k = 7 := by
  unfold bnd
  split
  · omega
  · split <;> omega
theorem bnd_22 {k : Int} : bnd k < 2 ↔ k = 7 ∨ k = 6 := by
  unfold bnd
  split
  · omega
  · split <;> omega
theorem itxs_brI (z : TS) (k a : Int) (v : Nat) (hv : v < 10000) : itxs z (brI k a (v : Int)) = brk k a (bT z.2.1 z.2.2.1 z.2.2.2 v) := by
  have e : itx z (v : Int) = bT z.2.1 z.2.2.1 z.2.2.2 v := by
    unfold itx
    rw [if_neg (by omega)]
    rfl
  unfold brI brk
  split
  · show (([] ++ itx z 10040) ++ itx z (v : Int)) ++ itx z 10041 = _
    rw [e]
    show ([] ++ [40]) ++ _ ++ [41] = _
    rw [List.nil_append, List.append_assoc]
  · show [] ++ itx z (v : Int) = _
    rw [e, List.nil_append]
theorem brI_gd {z : TS} {n v : Nat} {k a : Int} (hv : v < n) : ∀ x ∈ brI k a (v : Int), GdI z n x := fun x hx => by
  unfold brI at hx
  split at hx
  · simp at hx
    unfold GdI
    omega
  · simp at hx
    unfold GdI
    omega
theorem brI_len (k a x : Int) : (brI k a x).length ≤ 3 := by
  unfold brI
  split <;> simp
/-- a node on top of the stack is printed -/
theorem pr_node {σ : St} {g : FL} {M : Nat} {z : TS} (hm : Sh12 σ M) (hw : WfZ z) (hz : z.1 ≤ 300) : ∀ n, n < z.1 → PrN σ g M z n := by
  intro n
  induction n using Nat.strongRecOn with
  | ind n ih =>
    intro hn s d fi hM h67 h68 htop h1 h2
    have pos := (bT_pos hw n hn).1
    obtain ⟨ek, el, er⟩ := hM.2 n hn
    have wn := hw n hn
    obtain ⟨f0, hf0⟩ : ∃ x : FI, x = up2 fi M 68 (d : Int) := ⟨_, rfl⟩
    have f67 : f0 M 67 = (s : Int) := by rw [hf0, u2_i (by decide)]; exact h67
    have f68 : f0 M 68 = (d : Int) := by rw [hf0, u2_s]
    have hM0 : HM f0 M z := by
      rw [hf0]
      refine ⟨by rw [u2_i (by decide)]; exact hM.1, fun j hj => ?_⟩
      rw [u2_a (by omega), u2_a (by omega), u2_a (by omega)]
      exact hM.2 j hj
    have ek0 : f0 (M + 41) ((n : Int)).toNat = swp (z.2.1 n) := (hM0.2 n hn).1
    have el0 : f0 (M + 42) ((n : Int)).toNat = z.2.2.1 n := (hM0.2 n hn).2.1
    have er0 : f0 (M + 43) ((n : Int)).toNat = z.2.2.2 n := (hM0.2 n hn).2.2
    have s67 := swp_67 (k := z.2.1 n)
    -- the step of the loop
    have go : ∀ (f1 : FI), Ex mt 2 289 (il σ f0 g) [vR 12 (some M), vI (n : Int)] (il σ f1 g, []) → ∀ r, A_X12_tell_32 σ f1 g M r → A_X12_tell_32 σ fi g M r := fun f1 E r A => by
      refine bk_X12_tell_32 hm ⟨fun y => absurd y (by rw [h68]; omega), fun _ => ?_⟩
      rw [h68, show ((d + 1 : Nat) : Int) - 1 = (d : Int) by omega, show ((d : Int)).toNat = d from rfl, htop]
      refine ⟨⟨by omega, by omega⟩, fun _ => ⟨f1, g, ?_, A⟩, fun y => absurd (by omega) y⟩
      rw [← hf0]
      exact E
    -- what was pushed is printed
    have fin : ∀ (f1 : FI) (l : List Int), Pr M 68 (M + 46) f0 f1 d l → (∀ x ∈ l, GdI z n x) → itxs z l = bT z.2.1 z.2.2.1 z.2.2.2 n → Ex mt 2 289 (il σ f0 g) [vR 12 (some M), vI (n : Int)] (il σ f1 g, []) → ∃ f' : FI, PT M fi f' s d (bT z.2.1 z.2.2.1 z.2.2.2 n) ∧ ∀ r, A_X12_tell_32 σ f' g M r → A_X12_tell_32 σ fi g M r := fun f1 l P hg ht E => by
      obtain ⟨f2, P2, K2⟩ := pr_all hm hw (by omega) (by omega) (fun k hk => ih k hk (by omega)) l.length l rfl hg s d f1 (hM0.pr P (by decide) (Or.inr rfl)) (by rw [P.2.2.2 _ _ (by omega) (by omega)]; exact f67) ⟨P.1, P.2.1⟩ (by rw [ht]; exact h1) (by rw [ht]; exact h2)
      rw [ht] at P2
      refine ⟨f2, ⟨P2.1, P2.2.1, fun k hk => ?_, P2.2.2.2.1, fun k hk => ?_, fun c j hc h45 h46 => ?_⟩, fun r A => go f1 E r (K2 r A)⟩
      · rw [P2.2.2.1 k hk, P.2.2.2 _ _ (by omega) (by omega), hf0, u2_a (by omega)]
      · rw [P2.2.2.2.2.1 k hk, P.2.2.1 k hk, hf0, u2_a (by omega)]
      · rw [P2.2.2.2.2.2 c j hc h45 h46, P.2.2.2 c j (by omega) h46, hf0]
        unfold up2
        rw [if_neg (by omega)]
    unfold Wf1 at wn
    by_cases h7 : z.2.1 n = 7
    · -- either
      obtain ⟨t1, t2, t3, t4⟩ := bT_7 hw hn h7
      obtain ⟨a, ha⟩ := Int.eq_ofNat_of_zero_le t3.1
      obtain ⟨b, hb⟩ := Int.eq_ofNat_of_zero_le t4.1
      rw [ha, hb, show ((a : Int)).toNat = a from rfl, show ((b : Int)).toNat = b from rfl] at t1
      have kb := (hM0.2 b (by omega)).1
      have lt1 := (tx_len z.2.1 z.2.2.1 z.2.2.2 1 b).1
      have l1 : (bT z.2.1 z.2.2.1 z.2.2.2 n).length ≤ 200 := by omega
      -- the right one, the sign, the left one
      obtain ⟨wv, hwv, K0⟩ : ∃ wv : Int, ((wv = 1 ∧ bnd (z.2.1 b) < 1) ∨ (wv = 0 ∧ ¬ bnd (z.2.1 b) < 1)) ∧ ∀ r, A_X12_tells_69 σ f0 g M 6 (a : Int) M (b : Int) wv r → Ex mt 2 289 (il σ f0 g) [vR 12 (some M), vI (n : Int)] r := by
        have kb7 : f0 (M + 41) ((b : Int)).toNat = 6 ↔ z.2.1 b = 7 := by rw [show f0 (M + 41) ((b : Int)).toNat = swp (z.2.1 b) from kb]; exact swp_67.1
        by_cases c : z.2.1 b = 7
        · refine ⟨1, Or.inl ⟨rfl, bnd_1.mpr c⟩, fun r A => bk_X12_tells_0 hm ?_⟩
          rw [ek0, el0, er0, ha, hb, h7]
          exact ⟨by omega, fun _ => ⟨⟨by omega, by omega⟩, fun _ => A, fun y => absurd (kb7.mpr c) y⟩, fun y => absurd rfl y⟩
        · refine ⟨0, Or.inr ⟨rfl, fun y => c (bnd_1.mp y)⟩, fun r A => bk_X12_tells_0 hm ?_⟩
          rw [ek0, el0, er0, ha, hb, h7]
          exact ⟨by omega, fun _ => ⟨⟨by omega, by omega⟩, fun y => absurd (kb7.mp y) c, fun _ => ⟨fun _ => A, fun y => absurd y (by decide)⟩⟩, fun y => absurd rfl y⟩
      have bl := brI_len (z.2.1 b) 1 (b : Int)
      obtain ⟨f1, E1, P1⟩ := x_laterNode (g := g) (x := (b : Int)) (k := z.2.1 b) (a := 1) hm f68 (by omega) hwv
      obtain ⟨f2, E2, P2⟩ := x_later (g := g) (x := 10000 + 43) hm P1.1 (by omega)
      have P12 := P1.app P2
      obtain ⟨f3, E3, P3⟩ := x_laterNode (g := g) (x := (a : Int)) (w := 0) (k := z.2.1 a) (a := 0) hm P12.1 (by rw [List.length_append, List.length_singleton]; omega) (Or.inr ⟨rfl, by have := bnd_rg (z.2.1 a); omega⟩)
      refine fin f3 _ (P12.app P3) (fun x hx => ?_) ?_ (K0 _ (bk_X12_tells_69 hm ⟨f1, g, E1, fun y => absurd rfl y, fun _ => bk_X12_tells_89 hm ⟨by omega, f2, g, E2, fun _ => bk_X12_tells_119 ⟨f3, g, E3, rfl⟩, fun y => absurd y (by decide)⟩⟩))
      · rcases List.mem_append.mp hx with hx | hx
        · rcases List.mem_append.mp hx with hx | hx
          · exact brI_gd (by omega) x hx
          · rw [List.mem_singleton] at hx
            unfold GdI
            omega
        · exact brI_gd (by omega) x hx
      · rw [itxs_app, itxs_app, itxs_brI z _ _ a (by omega), itxs_brI z _ _ b (by omega), t1]
        have := tZ_0 (K := z.2.1) (L := z.2.2.1) (R := z.2.2.2) (k := a)
        unfold tx at this
        rw [this]
        rfl
    · by_cases h6 : z.2.1 n = 6
      · -- then
        obtain ⟨t1, t2, t3, t4⟩ := bT_6 hw hn h6
        obtain ⟨a, ha⟩ := Int.eq_ofNat_of_zero_le t3.1
        obtain ⟨b, hb⟩ := Int.eq_ofNat_of_zero_le t4.1
        rw [ha, hb, show ((a : Int)).toNat = a from rfl, show ((b : Int)).toNat = b from rfl] at t1
        have kb := (hM0.2 b (by omega)).1
        have kb67 := swp_67 (k := z.2.1 b)
        obtain ⟨wv, hwv, K0⟩ : ∃ wv : Int, ((wv = 1 ∧ bnd (z.2.1 b) < 2) ∨ (wv = 0 ∧ ¬ bnd (z.2.1 b) < 2)) ∧ ∀ r, A_X12_tells_69 σ f0 g M 7 (a : Int) M (b : Int) wv r → Ex mt 2 289 (il σ f0 g) [vR 12 (some M), vI (n : Int)] r := by
          have kbe : f0 (M + 41) ((b : Int)).toNat = swp (z.2.1 b) := kb
          have e7 : swp (z.2.1 n) = 7 := s67.2.mpr h6
          by_cases c7 : z.2.1 b = 7
          · refine ⟨1, Or.inl ⟨rfl, bnd_22.mpr (Or.inl c7)⟩, fun r A => bk_X12_tells_0 hm ?_⟩
            rw [ek0, el0, er0, ha, hb, e7, kbe]
            exact ⟨by omega, fun y => absurd y (by decide), fun _ => ⟨fun y => absurd rfl y, fun _ => ⟨⟨by omega, by omega⟩, fun _ => A, fun y => absurd (kb67.1.mpr c7) y⟩⟩⟩
          · by_cases c6 : z.2.1 b = 6
            · refine ⟨1, Or.inl ⟨rfl, bnd_22.mpr (Or.inr c6)⟩, fun r A => bk_X12_tells_0 hm ?_⟩
              rw [ek0, el0, er0, ha, hb, e7, kbe]
              exact ⟨by omega, fun y => absurd y (by decide), fun _ => ⟨fun y => absurd rfl y, fun _ => ⟨⟨by omega, by omega⟩, fun y => absurd (kb67.1.mp y) c7, fun _ => ⟨fun y => absurd rfl y, fun _ => ⟨by omega, fun y => absurd (kb67.2.mpr c6) y, fun _ => A⟩⟩⟩⟩⟩
            · refine ⟨0, Or.inr ⟨rfl, fun y => (bnd_22.mp y).elim c7 c6⟩, fun r A => bk_X12_tells_0 hm ?_⟩
              rw [ek0, el0, er0, ha, hb, e7, kbe]
              exact ⟨by omega, fun y => absurd y (by decide), fun _ => ⟨fun y => absurd rfl y, fun _ => ⟨⟨by omega, by omega⟩, fun y => absurd (kb67.1.mp y) c7, fun _ => ⟨fun y => absurd rfl y, fun _ => ⟨by omega, fun _ => A, fun y => absurd (kb67.2.mp y) c6⟩⟩⟩⟩⟩
        have bl := brI_len (z.2.1 b) 2 (b : Int)
        obtain ⟨f1, E1, P1⟩ := x_laterNode (g := g) (x := (b : Int)) (k := z.2.1 b) (a := 2) hm f68 (by omega) hwv
        obtain ⟨f2, E2, P2⟩ := x_later (g := g) (x := 10000 + 59) hm P1.1 (by omega)
        have P12 := P1.app P2
        have hM2 := hM0.pr P12 (by decide) (Or.inr rfl)
        have ka : f2 (M + 41) ((a : Int)).toNat = swp (z.2.1 a) := (hM2.2 a (by omega)).1
        have ka67 := swp_67 (k := z.2.1 a)
        obtain ⟨wa, hwa, K1⟩ : ∃ wa : Int, ((wa = 1 ∧ bnd (z.2.1 a) < 1) ∨ (wa = 0 ∧ ¬ bnd (z.2.1 a) < 1)) ∧ ∀ r, A_X12_tells_119 σ f2 g M (a : Int) wa r → A_X12_tells_89 σ f1 g M 7 (a : Int) M 10000 59 r := by
          by_cases c7 : z.2.1 a = 7
          · refine ⟨1, Or.inl ⟨rfl, bnd_1.mpr c7⟩, fun r A => bk_X12_tells_89 hm ⟨by omega, f2, g, E2, fun y => absurd rfl y, fun _ => ⟨by omega, ?_⟩⟩⟩
            rw [ka]
            exact ⟨fun y => absurd (ka67.1.mpr c7) y, fun _ => A⟩
          · refine ⟨0, Or.inr ⟨rfl, fun y => c7 (bnd_1.mp y)⟩, fun r A => bk_X12_tells_89 hm ⟨by omega, f2, g, E2, fun y => absurd rfl y, fun _ => ⟨by omega, ?_⟩⟩⟩
            rw [ka]
            exact ⟨fun _ => A, fun y => absurd (ka67.1.mp y) c7⟩
        obtain ⟨f3, E3, P3⟩ := x_laterNode (g := g) (x := (a : Int)) (k := z.2.1 a) (a := 1) hm P12.1 (by rw [List.length_append, List.length_singleton]; omega) hwa
        refine fin f3 _ (P12.app P3) (fun x hx => ?_) ?_ (K0 _ (bk_X12_tells_69 hm ⟨f1, g, E1, fun _ => K1 _ (bk_X12_tells_119 ⟨f3, g, E3, rfl⟩), fun y => absurd y (by decide)⟩))
        · rcases List.mem_append.mp hx with hx | hx
          · rcases List.mem_append.mp hx with hx | hx
            · exact brI_gd (by omega) x hx
            · rw [List.mem_singleton] at hx
              unfold GdI
              omega
          · exact brI_gd (by omega) x hx
        · rw [itxs_app, itxs_app, itxs_brI z _ _ a (by omega), itxs_brI z _ _ b (by omega), t1]
          rfl
      · have n6 : ¬ swp (z.2.1 n) = 6 := fun y => h7 (s67.1.mp y)
        have n7 : ¬ swp (z.2.1 n) = 7 := fun y => h6 (s67.2.mp y)
        have sw : swp (z.2.1 n) = z.2.1 n := by
          unfold swp
          rw [if_neg h6, if_neg h7]
        have K0 : ∀ r, A_X12_tells_125 σ f0 g M (n : Int) (z.2.1 n) r → Ex mt 2 289 (il σ f0 g) [vR 12 (some M), vI (n : Int)] r := fun r A => by
          refine bk_X12_tells_0 hm ?_
          rw [ek0, sw]
          rw [sw] at n6 n7
          exact ⟨by omega, fun y => absurd y n6, fun _ => ⟨fun _ => A, fun y => absurd y n7⟩⟩
        by_cases h5 : z.2.1 n = 5
        · -- star
          obtain ⟨t1, t2, t3⟩ := bT_5 hw hn h5
          obtain ⟨a, ha⟩ := Int.eq_ofNat_of_zero_le t3.1
          rw [ha, show ((a : Int)).toNat = a from rfl] at t1
          obtain ⟨f1, E1, P1⟩ := x_later (g := g) (x := 10042) hm f68 (by omega)
          have hM1 := hM0.pr P1 (by decide) (Or.inr rfl)
          have ka : f1 (M + 41) ((a : Int)).toNat = swp (z.2.1 a) := (hM1.2 a (by omega)).1
          have ka67 := swp_67 (k := z.2.1 a)
          obtain ⟨wa, hwa, K1⟩ : ∃ wa : Int, ((wa = 1 ∧ bnd (z.2.1 a) < 2) ∨ (wa = 0 ∧ ¬ bnd (z.2.1 a) < 2)) ∧ ∀ r, A_X12_tells_173 σ f1 g M (a : Int) wa r → A_X12_tells_125 σ f0 g M (n : Int) (z.2.1 n) r := by
            by_cases c7 : z.2.1 a = 7
            · refine ⟨1, Or.inl ⟨rfl, bnd_22.mpr (Or.inl c7)⟩, fun r A => bk_X12_tells_125 hm ⟨fun y => absurd h5 y, fun _ => ?_⟩⟩
              rw [el0, ha]
              refine ⟨by omega, f1, g, E1, by omega, ?_⟩
              rw [ka]
              exact ⟨fun _ => A, fun y => absurd (ka67.1.mpr c7) y⟩
            · by_cases c6 : z.2.1 a = 6
              · refine ⟨1, Or.inl ⟨rfl, bnd_22.mpr (Or.inr c6)⟩, fun r A => bk_X12_tells_125 hm ⟨fun y => absurd h5 y, fun _ => ?_⟩⟩
                rw [el0, ha]
                refine ⟨by omega, f1, g, E1, by omega, ?_⟩
                rw [ka]
                exact ⟨fun y => absurd (ka67.1.mp y) c7, fun _ => ⟨by omega, fun y => absurd (ka67.2.mpr c6) y, fun _ => A⟩⟩
              · refine ⟨0, Or.inr ⟨rfl, fun y => (bnd_22.mp y).elim c7 c6⟩, fun r A => bk_X12_tells_125 hm ⟨fun y => absurd h5 y, fun _ => ?_⟩⟩
                rw [el0, ha]
                refine ⟨by omega, f1, g, E1, by omega, ?_⟩
                rw [ka]
                exact ⟨fun y => absurd (ka67.1.mp y) c7, fun _ => ⟨by omega, fun _ => A, fun y => absurd (ka67.2.mp y) c6⟩⟩
          obtain ⟨f3, E3, P3⟩ := x_laterNode (g := g) (x := (a : Int)) (k := z.2.1 a) (a := 2) hm P1.1 (by rw [List.length_singleton]; omega) hwa
          refine fin f3 _ (P1.app P3) (fun x hx => ?_) ?_ (K0 _ (K1 _ (bk_X12_tells_173 ⟨f3, g, E3, rfl⟩)))
          · rcases List.mem_append.mp hx with hx | hx
            · rw [List.mem_singleton] at hx
              unfold GdI
              omega
            · exact brI_gd (by omega) x hx
          · rw [itxs_app, itxs_brI z _ _ a (by omega), t1]
            rfl
        · -- an atom is printed at once
          obtain ⟨t1, t2⟩ := bT_a (K := z.2.1) (L := z.2.2.1) (R := z.2.2.2) (k := n) (by omega)
          have kr : 0 ≤ z.2.1 n ∧ z.2.1 n ≤ 4 := by omega
          have at_ : ∃ f1 : FI, A_X12_tells_179 σ f0 g M (n : Int) (z.2.1 n) (il σ f1 g, []) ∧ Pr M 67 (M + 45) f0 f1 s (aTx (z.2.1 n) (z.2.2.1 n) (z.2.2.2 n)) := by
            rw [t1] at h1
            unfold aTx at h1 ⊢
            by_cases k0 : z.2.1 n = 0
            · rw [if_pos k0] at h1 ⊢
              obtain ⟨f1, E, P⟩ := x_put1 (g := g) (x := 48) hm f67 (by omega) (by omega)
              exact ⟨f1, bk_X12_tells_179 hm ⟨fun _ => bk_X12_tells_188 hm ⟨fun y => absurd k0 y, fun _ => ⟨f1, g, E, rfl⟩⟩, fun y => absurd k0 y⟩, P⟩
            · rw [if_neg k0] at h1 ⊢
              by_cases k1 : z.2.1 n = 1
              · rw [if_pos k1] at h1 ⊢
                obtain ⟨f1, E, P⟩ := x_put1 (g := g) (x := 49) hm f67 (by omega) (by omega)
                exact ⟨f1, bk_X12_tells_179 hm ⟨fun y => absurd y k0, fun _ => ⟨fun y => absurd k1 y, fun _ => bk_X12_tells_188 hm ⟨fun _ => ⟨f1, g, E, rfl⟩, fun y => absurd y k0⟩⟩⟩, P⟩
              · rw [if_neg k1] at h1 ⊢
                have lr : (0 ≤ z.2.2.1 n ∧ z.2.2.1 n ≤ 3) ∧ (0 ≤ z.2.2.2 n ∧ z.2.2.2 n ≤ 7) := by omega
                have d274 : ∀ (fj : FI) (u : Nat) (y : Int), HM fj M z → fj M 67 = (u : Int) → u < 700 → (0 ≤ y ∧ y ≤ 127) → ∃ f' : FI, A_X12_tells_274 σ fj g M (n : Int) M y (il σ f' g, []) ∧ Pr M 67 (M + 45) fj f' u ([y] ++ [48 + z.2.2.2 n]) := fun fj u y q1 q2 q3 q4 => by
                  obtain ⟨f1, E1, P1⟩ := x_put1 (g := g) (x := y) hm q2 (by omega) q4
                  have r1 : f1 (M + 43) ((n : Int)).toNat = z.2.2.2 n := ((q1.pr P1 (by decide) (Or.inl rfl)).2 n hn).2.2
                  obtain ⟨f2, E2, P2⟩ := x_put1 (g := g) (x := 48 + z.2.2.2 n) hm P1.1 (by rw [List.length_singleton]; omega) (by omega)
                  refine ⟨f2, bk_X12_tells_274 hm ⟨f1, g, E1, ?_⟩, P1.app P2⟩
                  rw [r1]
                  exact ⟨⟨by omega, by omega⟩, f2, g, E2, rfl⟩
                have d261 : ∀ (fj : FI) (u : Nat), HM fj M z → fj M 67 = (u : Int) → u < 700 → ∃ f' : FI, A_X12_tells_261 σ fj g M (n : Int) (z.2.1 n) (il σ f' g, []) ∧ Pr M 67 (M + 45) fj f' u ([if z.2.1 n = 4 then 58 else 61] ++ [48 + z.2.2.2 n]) := fun fj u q1 q2 q3 => by
                  by_cases k4 : z.2.1 n = 4
                  · rw [if_pos k4]
                    obtain ⟨f', A, P⟩ := d274 fj u 58 q1 q2 q3 (by omega)
                    exact ⟨f', bk_X12_tells_261 hm ⟨fun y => absurd k4 y, fun _ => A⟩, P⟩
                  · rw [if_neg k4]
                    obtain ⟨f', A, P⟩ := d274 fj u 61 q1 q2 q3 (by omega)
                    exact ⟨f', bk_X12_tells_261 hm ⟨fun _ => A, fun y => absurd y k4⟩, P⟩
                have d217 : ∀ (fj : FI) (u : Nat), HM fj M z → fj M 67 = (u : Int) → u < 600 → ∃ f' : FI, A_X12_tells_217 σ fj g M (n : Int) (z.2.1 n) (il σ f' g, []) ∧ Pr M 67 (M + 45) fj f' u ((if z.2.2.1 n = 3 then [97, 116] else [97 + z.2.2.1 n]) ++ ([if z.2.1 n = 4 then 58 else 61] ++ [48 + z.2.2.2 n])) := fun fj u q1 q2 q3 => by
                  have lj : fj (M + 42) ((n : Int)).toNat = z.2.2.1 n := (q1.2 n hn).2.1
                  by_cases l3 : z.2.2.1 n = 3
                  · rw [if_pos l3]
                    obtain ⟨f1, E1, P1⟩ := x_put1 (g := g) (x := 97) hm q2 (by omega) (by omega)
                    obtain ⟨f2, E2, P2⟩ := x_put1 (g := g) (x := 116) hm P1.1 (by rw [List.length_singleton]; omega) (by omega)
                    have P12 := P1.app P2
                    have q12 := q1.pr P12 (by decide) (Or.inl rfl)
                    have l1' : f1 (M + 42) ((n : Int)).toNat = z.2.2.1 n := ((q1.pr P1 (by decide) (Or.inl rfl)).2 n hn).2.1
                    obtain ⟨f3, A, P3⟩ := d261 f2 (u + 2) q12 P12.1 (by omega)
                    refine ⟨f3, bk_X12_tells_217 hm ⟨by omega, fun y => absurd (by rw [lj]; exact l3) y, fun _ => bk_X12_tells_242 hm ⟨f1, g, E1, by omega, fun y => absurd (by rw [l1']; exact l3) y, fun _ => ⟨f2, g, E2, A⟩⟩⟩, P12.app P3⟩
                  · rw [if_neg l3]
                    obtain ⟨f1, E1, P1⟩ := x_put1 (g := g) (x := 97 + z.2.2.1 n) hm q2 (by omega) (by omega)
                    have q11 := q1.pr P1 (by decide) (Or.inl rfl)
                    have l1' : f1 (M + 42) ((n : Int)).toNat = z.2.2.1 n := (q11.2 n hn).2.1
                    obtain ⟨f3, A, P3⟩ := d261 f1 (u + 1) q11 P1.1 (by omega)
                    refine ⟨f3, bk_X12_tells_217 hm ⟨by omega, fun _ => bk_X12_tells_233 hm ?_, fun y => absurd (by rw [lj] at y; exact y) l3⟩, P1.app P3⟩
                    rw [lj]
                    exact ⟨⟨by omega, by omega⟩, bk_X12_tells_242 hm ⟨f1, g, E1, by omega, fun _ => A, fun y => absurd (by rw [l1'] at y; exact y) l3⟩⟩
                by_cases k3 : z.2.1 n = 3
                · rw [if_pos k3]
                  obtain ⟨f1, E1, P1⟩ := x_put1 (g := g) (x := 33) hm f67 (by omega) (by omega)
                  obtain ⟨f2, A, P2⟩ := d217 f1 (s + 1) (hM0.pr P1 (by decide) (Or.inl rfl)) P1.1 (by omega)
                  exact ⟨f2, bk_X12_tells_179 hm ⟨fun y => absurd y k0, fun _ => ⟨fun _ => bk_X12_tells_206 hm ⟨fun y => absurd k3 y, fun _ => ⟨f1, g, E1, A⟩⟩, fun y => absurd y k1⟩⟩, P1.app P2⟩
                · rw [if_neg k3]
                  obtain ⟨f2, A, P2⟩ := d217 f0 s hM0 f67 (by omega)
                  exact ⟨f2, bk_X12_tells_179 hm ⟨fun y => absurd y k0, fun _ => ⟨fun _ => bk_X12_tells_206 hm ⟨fun _ => A, fun y => absurd y k3⟩, fun y => absurd y k1⟩⟩, P2⟩
          obtain ⟨f1, A1, P1⟩ := at_
          rw [← t1] at P1
          refine ⟨f1, ⟨P1.1, P1.2.1, fun k hk => ?_, ?_, fun k hk => ?_, fun c j hc h45 h46 => ?_⟩, fun r A => go f1 (K0 _ (bk_X12_tells_125 hm ⟨fun _ => A1, fun y => absurd y h5⟩)) r A⟩
          · rw [P1.2.2.1 k hk, hf0, u2_a (by omega)]
          · rw [P1.2.2.2 _ _ (by omega) (by omega)]
            exact f68
          · rw [P1.2.2.2 _ _ (by omega) (by omega), hf0, u2_a (by omega)]
          · rw [P1.2.2.2 c j (by omega) h45, hf0]
            unfold up2
            rw [if_neg (by omega)]
