/-! what cables join -/
theorem bk_X0_groupOf_0 {σ : St} {f : FI} {g : FL} {a : Nat} {x1 : Int} {r : St × List Vl} (hs : Sh0 σ a) (h : ((-2147483648 ≤ (f a 3) ∧ (f a 3) ≤ 2147483647) ∧ (0 ≤ x1 ∧ x1 < 32)) ∧ ((¬ ((hB (f a 3) x1)) → ((0 ≤ x1 ∧ x1 < 31)) ∧ (r = ((il σ f g), [vI (p2 x1)]))) ∧ (((hB (f a 3) x1)) → (r = ((il σ f g), [vI (f a 3)]))))) : Ex mt 1 5 (il σ f g) [vR 0 (some a), vI x1] r := Ex.mk mt_5 (show Gx mt 1 cd_X0_groupOf (il σ f g) b_X0_groupOf_0 [some (vR 0 (some a)), some (vI x1)] [] r from (go_loadA rfl (gi_getI (go_loadI rfl (go_callS rfl rfl rfl (pu_hasBit h.1.1 h.1.2) (go_ifb_eq (fun e3 => have h1 := h.2.1 e3; (go_pushI rfl (go_loadI rfl (go_ishl (iShl_1 h1.1) (go_fall (h1.2 ▸ gq_retI)))))) (fun e3 => have h2 := h.2.2 e3; (go_loadA rfl (gi_getI (go_goto (h2 ▸ gq_retI)))))))))))
def A_X0_isOnRing_14 (σ : St) (f : FI) (g : FL) (a : Nat) (x1 : Int) (x2 : Int) (x3 : Int) (x4 : Int) (r : St × List Vl) : Prop := ∀ (y5 : Option Vl) (y6 : Option Vl), Gx mt 2 cd_X0_isOnRing (il σ f g) (cd_X0_isOnRing 14) [some (vR 0 (some a)), some (vI x1), some (vI x2), some (vI x3), some (vI x4), y5, y6] [] r
def A_X0_isOnRing_24 (σ : St) (f : FI) (g : FL) (a : Nat) (x1 : Int) (x2 : Int) (x3 : Int) (x4 : Int) (x5 : Int) (r : St × List Vl) : Prop := ∀ (y6 : Option Vl), Gx mt 2 cd_X0_isOnRing (il σ f g) (cd_X0_isOnRing 24) [some (vR 0 (some a)), some (vI x1), some (vI x2), some (vI x3), some (vI x4), some (vI x5), y6] [] r
theorem bk_X0_isOnRing_0 {σ : St} {f : FI} {g : FL} {a : Nat} {x1 : Int} {x2 : Int} {r : St × List Vl} (hs : Sh0 σ a) (h : ((0 ≤ x1 ∧ x1 < 16)) ∧ (∃ (f1 : FI) (g2 : FL) (v4 : Int), Ex mt 1 5 (il σ f g) [vR 0 (some a), vI (f (a + 1) ((x1).toNat))] ((il σ f1 g2), [vI v4]) ∧ (A_X0_isOnRing_14 σ f1 g2 a x1 x2 v4 0 r))) : Ex mt 2 4 (il σ f g) [vR 0 (some a), vI x1, vI x2] r := Ex.mk mt_4 (show Gx mt 2 cd_X0_isOnRing (il σ f g) b_X0_isOnRing_0 [some (vR 0 (some a)), some (vI x1), some (vI x2), none, none, none, none] [] r from (go_loadA rfl (go_loadA rfl (gi_getR (Sh0.r0 hs) (go_loadI rfl (gi_iald (inl_ (Sh0.l0 hs) h.1) (Exists.elim h.2 fun f1 w5 => Exists.elim w5 fun g2 w6 => Exists.elim w6 fun v4 h3 => (go_callV rfl rfl rfl h3.1 (go_stoI rfl rfl (go_pushI rfl (go_stoI rfl rfl (go_fall (h3.2 _ _)))))))))))))
theorem bk_X0_isOnRing_14 {σ : St} {f : FI} {g : FL} {a : Nat} {x1 : Int} {x2 : Int} {x3 : Int} {x4 : Int} {r : St × List Vl} (hs : Sh0 σ a) (h : ((8 ≤ x4 → ((0 ≤ x1 ∧ x1 < 16) ∧ (-2147483648 ≤ x3 ∧ x3 ≤ 2147483647) ∧ (0 ≤ (f (a + 2) ((x1).toNat)) ∧ (f (a + 2) ((x1).toNat)) < 32)) ∧ (r = ((il σ f g), [vI (bI (hB x3 (f (a + 2) ((x1).toNat))))]))) ∧ (¬ 8 ≤ x4 → (A_X0_isOnRing_24 σ f g a x1 x2 x3 x4 0 r)))) : A_X0_isOnRing_14 σ f g a x1 x2 x3 x4 r := fun y5 y6 => (show Gx mt 2 cd_X0_isOnRing (il σ f g) b_X0_isOnRing_14 [some (vR 0 (some a)), some (vI x1), some (vI x2), some (vI x3), some (vI x4), y5, y6] [] r from (go_loadI rfl (go_pushI rfl (gq_icmp_ge (fun e3 => have h1 := h.1 e3; (go_loadI rfl (go_loadA rfl (gi_getR (Sh0.r1 hs) (go_loadI rfl (gi_iald (inl_ (Sh0.l1 hs) h1.1.1) (go_callS rfl rfl rfl (pu_hasBit h1.1.2.1 h1.1.2.2) (h1.2 ▸ (gq_retZ (bI_01 _)))))))))) (fun e3 => have h2 := h.2 e3; (go_pushI rfl (go_stoI rfl rfl (go_fall (h2 _)))))))))
theorem bk_X0_isOnRing_24 {σ : St} {f : FI} {g : FL} {a : Nat} {x1 : Int} {x2 : Int} {x3 : Int} {x4 : Int} {x5 : Int} {r : St × List Vl} (hs : Sh0 σ a) (h : (((f a 2) ≤ x5 → ((-2147483648 ≤ (x4 + 1) ∧ (x4 + 1) ≤ 2147483647)) ∧ (A_X0_isOnRing_14 σ f g a x1 x2 x3 (x4 + 1) r)) ∧ (¬ (f a 2) ≤ x5 → ((x5 = x1 → ((-2147483648 ≤ (x5 + 1) ∧ (x5 + 1) ≤ 2147483647)) ∧ (A_X0_isOnRing_24 σ f g a x1 x2 x3 x4 (x5 + 1) r)) ∧ (¬ x5 = x1 → ((-2147483648 ≤ x2 ∧ x2 ≤ 2147483647) ∧ (0 ≤ x5 ∧ x5 < 32)) ∧ ((((hB x2 x5)) → ((-2147483648 ≤ (x5 + 1) ∧ (x5 + 1) ≤ 2147483647)) ∧ (A_X0_isOnRing_24 σ f g a x1 x2 x3 x4 (x5 + 1) r)) ∧ (¬ ((hB x2 x5)) → ((0 ≤ x5 ∧ x5 < 16)) ∧ (∃ (f10 : FI) (g11 : FL) (v13 : Int), Ex mt 1 5 (il σ f g) [vR 0 (some a), vI (f (a + 1) ((x5).toNat))] ((il σ f10 g11), [vI v13]) ∧ ((0 ≤ x5 ∧ x5 < 16)) ∧ (∃ (f14 : FI) (g15 : FL) (v17 : Int), Ex mt 1 5 (il σ f10 g11) [vR 0 (some a), vI (f10 (a + 2) ((x5).toNat))] ((il σ f14 g15), [vI v17]) ∧ (((iAnd x3 (iOr v13 v17)) = 0 → ((-2147483648 ≤ (x5 + 1) ∧ (x5 + 1) ≤ 2147483647)) ∧ (A_X0_isOnRing_24 σ f14 g15 a x1 x2 (iOr x3 0) x4 (x5 + 1) r)) ∧ (¬ (iAnd x3 (iOr v13 v17)) = 0 → ((-2147483648 ≤ (x5 + 1) ∧ (x5 + 1) ≤ 2147483647)) ∧ (A_X0_isOnRing_24 σ f14 g15 a x1 x2 (iOr x3 (iOr v13 v17)) x4 (x5 + 1) r)))))))))))) : A_X0_isOnRing_24 σ f g a x1 x2 x3 x4 x5 r := fun y6 => (show Gx mt 2 cd_X0_isOnRing (il σ f g) b_X0_isOnRing_24 [some (vR 0 (some a)), some (vI x1), some (vI x2), some (vI x3), some (vI x4), some (vI x5), y6] [] r from (go_loadI rfl (go_loadA rfl (gi_getI (gq_icmp_ge (fun e3 => have h1 := h.1 e3; (go_iinc rfl h1.1 rfl (go_goto (h1.2 _ _)))) (fun e3 => have h2 := h.2 e3; (go_loadI rfl (go_loadI rfl (gq_icmp_eq (fun e6 => have h4 := h2.1 e6; (go_iinc rfl h4.1 rfl (go_goto (h4.2 _)))) (fun e6 => have h5 := h2.2 e6; (go_loadI rfl (go_loadI rfl (go_callS rfl rfl rfl (pu_hasBit h5.1.1 h5.1.2) (go_ifb_ne (fun e9 => have h7 := h5.2.1 e9; (go_iinc rfl h7.1 rfl (go_goto (h7.2 _)))) (fun e9 => have h8 := h5.2.2 e9; (go_loadA rfl (go_loadA rfl (gi_getR (Sh0.r0 hs) (go_loadI rfl (gi_iald (inl_ (Sh0.l0 hs) h8.1) (Exists.elim h8.2 fun f10 w23 => Exists.elim w23 fun g11 w24 => Exists.elim w24 fun v13 h12 => (go_callV rfl rfl rfl h12.1 (go_loadA rfl (go_loadA rfl (gi_getR (Sh0.r1 hs) (go_loadI rfl (gi_iald (inl_ (Sh0.l1 hs) h12.2.1) (Exists.elim h12.2.2 fun f14 w21 => Exists.elim w21 fun g15 w22 => Exists.elim w22 fun v17 h16 => (go_callV rfl rfl rfl h16.1 (go_ior rfl (go_stoI rfl rfl (go_loadI rfl (go_loadI rfl (go_loadI rfl (go_iand rfl (gq_if_eq (fun e20 => have h18 := h16.2.1 e20; (go_pushI rfl (go_fall (go_ior rfl (go_stoI rfl rfl (go_fall (go_iinc rfl h18.1 rfl (go_goto (h18.2 _))))))))) (fun e20 => have h19 := h16.2.2 e20; (go_loadI rfl (go_goto (go_ior rfl (go_stoI rfl rfl (go_fall (go_iinc rfl h19.1 rfl (go_goto (h19.2 _)))))))))))))))))))))))))))))))))))))))))))))
def A_X12_reached_7 (σ : St) (f : FI) (g : FL) (a : Nat) (x2 : Int) (x3 : Int) (x4 : Int) (r : St × List Vl) : Prop := ∀ (y1 : Int) (y5 : Option Vl) (y6 : Option Vl), Gx mt 0 cd_X12_reached (il σ f g) (cd_X12_reached 7) [some (vR 12 (some a)), some (vI y1), some (vI x2), some (vI x3), some (vI x4), y5, y6] [] r
def A_X12_reached_39 (σ : St) (f : FI) (g : FL) (a : Nat) (x2 : Int) (x3 : Int) (x4 : Int) (x5 : Int) (r : St × List Vl) : Prop := ∀ (y1 : Int) (y6 : Option Vl), Gx mt 0 cd_X12_reached (il σ f g) (cd_X12_reached 39) [some (vR 12 (some a)), some (vI y1), some (vI x2), some (vI x3), some (vI x4), some (vI x5), y6] [] r
theorem bk_X12_reached_0 {σ : St} {f : FI} {g : FL} {a : Nat} {x1 : Int} {x2 : Int} {r : St × List Vl} (hs : Sh12 σ a) (h : ((0 ≤ x1 ∧ x1 < 31)) ∧ (A_X12_reached_7 σ f g a x2 (p2 x1) 0 r)) : Ex mt 0 294 (il σ f g) [vR 12 (some a), vI x1, vI x2] r := Ex.mk mt_294 (show Gx mt 0 cd_X12_reached (il σ f g) b_X12_reached_0 [some (vR 12 (some a)), some (vI x1), some (vI x2), none, none, none, none] [] r from (go_pushI rfl (go_loadI rfl (go_ishl (iShl_1 h.1) (go_stoI rfl rfl (go_pushI rfl (go_stoI rfl rfl (go_fall (h.2 _ _ _)))))))))
theorem bk_X12_reached_7 {σ : St} {f : FI} {g : FL} {a : Nat} {x2 : Int} {x3 : Int} {x4 : Int} {r : St × List Vl} (hs : Sh12 σ a) (h : ((x4 = x3 → (r = ((il σ f g), [vI x3]))) ∧ (¬ x4 = x3 → (((iAnd x3 (f a 70)) = 0 → (A_X12_reached_39 σ f g a x2 (iOr x3 0) x3 0 r)) ∧ (¬ (iAnd x3 (f a 70)) = 0 → (A_X12_reached_39 σ f g a x2 (iOr x3 (f a 70)) x3 0 r)))))) : A_X12_reached_7 σ f g a x2 x3 x4 r := fun y1 y5 y6 => (show Gx mt 0 cd_X12_reached (il σ f g) b_X12_reached_7 [some (vR 12 (some a)), some (vI y1), some (vI x2), some (vI x3), some (vI x4), y5, y6] [] r from (go_loadI rfl (go_loadI rfl (gq_icmp_eq (fun e3 => have h1 := h.1 e3; (go_loadI rfl (h1 ▸ gq_retI))) (fun e3 => have h2 := h.2 e3; (go_loadI rfl (go_stoI rfl rfl (go_loadI rfl (go_loadI rfl (go_loadA rfl (gi_getI (go_iand rfl (gq_if_eq (fun e6 => have h4 := h2.1 e6; (go_pushI rfl (go_fall (go_ior rfl (go_stoI rfl rfl (go_pushI rfl (go_stoI rfl rfl (go_fall (h4 _ _))))))))) (fun e6 => have h5 := h2.2 e6; (go_loadA rfl (gi_getI (go_goto (go_ior rfl (go_stoI rfl rfl (go_pushI rfl (go_stoI rfl rfl (go_fall (h5 _ _)))))))))))))))))))))))
theorem bk_X12_reached_39 {σ : St} {f : FI} {g : FL} {a : Nat} {x2 : Int} {x3 : Int} {x4 : Int} {x5 : Int} {r : St × List Vl} (hs : Sh12 σ a) (h : (((f a 69) ≤ x5 → (A_X12_reached_7 σ f g a x2 x3 x4 r)) ∧ (¬ (f a 69) ≤ x5 → ((-2147483648 ≤ x2 ∧ x2 ≤ 2147483647) ∧ (0 ≤ x5 ∧ x5 < 32)) ∧ ((¬ ((x2 / p2 x5) % 2) = 1 → ((-2147483648 ≤ (x5 + 1) ∧ (x5 + 1) ≤ 2147483647)) ∧ (A_X12_reached_39 σ f g a x2 (iOr x3 0) x4 (x5 + 1) r)) ∧ (((x2 / p2 x5) % 2) = 1 → ((0 ≤ x5 ∧ x5 < 16) ∧ (-2147483648 ≤ x3 ∧ x3 ≤ 2147483647) ∧ (0 ≤ (f (a + 47) ((x5).toNat)) ∧ (f (a + 47) ((x5).toNat)) < 32) ∧ (0 ≤ (f (a + 48) ((x5).toNat)) ∧ (f (a + 48) ((x5).toNat)) < 32)) ∧ ((¬ ((iOr (x3 / p2 (f (a + 47) ((x5).toNat))) (x3 / p2 (f (a + 48) ((x5).toNat)))) % 2) = 1 → ((-2147483648 ≤ (x5 + 1) ∧ (x5 + 1) ≤ 2147483647)) ∧ (A_X12_reached_39 σ f g a x2 (iOr x3 0) x4 (x5 + 1) r)) ∧ (((iOr (x3 / p2 (f (a + 47) ((x5).toNat))) (x3 / p2 (f (a + 48) ((x5).toNat)))) % 2) = 1 → ((0 ≤ x5 ∧ x5 < 16) ∧ (0 ≤ (f (a + 47) ((x5).toNat)) ∧ (f (a + 47) ((x5).toNat)) < 31) ∧ (0 ≤ (f (a + 48) ((x5).toNat)) ∧ (f (a + 48) ((x5).toNat)) < 31)) ∧ ((-2147483648 ≤ (x5 + 1) ∧ (x5 + 1) ≤ 2147483647)) ∧ (A_X12_reached_39 σ f g a x2 (iOr x3 (iOr (p2 (f (a + 47) ((x5).toNat))) (p2 (f (a + 48) ((x5).toNat))))) x4 (x5 + 1) r)))))))) : A_X12_reached_39 σ f g a x2 x3 x4 x5 r := fun y1 y6 => (show Gx mt 0 cd_X12_reached (il σ f g) b_X12_reached_39 [some (vR 12 (some a)), some (vI y1), some (vI x2), some (vI x3), some (vI x4), some (vI x5), y6] [] r from (go_loadI rfl (go_loadA rfl (gi_getI (gq_icmp_ge (fun e3 => have h1 := h.1 e3; (go_goto (h1 _ _ _))) (fun e3 => have h2 := h.2 e3; (go_loadI rfl (go_loadI rfl (go_ishr (iShr_v h2.1.1 h2.1.2) (go_pushI rfl (go_iand (iAnd_m1 _) (go_pushI rfl (gq_icmp_ne (fun e6 => have h4 := h2.2.1 e6; (go_pushI rfl (go_fall (go_stoI rfl rfl (go_loadI rfl (go_loadI rfl (gq_if_eq (fun _ => (go_pushI rfl (go_fall (go_ior rfl (go_stoI rfl rfl (go_iinc rfl h4.1 rfl (go_goto (h4.2 _ _)))))))) (fun h => absurd (by decide) h)))))))) (fun e6 => have h5 := h2.2.2 e6; (go_loadI rfl (go_loadA rfl (gi_getR (Sh12.r71 hs) (go_loadI rfl (gi_iald (inl_ (Sh12.l71 hs) h5.1.1) (go_ishr (iShr_v h5.1.2.1 h5.1.2.2.1) (go_loadI rfl (go_loadA rfl (gi_getR (Sh12.r72 hs) (go_loadI rfl (gi_iald (inl_ (Sh12.l72 hs) h5.1.1) (go_ishr (iShr_v h5.1.2.1 h5.1.2.2.2) (go_ior rfl (go_pushI rfl (go_iand (iAnd_m1 _) (go_pushI rfl (gq_icmp_ne (fun e9 => have h7 := h5.2.1 e9; (go_pushI rfl (go_fall (go_stoI rfl rfl (go_loadI rfl (go_loadI rfl (gq_if_eq (fun _ => (go_pushI rfl (go_fall (go_ior rfl (go_stoI rfl rfl (go_iinc rfl h7.1 rfl (go_goto (h7.2 _ _)))))))) (fun h => absurd (by decide) h)))))))) (fun e9 => have h8 := h5.2.2 e9; (go_pushI rfl (go_goto (go_stoI rfl rfl (go_loadI rfl (go_loadI rfl (gq_if_eq (fun h => absurd h (by decide)) (fun _ => (go_pushI rfl (go_loadA rfl (gi_getR (Sh12.r71 hs) (go_loadI rfl (gi_iald (inl_ (Sh12.l71 hs) h8.1.1) (go_ishl (iShl_1 h8.1.2.1) (go_pushI rfl (go_loadA rfl (gi_getR (Sh12.r72 hs) (go_loadI rfl (gi_iald (inl_ (Sh12.l72 hs) h8.1.1) (go_ishl (iShl_1 h8.1.2.2) (go_ior rfl (go_goto (go_ior rfl (go_stoI rfl rfl (go_iinc rfl h8.2.1 rfl (go_goto (h8.2.2 _ _))))))))))))))))))))))))))))))))))))))))))))))))))))))))))
def Cab (n : Nat) (e o : Nat → Nat) (D : Nat) : Prop := n ≤ 16 ∧ D < 256 ∧ ∀ i, i < n → e i < 8 ∧ o i < 8
def Dcl (D R : Nat) : Prop := ∀ x y, x < 8 → y < 8 → D.testBit x = true → D.testBit y = true → R.testBit x = true → R.testBit y = true
/-- a set of boxes that no cable leads out of -/
def Clo (n : Nat) (e o : Nat → Nat) (D : Nat) (on : Nat → Prop) (R : Nat) : Prop := Dcl D R ∧ ∀ i, i < n → on i → (R.testBit (e i) = true ↔ R.testBit (o i) = true)
def Okr (n : Nat) (e o : Nat → Nat) (D : Nat) (on : Nat → Prop) (a T : Nat) : Prop := T < 256 ∧ T.testBit a = true ∧ ∀ R, Clo n e o D on R → R.testBit a = true → Sub T R
theorem Sub.eq {T R : Nat} (h1 : T < 256) (h2 : R < 256) (a : Sub T R) (b : Sub R T) : T = R := bit_ext (n := 8) h1 h2 fun i hi => by
  cases x : T.testBit i <;> cases y : R.testBit i
  · rfl
  · rw [b i hi y] at x; exact absurd x (by decide)
  · rw [a i hi x] at y; exact absurd y (by decide)
  · rfl
theorem Okr.one {n : Nat} {e o : Nat → Nat} {D : Nat} {on : Nat → Prop} {a T R : Nat} (h : Okr n e o D on a T) (h1 : Clo n e o D on T) (g : Okr n e o D on a R) (g1 : Clo n e o D on R) : T = R := Sub.eq h.1 g.1 (h.2.2 R g1 g.2.1) (g.2.2 T h1 h.2.1)
theorem Sub.rfl' {T : Nat} : Sub T T := fun _ _ h => h
theorem Sub.tr {T R S : Nat} (a : Sub T R) (b : Sub R S) : Sub T S := fun i hi h => b i hi (a i hi h)
theorem cb_sub {T R : Nat} (h1 : T < 256) (h2 : R < 256) (a : Sub T R) (hne : ¬ T = R) : cb 8 T + 1 ≤ cb 8 R := by
  have : ∃ b, b < 8 ∧ R.testBit b = true ∧ T.testBit b = false := Classical.byContradiction fun z => hne (Sub.eq h1 h2 a fun i hi h => by
    cases x : T.testBit i
    · exact absurd ⟨i, hi, h, x⟩ z
    · rfl)
  obtain ⟨b, hb, h3, h4⟩ := this
  rw [← cb_or hb h4]
  exact fb_ct_sub fun i hi z => sub_or a ⟨hb, h3⟩ i hi z
theorem and_0 {x y : Nat} (hx : x < 256) (hy : y < 256) : iAnd (x : Int) (y : Int) = 0 ↔ ∀ i, i < 8 → ¬ (x.testBit i = true ∧ y.testBit i = true) := by
  rw [iAnd_nat (by omega) (by omega)]
  have hl : x &&& y < 2 ^ 8 := Nat.lt_of_le_of_lt Nat.and_le_left hx
  constructor
  · intro z i hi hb
    have z' : x &&& y = 0 := by omega
    have := Nat.testBit_and x y i
    rw [z', Nat.zero_testBit, hb.1, hb.2] at this
    exact absurd this (by decide)
  · intro z
    have : x &&& y = 0 := bit_ext (n := 8) hl (by decide) fun i hi => by
      rw [Nat.testBit_and, Nat.zero_testBit]
      have := z i hi
      cases h1 : x.testBit i <;> cases h2 : y.testBit i
      · rfl
      · rfl
      · rfl
      · exact absurd ⟨h1, h2⟩ this
    rw [this]
    rfl
def gr (D b : Nat) : Nat := if D.testBit b = true then D else 2 ^ b
theorem gr_lt {D b : Nat} (hD : D < 256) (hb : b < 8) : gr D b < 256 := by
  unfold gr
  split
  · exact hD
  · exact p2_lt (m := 8) hb
theorem gr_self {D b : Nat} : (gr D b).testBit b = true := by
  unfold gr
  split
  · assumption
  · rw [Nat.testBit_two_pow]; simp
theorem gr_cl {D b : Nat} (hb : b < 8) : Dcl D (gr D b) := fun x y hx hy h1 h2 h3 => by
  unfold gr at h3 ⊢
  split at h3
  · rename_i z
    rw [if_pos z]; exact h2
  · rename_i z
    rw [Nat.testBit_two_pow] at h3
    have : b = x := by simpa using h3
    rw [this] at z
    exact absurd h1 z
/-- a group lies in a closed set with any of its boxes -/
theorem gr_in {D R b x : Nat} (hR : Dcl D R) (hb : b < 8) (hx : x < 8) (h1 : (gr D b).testBit x = true) (h2 : R.testBit x = true) : R.testBit b = true := by
  unfold gr at h1
  split at h1
  · rename_i z
    exact hR x b hx hb h1 z h2
  · rw [Nat.testBit_two_pow] at h1
    have : b = x := by simpa using h1
    rw [this]; exact h2
theorem gr_sub {D R b : Nat} (hR : Dcl D R) (hb : b < 8) (h : R.testBit b = true) : Sub (gr D b) R := fun i hi h1 => by
  unfold gr at h1
  split at h1
  · rename_i z
    exact hR b i hb hi z h1 h
  · rw [Nat.testBit_two_pow] at h1
    have : b = i := by simpa using h1
    rw [← this]; exact h
theorem or_dcl {D S T : Nat} (h1 : Dcl D S) (h2 : Dcl D T) : Dcl D (S ||| T) := fun x y hx hy a b c => by
  rw [Nat.testBit_or, Bool.or_eq_true] at c ⊢
  exact c.elim (fun z => Or.inl (h1 x y hx hy a b z)) (fun z => Or.inr (h2 x y hx hy a b z))
theorem or_subs {S T R : Nat} : Sub (S ||| T) R ↔ Sub S R ∧ Sub T R := by
  constructor
  · exact fun h => ⟨fun i hi z => h i hi (by rw [Nat.testBit_or, z]; rfl), fun i hi z => h i hi (by rw [Nat.testBit_or, z, Bool.or_true])⟩
  · exact fun h i hi z => by
      rw [Nat.testBit_or, Bool.or_eq_true] at z
      exact z.elim (h.1 i hi) (h.2 i hi)
theorem x_groupOf {σ : St} {f : FI} {g : FL} {a D b : Nat} (hs : Sh0 σ a) (hD : f a 3 = (D : Int)) (hD2 : D < 256) (hb : b < 8) : Ex mt 1 5 (il σ f g) [vR 0 (some a), vI (b : Int)] (il σ f g, [vI (gr D b : Int)]) := by
  refine bk_X0_groupOf_0 hs ⟨⟨by omega, by omega⟩, fun z => ⟨by omega, ?_⟩, fun z => ?_⟩
  · rw [hD, hB_nat] at z
    unfold gr
    rw [if_neg z, p2_Nat]
  · rw [hD, hB_nat] at z
    unfold gr
    rw [if_pos z, hD]
/-- the class walks 8 times over all cables -/
theorem x_isOnRing {σ : St} {f : FI} {g : FL} {a n D c tp : Nat} {e o : Nat → Nat} (hs : Sh0 σ a) (hc : Cab n e o D) (h2 : f a 2 = (n : Int)) (h3 : f a 3 = (D : Int)) (he : ∀ i, i < n → f (a + 1) i = (e i : Int) ∧ f (a + 2) i = (o i : Int)) (hcn : c < n) (htp : tp < 65536) : ∃ T : Nat, Okr n e o D (fun i => ¬ i = c ∧ tp.testBit i = false) (e c) T ∧ Clo n e o D (fun i => ¬ i = c ∧ tp.testBit i = false) T ∧ Ex mt 2 4 (il σ f g) [vR 0 (some a), vI (c : Int), vI (tp : Int)] (il σ f g, [vI (bI (hB (T : Int) (o c : Int)))]) := by
  have n16 := hc.1
  have hD := hc.2.1
  have sweep : ∀ (m : Int) (k i : Nat), i + k = n → ∀ T : Nat, Okr n e o D (fun i => ¬ i = c ∧ tp.testBit i = false) (e c) T → Dcl D T → ∃ T' : Nat, Okr n e o D (fun i => ¬ i = c ∧ tp.testBit i = false) (e c) T' ∧ Dcl D T' ∧ Sub T T' ∧ (T' = T → ∀ j, i ≤ j → j < n → (¬ j = c ∧ tp.testBit j = false) → (T.testBit (e j) = true ↔ T.testBit (o j) = true)) ∧ (0 ≤ m → m < 8 → ∀ r, A_X0_isOnRing_14 σ f g a (c : Int) (tp : Int) (T' : Int) (m + 1) r → A_X0_isOnRing_24 σ f g a (c : Int) (tp : Int) (T : Int) m (i : Int) r) := by
    intro m k
    induction k with
    | zero =>
      intro i hi T hT hd
      obtain rfl : i = n := by omega
      exact ⟨T, hT, hd, Sub.rfl', fun _ j h1 h2 => by omega, fun _ _ r A => bk_X0_isOnRing_24 hs ⟨fun _ => ⟨by omega, A⟩, fun z => absurd (by rw [h2]; omega) z⟩⟩
    | succ k ih =>
      intro i hi T hT hd
      have hin : i < n := by omega
      have hei := hc.2.2 i hin
      have nge : ¬ f a 2 ≤ (i : Int) := by rw [h2]; omega
      by_cases hon : ¬ i = c ∧ tp.testBit i = false
      · have g1 := gr_lt hD hei.1
        have g2 := gr_lt hD hei.2
        have E1 := x_groupOf (σ := σ) (f := f) (g := g) hs h3 hD hei.1
        have E2 := x_groupOf (σ := σ) (f := f) (g := g) hs h3 hD hei.2
        rw [← (he i hin).1] at E1
        rw [← (he i hin).2] at E2
        have eb : iOr (gr D (e i) : Int) (gr D (o i) : Int) = ((gr D (e i) ||| gr D (o i) : Nat) : Int) := iOr_nat (by omega) (by omega)
        have bl : gr D (e i) ||| gr D (o i) < 256 := Nat.or_lt_two_pow (n := 8) g1 g2
        have nhb : ¬ hB (tp : Int) (i : Int) := fun z => by
          rw [hB_nat, hon.2] at z
          exact absurd z (by decide)
        by_cases hit : iAnd (T : Int) ((gr D (e i) ||| gr D (o i) : Nat) : Int) = 0
        · have no := (and_0 hT.1 bl).mp hit
          have ne : ¬ T.testBit (e i) = true := fun z => no _ hei.1 ⟨z, by rw [Nat.testBit_or, gr_self]; rfl⟩
          have nof : ¬ T.testBit (o i) = true := fun z => no _ hei.2 ⟨z, by rw [Nat.testBit_or, gr_self, Bool.or_true]⟩
          obtain ⟨T', a1, a2, a3, a4, a5⟩ := ih (i + 1) (by omega) T hT hd
          refine ⟨T', a1, a2, a3, fun z j h1 h2 h3 => ?_, fun p1 p2 r A => bk_X0_isOnRing_24 hs ⟨fun z => absurd z nge, fun _ => ⟨fun z => absurd (by omega) hon.1, fun _ => ⟨⟨by omega, by omega⟩, fun z => absurd z nhb, fun _ => ⟨by omega, f, g, _, E1, by omega, f, g, _, E2, fun _ => ⟨by omega, ?_⟩, fun z => absurd (by rw [eb]; exact hit) z⟩⟩⟩⟩⟩
          · by_cases y : j = i
            · subst y
              exact ⟨fun x => absurd x ne, fun x => absurd x nof⟩
            · exact a4 z j (by omega) h2 h3
          · rw [iOr_0 (by have := hT.1; omega)]
            exact a5 p1 p2 r A
        · have T1 : Okr n e o D (fun i => ¬ i = c ∧ tp.testBit i = false) (e c) (T ||| (gr D (e i) ||| gr D (o i))) := by
            refine ⟨Nat.or_lt_two_pow (n := 8) hT.1 bl, by rw [Nat.testBit_or, hT.2.1]; rfl, fun R hR hRa => or_subs.mpr ⟨hT.2.2 R hR hRa, ?_⟩⟩
            have : ∃ x, x < 8 ∧ T.testBit x = true ∧ (gr D (e i) ||| gr D (o i)).testBit x = true := Classical.byContradiction fun z => hit ((and_0 hT.1 bl).mpr fun x hx y => z ⟨x, hx, y.1, y.2⟩)
            obtain ⟨x, hx, x1, x2⟩ := this
            have xR := hT.2.2 R hR hRa x hx x1
            rw [Nat.testBit_or, Bool.or_eq_true] at x2
            have both : R.testBit (e i) = true ∧ R.testBit (o i) = true := by
              rcases x2 with z | z
              · have q := gr_in hR.1 hei.1 hx z xR
                exact ⟨q, (hR.2 i hin hon).mp q⟩
              · have q := gr_in hR.1 hei.2 hx z xR
                exact ⟨(hR.2 i hin hon).mpr q, q⟩
            exact or_subs.mpr ⟨gr_sub hR.1 hei.1 both.1, gr_sub hR.1 hei.2 both.2⟩
          have d1 : Dcl D (T ||| (gr D (e i) ||| gr D (o i))) := or_dcl hd (or_dcl (gr_cl hei.1) (gr_cl hei.2))
          obtain ⟨T', a1, a2, a3, a4, a5⟩ := ih (i + 1) (by omega) _ T1 d1
          have sT := (or_subs.mp a3).1
          refine ⟨T', a1, a2, sT, fun z j h1 h2 h3 => ?_, fun p1 p2 r A => bk_X0_isOnRing_24 hs ⟨fun z => absurd z nge, fun _ => ⟨fun z => absurd (by omega) hon.1, fun _ => ⟨⟨by omega, by omega⟩, fun z => absurd z nhb, fun _ => ⟨by omega, f, g, _, E1, by omega, f, g, _, E2, fun z => absurd (by rw [eb] at z; exact z) hit, fun _ => ⟨by omega, ?_⟩⟩⟩⟩⟩⟩
          · subst z
            have e1 : T' = T' ||| (gr D (e i) ||| gr D (o i)) := Sub.eq hT.1 T1.1 (fun i hi z => by rw [Nat.testBit_or, z]; rfl) a3
            by_cases y : j = i
            · subst y
              have q := (or_subs.mp (or_subs.mp a3).2)
              exact ⟨fun _ => q.2 _ hei.2 gr_self, fun _ => q.1 _ hei.1 gr_self⟩
            · rw [← e1] at a4
              exact a4 rfl j (by omega) h2 h3
          · rw [eb, iOr_nat (by have := hT.1; omega) (by omega)]
            exact a5 p1 p2 r A
      · obtain ⟨T', a1, a2, a3, a4, a5⟩ := ih (i + 1) (by omega) T hT hd
        refine ⟨T', a1, a2, a3, fun z j h1 h2 h3 => a4 z j (Nat.lt_of_le_of_ne h1 fun y => hon (y ▸ h3)) h2 h3, fun p1 p2 r A => ?_⟩
        by_cases y : i = c
        · exact bk_X0_isOnRing_24 hs ⟨fun z => absurd z nge, fun _ => ⟨fun _ => ⟨by omega, a5 p1 p2 r A⟩, fun z => absurd (by omega) z⟩⟩
        · have hb : hB (tp : Int) (i : Int) := hB_nat.mpr (by
            cases x : tp.testBit i
            · exact absurd ⟨y, x⟩ hon
            · rfl)
          exact bk_X0_isOnRing_24 hs ⟨fun z => absurd z nge, fun _ => ⟨fun z => absurd (by omega) y, fun _ => ⟨⟨by omega, by omega⟩, fun _ => ⟨by omega, a5 p1 p2 r A⟩, fun z => absurd hb z⟩⟩⟩
  have rounds : ∀ k m : Nat, m + k = 8 → ∀ T : Nat, Okr n e o D (fun i => ¬ i = c ∧ tp.testBit i = false) (e c) T → Dcl D T → (Clo n e o D (fun i => ¬ i = c ∧ tp.testBit i = false) T ∨ m + 1 ≤ cb 8 T) → ∃ T' : Nat, Okr n e o D (fun i => ¬ i = c ∧ tp.testBit i = false) (e c) T' ∧ Clo n e o D (fun i => ¬ i = c ∧ tp.testBit i = false) T' ∧ A_X0_isOnRing_14 σ f g a (c : Int) (tp : Int) (T : Int) (m : Int) (il σ f g, [vI (bI (hB (T' : Int) (o c : Int)))]) := by
    intro k
    induction k with
    | zero =>
      intro m hm T hT hd hcl
      obtain rfl : m = 8 := by omega
      have := cb_le 8 T
      have oc := hc.2.2 c hcn
      have eo : f (a + 2) (c : Int).toNat = (o c : Int) := (he c hcn).2
      refine ⟨T, hT, hcl.elim id fun z => by omega, bk_X0_isOnRing_14 hs ⟨fun _ => ⟨⟨by omega, by have := hT.1; omega, by rw [eo]; omega⟩, ?_⟩, fun z => absurd (by decide) z⟩⟩
      rw [eo]
    | succ k ih =>
      intro m hm T hT hd hcl
      obtain ⟨T1, a1, a2, a3, a4, a5⟩ := sweep m n 0 (by omega) T hT hd
      obtain ⟨T', b1, b2, A⟩ := ih (m + 1) (by omega) T1 a1 a2 (by
        by_cases z : T1 = T
        · left
          rw [z]
          exact ⟨hd, fun j hj hon => a4 z j (by omega) hj hon⟩
        · have up := cb_sub hT.1 a1.1 a3 (fun y => z y.symm)
          rcases hcl with y | y
          · exact absurd (Sub.eq a1.1 hT.1 (a1.2.2 T y hT.2.1) a3) z
          · right
            omega)
      exact ⟨T', b1, b2, bk_X0_isOnRing_14 hs ⟨fun z => absurd z (by omega), fun _ => a5 (by omega) (by omega) _ A⟩⟩
  have ec := hc.2.2 c hcn
  have E0 := x_groupOf (σ := σ) (f := f) (g := g) hs h3 hD ec.1
  rw [← (he c hcn).1] at E0
  have ok0 : Okr n e o D (fun i => ¬ i = c ∧ tp.testBit i = false) (e c) (gr D (e c)) := ⟨gr_lt hD ec.1, gr_self, fun R hR h => gr_sub hR.1 ec.1 h⟩
  obtain ⟨T, t1, t2, A⟩ := rounds 8 0 rfl (gr D (e c)) ok0 (gr_cl ec.1) (Or.inr (by
    have := fb_ct_pos.mpr ⟨e c, ec.1, gr_self (D := D) (b := e c)⟩
    show 1 ≤ fb_ct (fun j => (gr D (e c)).testBit j) 8
    exact this))
  exact ⟨T, t1, t2, bk_X0_isOnRing_0 hs ⟨by omega, f, g, _, E0, A⟩⟩
