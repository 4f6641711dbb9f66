/-! packed: the class -/
def A_X7_packetsOf_4 (σ : St) (f : FI) (g : FL) (x0 : Int) (x1 : BitVec 64) (x3 : Int) (r : St × List Vl) : Prop := Gx mt 2 cd_X7_packetsOf (il σ f g) (cd_X7_packetsOf 4) [some (vI x0), some (vL x1), none, some (vI x3)] [] r
theorem bk_X7_packetsOf_0 {σ : St} {f : FI} {g : FL} {x0 : Int} {r : St × List Vl}  (h : (A_X7_packetsOf_4 σ f g x0 (0#64) 0 r)) : Ex mt 2 104 (il σ f g) [vI x0] r := Ex.mk mt_104 (show Gx mt 2 cd_X7_packetsOf (il σ f g) b_X7_packetsOf_0 [some (vI x0), none, none, none] [] r from (go_pushL rfl (go_stoL rfl rfl (go_pushI rfl (go_stoI rfl rfl (go_fall (h)))))))
theorem bk_X7_packetsOf_4 {σ : St} {f : FI} {g : FL} {x0 : Int} {x1 : BitVec 64} {x3 : Int} {r : St × List Vl}  (h : ((64 ≤ x3 → (r = ((il σ f g), [vL x1]))) ∧ (¬ 64 ≤ x3 → (Stat σ f ∧ (0 ≤ x0 ∧ x0 ≤ 124) ∧ (0 ≤ x3 ∧ x3 < 64)) ∧ ((¬ ((matP x0 x3)) → ((-2147483648 ≤ (x3 + 1) ∧ (x3 + 1) ≤ 2147483647)) ∧ (A_X7_packetsOf_4 σ f g x0 (x1 ||| (0#64)) (x3 + 1) r)) ∧ (((matP x0 x3)) → ((0 ≤ x3 ∧ x3 < 64)) ∧ ((-2147483648 ≤ (x3 + 1) ∧ (x3 + 1) ≤ 2147483647)) ∧ (A_X7_packetsOf_4 σ f g x0 (x1 ||| ((1#64) <<< (x3).toNat)) (x3 + 1) r)))))) : A_X7_packetsOf_4 σ f g x0 x1 x3 r := (show Gx mt 2 cd_X7_packetsOf (il σ f g) b_X7_packetsOf_4 [some (vI x0), some (vL x1), none, some (vI x3)] [] r from (go_loadI rfl (go_pushI rfl (gq_icmp_ge (fun e3 => have h1 := h.1 e3; (go_loadL rfl (h1 ▸ gq_retL))) (fun e3 => have h2 := h.2 e3; (go_loadL rfl (go_loadI rfl (go_loadI rfl (go_callS rfl rfl rfl (pu_isMatch h2.1.1 h2.1.2.1 h2.1.2.2) (go_ifb_eq (fun e6 => have h4 := h2.2.1 e6; (go_pushL rfl (go_fall (go_lor (go_stoL rfl rfl (go_iinc rfl h4.1 rfl (go_goto (h4.2)))))))) (fun e6 => have h5 := h2.2.2 e6; (go_pushL rfl (go_loadI rfl (go_lshl (lShl_v h5.1) (go_goto (go_lor (go_stoL rfl rfl (go_iinc rfl h5.2.1 rfl (go_goto (h5.2.2))))))))))))))))))))
def A_X7_alikeBy_6 (σ : St) (f : FI) (g : FL) (a : Nat) (x1 : Int) (x2 : BitVec 64) (x4 : BitVec 64) (x6 : Int) (r : St × List Vl) : Prop := Gx mt 2 cd_X7_alikeBy (il σ f g) (cd_X7_alikeBy 6) [some (vR 7 (some a)), some (vI x1), some (vL x2), none, some (vL x4), none, some (vI x6)] [] r
theorem bk_X7_alikeBy_0 {σ : St} {f : FI} {g : FL} {a : Nat} {x1 : Int} {x2 : BitVec 64} {r : St × List Vl} (hs : Sh7 σ a) (h : (A_X7_alikeBy_6 σ f g a x1 x2 (0#64) 0 r)) : Ex mt 2 105 (il σ f g) [vR 7 (some a), vI x1, vL x2] r := Ex.mk mt_105 (show Gx mt 2 cd_X7_alikeBy (il σ f g) b_X7_alikeBy_0 [some (vR 7 (some a)), some (vI x1), some (vL x2), none, none, none, none] [] r from (go_pushL rfl (go_stoL rfl rfl (go_pushI rfl (go_stoI rfl rfl (go_fall (h)))))))
theorem bk_X7_alikeBy_6 {σ : St} {f : FI} {g : FL} {a : Nat} {x1 : Int} {x2 : BitVec 64} {x4 : BitVec 64} {x6 : Int} {r : St × List Vl} (hs : Sh7 σ a) (h : ((64 ≤ x6 → (r = ((il σ f g), [vL x4]))) ∧ (¬ 64 ≤ x6 → ((0 ≤ x6 ∧ x6 < 64)) ∧ ((((x2 >>> (x6).toNat) &&& (1#64)) = (0#64) → ((-2147483648 ≤ (x6 + 1) ∧ (x6 + 1) ≤ 2147483647)) ∧ (A_X7_alikeBy_6 σ f g a x1 x2 x4 (x6 + 1) r)) ∧ (¬ ((x2 >>> (x6).toNat) &&& (1#64)) = (0#64) → (∃ (f7 : FI) (g8 : FL) (v10 : Int), Ex mt 1 102 (il σ f g) [vR 7 (some a), vI x1, vI x6] ((il σ f7 g8), [vI v10]) ∧ ((0 ≤ x6 ∧ x6 < 64)) ∧ ((¬ v10 = (f7 (a + 5) ((x6).toNat)) → ((-2147483648 ≤ (x6 + 1) ∧ (x6 + 1) ≤ 2147483647)) ∧ (A_X7_alikeBy_6 σ f7 g8 a x1 x2 x4 (x6 + 1) r)) ∧ (v10 = (f7 (a + 5) ((x6).toNat)) → ((0 ≤ x6 ∧ x6 < 64)) ∧ ((-2147483648 ≤ (x6 + 1) ∧ (x6 + 1) ≤ 2147483647)) ∧ (A_X7_alikeBy_6 σ f7 g8 a x1 x2 (x4 ||| ((1#64) <<< (x6).toNat)) (x6 + 1) r))))))))) : A_X7_alikeBy_6 σ f g a x1 x2 x4 x6 r := (show Gx mt 2 cd_X7_alikeBy (il σ f g) b_X7_alikeBy_6 [some (vR 7 (some a)), some (vI x1), some (vL x2), none, some (vL x4), none, some (vI x6)] [] r from (go_loadI rfl (go_pushI rfl (gq_icmp_ge (fun e3 => have h1 := h.1 e3; (go_loadL rfl (h1 ▸ gq_retL))) (fun e3 => have h2 := h.2 e3; (go_loadL rfl (go_loadI rfl (go_lushr (lUshr_v h2.1) (go_pushL rfl (go_land (go_pushL rfl (go_lcmp rfl (go_lif_eq (fun e6 => have h4 := h2.2.1 e6; (go_iinc rfl h4.1 rfl (go_goto (h4.2)))) (fun e6 => have h5 := h2.2.2 e6; (go_loadA rfl (go_loadI rfl (go_loadI rfl (Exists.elim h5 fun f7 w14 => Exists.elim w14 fun g8 w15 => Exists.elim w15 fun v10 h9 => (go_callV rfl rfl rfl h9.1 (go_loadA rfl (gi_getR (Sh7.r5 hs) (go_loadI rfl (gi_iald (inl_ (Sh7.l5 hs) h9.2.1) (gq_icmp_ne (fun e13 => have h11 := h9.2.2.1 e13; (go_iinc rfl h11.1 rfl (go_goto (h11.2)))) (fun e13 => have h12 := h9.2.2.2 e13; (go_loadL rfl (go_pushL rfl (go_loadI rfl (go_lshl (lShl_v h12.1) (go_lor (go_stoL rfl rfl (go_fall (go_iinc rfl h12.2.1 rfl (go_goto (h12.2.2)))))))))))))))))))))))))))))))))))
def A_X7_dealAlike_8 (σ : St) (f : FI) (g : FL) (a : Nat) (x1 : Int) (x2 : Nat) (x3 : Nat) (x4 : BitVec 64) (x6 : BitVec 64) (x8 : Int) (r : St × List Vl) : Prop := Gx mt 1 cd_X7_dealAlike (il σ f g) (cd_X7_dealAlike 8) [some (vR 7 (some a)), some (vI x1), some (vR 15 (some x2)), some (vR 15 (some x3)), some (vL x4), none, some (vL x6), none, some (vI x8)] [] r
theorem bk_X7_dealAlike_0 {σ : St} {f : FI} {g : FL} {a : Nat} {x1 : Int} {x2 : Nat} {x3 : Nat} {x4 : BitVec 64} {r : St × List Vl} (hs : Sh7 σ a) (h : (A_X7_dealAlike_8 σ f g a x1 x2 x3 x4 (18446744073709551615#64) 0 r)) : Ex mt 1 106 (il σ f g) [vR 7 (some a), vI x1, vR 15 (some x2), vR 15 (some x3), vL x4] r := Ex.mk mt_106 (show Gx mt 1 cd_X7_dealAlike (il σ f g) b_X7_dealAlike_0 [some (vR 7 (some a)), some (vI x1), some (vR 15 (some x2)), some (vR 15 (some x3)), some (vL x4), none, none, none, none] [] r from (go_pushL rfl (go_stoL rfl rfl (go_pushI rfl (go_stoI rfl rfl (go_fall (h)))))))
theorem bk_X7_dealAlike_8 {σ : St} {f : FI} {g : FL} {a : Nat} {x1 : Int} {x2 : Nat} {x3 : Nat} {x4 : BitVec 64} {x6 : BitVec 64} {x8 : Int} {r : St × List Vl} (hs : Sh7 σ a) (h : (((f a 3) ≤ x8 → ((¬ (x6 &&& (x4 ^^^ (18446744073709551615#64))) = (0#64) → (r = ((il σ f g), [vI 0]))) ∧ ((x6 &&& (x4 ^^^ (18446744073709551615#64))) = (0#64) → (r = ((il σ f g), [vI 1]))))) ∧ (¬ (f a 3) ≤ x8 → ((-2147483648 ≤ x1 ∧ x1 ≤ 2147483647) ∧ (0 ≤ x8 ∧ x8 < 32)) ∧ ((¬ ((hB x1 x8)) → ((-2147483648 ≤ (x8 + 1) ∧ (x8 + 1) ≤ 2147483647)) ∧ (A_X7_dealAlike_8 σ f g a x1 x2 x3 x4 x6 (x8 + 1) r)) ∧ (((hB x1 x8)) → ((0 ≤ x8 ∧ x8 < (ln σ x2 : Int)) ∧ (0 ≤ x8 ∧ x8 < (ln σ x3 : Int))) ∧ ((((x6 &&& (g x2 ((x8).toNat))) &&& ((g x3 ((x8).toNat)) ^^^ (18446744073709551615#64))) = (0#64) → ((0 ≤ x8 ∧ x8 < (ln σ x2 : Int))) ∧ ((-2147483648 ≤ (x8 + 1) ∧ (x8 + 1) ≤ 2147483647)) ∧ (A_X7_dealAlike_8 σ f g a x1 x2 x3 x4 (x6 &&& ((g x2 ((x8).toNat)) ^^^ (18446744073709551615#64))) (x8 + 1) r)) ∧ (¬ ((x6 &&& (g x2 ((x8).toNat))) &&& ((g x3 ((x8).toNat)) ^^^ (18446744073709551615#64))) = (0#64) → (r = ((il σ f g), [vI 0]))))))))) : A_X7_dealAlike_8 σ f g a x1 x2 x3 x4 x6 x8 r := (show Gx mt 1 cd_X7_dealAlike (il σ f g) b_X7_dealAlike_8 [some (vR 7 (some a)), some (vI x1), some (vR 15 (some x2)), some (vR 15 (some x3)), some (vL x4), none, some (vL x6), none, some (vI x8)] [] r from (go_loadI rfl (go_loadA rfl (gi_getI (gq_icmp_ge (fun e3 => have h1 := h.1 e3; (go_loadL rfl (go_loadL rfl (go_pushL rfl (go_lxor (go_land (go_pushL rfl (go_lcmp rfl (go_lif_ne (fun e6 => have h4 := h1.1 e6; (go_pushI rfl (go_fall (h4 ▸ (gq_retZ ⟨by decide, by decide⟩))))) (fun e6 => have h5 := h1.2 e6; (go_pushI rfl (go_goto (h5 ▸ (gq_retZ ⟨by decide, by decide⟩)))))))))))))) (fun e3 => have h2 := h.2 e3; (go_loadI rfl (go_loadI rfl (go_callS rfl rfl rfl (pu_hasBit h2.1.1 h2.1.2) (go_ifb_eq (fun e9 => have h7 := h2.2.1 e9; (go_iinc rfl h7.1 rfl (go_goto (h7.2)))) (fun e9 => have h8 := h2.2.2 e9; (go_loadL rfl (go_loadA rfl (go_loadI rfl (gi_lald h8.1.1 (go_land (go_loadA rfl (go_loadI rfl (gi_lald h8.1.2 (go_pushL rfl (go_lxor (go_land (go_pushL rfl (go_lcmp rfl (go_lif_eq (fun e12 => have h10 := h8.2.1 e12; (go_loadL rfl (go_loadA rfl (go_loadI rfl (gi_lald h10.1 (go_pushL rfl (go_lxor (go_land (go_stoL rfl rfl (go_fall (go_iinc rfl h10.2.1 rfl (go_goto (h10.2.2))))))))))))) (fun e12 => have h11 := h8.2.2 e12; (go_pushI rfl (h11 ▸ (gq_retZ ⟨by decide, by decide⟩)))))))))))))))))))))))))))))
def A_X7_fewestRows_15 (σ : St) (f : FI) (g : FL) (a : Nat) (x1 : Nat) (x2 : Nat) (x3 : BitVec 64) (x5 : Int) (r : St × List Vl) : Prop := ∀ (y6 : Option Vl) (y7 : Option Vl) (y8 : Option Vl), Gx mt 3 cd_X7_fewestRows (il σ f g) (cd_X7_fewestRows 15) [some (vR 7 (some a)), some (vR 15 (some x1)), some (vR 15 (some x2)), some (vL x3), none, some (vI x5), y6, y7, y8] [] r
def A_X7_fewestRows_54 (σ : St) (f : FI) (g : FL) (a : Nat) (x1 : Nat) (x2 : Nat) (x3 : BitVec 64) (x5 : Int) (r : St × List Vl) : Prop := ∀ (y6 : Option Vl) (y7 : Option Vl) (y8 : Option Vl), Gx mt 3 cd_X7_fewestRows (il σ f g) (cd_X7_fewestRows 54) [some (vR 7 (some a)), some (vR 15 (some x1)), some (vR 15 (some x2)), some (vL x3), none, some (vI x5), y6, y7, y8] [] r
def A_X7_fewestRows_116 (σ : St) (f : FI) (g : FL) (a : Nat) (x1 : Nat) (x2 : Nat) (x3 : BitVec 64) (x5 : Int) (x6 : Int) (x7 : Int) (r : St × List Vl) : Prop := ∀ (y8 : Option Vl), Gx mt 3 cd_X7_fewestRows (il σ f g) (cd_X7_fewestRows 116) [some (vR 7 (some a)), some (vR 15 (some x1)), some (vR 15 (some x2)), some (vL x3), none, some (vI x5), some (vI x6), some (vI x7), y8] [] r
theorem bk_X7_fewestRows_0 {σ : St} {f : FI} {g : FL} {a : Nat} {r : St × List Vl} (hs : Sh7 σ a) (h : (A_X7_fewestRows_15 (mk (mk σ 15 12 12) 15 12 12) (up1 (up1 f (nx σ) (fun _ => 0)) (nx (mk σ 15 12 12)) (fun _ => 0)) (up1 (up1 g (nx σ) (fun _ => 0)) (nx (mk σ 15 12 12)) (fun _ => 0)) a (nx σ) (nx (mk σ 15 12 12)) (0#64) 0 r)) : Ex mt 3 103 (il σ f g) [vR 7 (some a)] r := Ex.mk mt_103 (show Gx mt 3 cd_X7_fewestRows (il σ f g) b_X7_fewestRows_0 [some (vR 7 (some a)), none, none, none, none, none, none, none, none] [] r from (go_pushI rfl (gi_newa ⟨by decide, by decide⟩ (go_stoA rfl rfl (go_pushI rfl (gi_newa ⟨by decide, by decide⟩ (go_stoA rfl rfl (go_pushL rfl (go_stoL rfl rfl (go_pushI rfl (go_stoI rfl rfl (go_fall (h _ _ _)))))))))))))
theorem bk_X7_fewestRows_15 {σ : St} {f : FI} {g : FL} {a : Nat} {x1 : Nat} {x2 : Nat} {x3 : BitVec 64} {x5 : Int} {r : St × List Vl} (hs : Sh7 σ a) (h : ((64 ≤ x5 → (A_X7_fewestRows_54 σ f g a x1 x2 x3 0 r)) ∧ (¬ 64 ≤ x5 → ((0 ≤ x5 ∧ x5 < 64)) ∧ ((¬ (f (a + 5) ((x5).toNat)) = (-2) → ((-2147483648 ≤ (x5 + 1) ∧ (x5 + 1) ≤ 2147483647)) ∧ (A_X7_fewestRows_15 σ f g a x1 x2 (x3 ||| (0#64)) (x5 + 1) r)) ∧ ((f (a + 5) ((x5).toNat)) = (-2) → ((0 ≤ x5 ∧ x5 < 64)) ∧ ((-2147483648 ≤ (x5 + 1) ∧ (x5 + 1) ≤ 2147483647)) ∧ (A_X7_fewestRows_15 σ f g a x1 x2 (x3 ||| ((1#64) <<< (x5).toNat)) (x5 + 1) r)))))) : A_X7_fewestRows_15 σ f g a x1 x2 x3 x5 r := fun y6 y7 y8 => (show Gx mt 3 cd_X7_fewestRows (il σ f g) b_X7_fewestRows_15 [some (vR 7 (some a)), some (vR 15 (some x1)), some (vR 15 (some x2)), some (vL x3), none, some (vI x5), y6, y7, y8] [] r from (go_loadI rfl (go_pushI rfl (gq_icmp_ge (fun e3 => have h1 := h.1 e3; (go_pushI rfl (go_stoI rfl rfl (go_fall (h1 _ _ _))))) (fun e3 => have h2 := h.2 e3; (go_loadL rfl (go_loadA rfl (gi_getR (Sh7.r5 hs) (go_loadI rfl (gi_iald (inl_ (Sh7.l5 hs) h2.1) (go_pushI rfl (gq_icmp_ne (fun e6 => have h4 := h2.2.1 e6; (go_pushL rfl (go_fall (go_lor (go_stoL rfl rfl (go_iinc rfl h4.1 rfl (go_goto (h4.2 _ _ _)))))))) (fun e6 => have h5 := h2.2.2 e6; (go_pushL rfl (go_loadI rfl (go_lshl (lShl_v h5.1) (go_goto (go_lor (go_stoL rfl rfl (go_iinc rfl h5.2.1 rfl (go_goto (h5.2.2 _ _ _))))))))))))))))))))))
theorem bk_X7_fewestRows_54 {σ : St} {f : FI} {g : FL} {a : Nat} {x1 : Nat} {x2 : Nat} {x3 : BitVec 64} {x5 : Int} {r : St × List Vl} (hs : Sh7 σ a) (h : (((f a 3) ≤ x5 → ((0 ≤ (f a 3) ∧ (f a 3) < 31) ∧ (-2147483648 ≤ ((p2 (f a 3)) - 1) ∧ ((p2 (f a 3)) - 1) ≤ 2147483647)) ∧ (A_X7_fewestRows_116 σ f g a x1 x2 x3 ((p2 (f a 3)) - 1) (f a 3) 0 r)) ∧ (¬ (f a 3) ≤ x5 → ((0 ≤ x5 ∧ x5 < 12)) ∧ (∃ (f4 : FI) (g5 : FL) (v7 : BitVec 64), Ex mt 2 104 (il σ f g) [vI (f (a + 1) ((x5).toNat))] ((il σ f4 g5), [vL v7]) ∧ ((0 ≤ x5 ∧ x5 < (ln σ x1 : Int))) ∧ (∃ (f8 : FI) (g9 : FL) (v11 : BitVec 64), Ex mt 2 105 (il σ f4 (up2 g5 x1 ((x5).toNat) v7)) [vR 7 (some a), vI x5, vL v7] ((il σ f8 g9), [vL v11]) ∧ ((0 ≤ x5 ∧ x5 < (ln σ x2 : Int)) ∧ (-2147483648 ≤ (x5 + 1) ∧ (x5 + 1) ≤ 2147483647)) ∧ (A_X7_fewestRows_54 σ f8 (up2 g9 x2 ((x5).toNat) v11) a x1 x2 x3 (x5 + 1) r)))))) : A_X7_fewestRows_54 σ f g a x1 x2 x3 x5 r := fun y6 y7 y8 => (show Gx mt 3 cd_X7_fewestRows (il σ f g) b_X7_fewestRows_54 [some (vR 7 (some a)), some (vR 15 (some x1)), some (vR 15 (some x2)), some (vL x3), none, some (vI x5), y6, y7, y8] [] r from (go_loadI rfl (go_loadA rfl (gi_getI (gq_icmp_ge (fun e3 => have h1 := h.1 e3; (go_pushI rfl (go_loadA rfl (gi_getI (go_ishl (iShl_1 h1.1.1) (go_pushI rfl (go_isub h1.1.2 (go_stoI rfl rfl (go_loadA rfl (gi_getI (go_stoI rfl rfl (go_pushI rfl (go_stoI rfl rfl (go_fall (h1.2 _))))))))))))))) (fun e3 => have h2 := h.2 e3; (go_loadA rfl (go_loadI rfl (go_loadA rfl (gi_getR (Sh7.r0 hs) (go_loadI rfl (gi_iald (inl_ (Sh7.l0 hs) h2.1) (Exists.elim h2.2 fun f4 w14 => Exists.elim w14 fun g5 w15 => Exists.elim w15 fun v7 h6 => (go_callS rfl rfl rfl h6.1 (gi_last h6.2.1 (go_loadA rfl (go_loadI rfl (go_loadA rfl (go_loadI rfl (go_loadA rfl (go_loadI rfl (gi_lalde h6.2.1 u2_s (Exists.elim h6.2.2 fun f8 w12 => Exists.elim w12 fun g9 w13 => Exists.elim w13 fun v11 h10 => (go_callV rfl rfl rfl h10.1 (gi_last h10.2.1.1 (go_iinc rfl h10.2.1.2 rfl (go_goto (h10.2.2 _ _ _))))))))))))))))))))))))))))
theorem bk_X7_fewestRows_116 {σ : St} {f : FI} {g : FL} {a : Nat} {x1 : Nat} {x2 : Nat} {x3 : BitVec 64} {x5 : Int} {x6 : Int} {x7 : Int} {r : St × List Vl} (hs : Sh7 σ a) (h : ((0 ≤ (f a 3) ∧ (f a 3) < 31)) ∧ (((p2 (f a 3)) ≤ x7 → (r = ((il σ f g), [vI x5]))) ∧ (¬ (p2 (f a 3)) ≤ x7 → ((0 ≤ x7 ∧ x7 < 4096)) ∧ ((x6 ≤ (pcI x7) → ((-2147483648 ≤ (x7 + 1) ∧ (x7 + 1) ≤ 2147483647)) ∧ (A_X7_fewestRows_116 σ f g a x1 x2 x3 x5 x6 (x7 + 1) r)) ∧ (¬ x6 ≤ (pcI x7) → (∃ (f7 : FI) (g8 : FL) (v10 : Int), Ex mt 1 106 (il σ f g) [vR 7 (some a), vI x7, vR 15 (some x1), vR 15 (some x2), vL x3] ((il σ f7 g8), [vI v10]) ∧ ((v10 = 0 → ((-2147483648 ≤ (x7 + 1) ∧ (x7 + 1) ≤ 2147483647)) ∧ (A_X7_fewestRows_116 σ f7 g8 a x1 x2 x3 x5 x6 (x7 + 1) r)) ∧ (¬ v10 = 0 → ((-2147483648 ≤ (x7 + 1) ∧ (x7 + 1) ≤ 2147483647)) ∧ (A_X7_fewestRows_116 σ f7 g8 a x1 x2 x3 x7 (pcI x7) (x7 + 1) r))))))))) : A_X7_fewestRows_116 σ f g a x1 x2 x3 x5 x6 x7 r := fun y8 => (show Gx mt 3 cd_X7_fewestRows (il σ f g) b_X7_fewestRows_116 [some (vR 7 (some a)), some (vR 15 (some x1)), some (vR 15 (some x2)), some (vL x3), none, some (vI x5), some (vI x6), some (vI x7), y8] [] r from (go_loadI rfl (go_pushI rfl (go_loadA rfl (gi_getI (go_ishl (iShl_1 h.1) (gq_icmp_ge (fun e3 => have h1 := h.2.1 e3; (go_loadI rfl (h1 ▸ gq_retI))) (fun e3 => have h2 := h.2.2 e3; (go_loadI rfl (go_callS rfl rfl rfl (pu_bitCountI h2.1) (go_stoI rfl rfl (go_loadI rfl (go_loadI rfl (gq_icmp_ge (fun e6 => have h4 := h2.2.1 e6; (go_iinc rfl h4.1 rfl (go_goto (h4.2 _)))) (fun e6 => have h5 := h2.2.2 e6; (go_loadA rfl (go_loadI rfl (go_loadA rfl (go_loadA rfl (go_loadL rfl (Exists.elim h5 fun f7 w14 => Exists.elim w14 fun g8 w15 => Exists.elim w15 fun v10 h9 => (go_callV rfl rfl rfl h9.1 (gq_if_eq (fun e13 => have h11 := h9.2.1 e13; (go_iinc rfl h11.1 rfl (go_goto (h11.2 _)))) (fun e13 => have h12 := h9.2.2 e13; (go_loadI rfl (go_stoI rfl rfl (go_loadI rfl (go_stoI rfl rfl (go_fall (go_iinc rfl h12.1 rfl (go_goto (h12.2 _))))))))))))))))))))))))))))))))
theorem bk_X11_packed_0 {σ : St} {f : FI} {g : FL} {a : Nat} {x1 : Int} {x2 : Int} {r : St × List Vl} (hs : Sh11 σ a) (h : ((∃ (f1 : FI) (g2 : FL), Ex mt 2 32 (il σ f g) [vR 3 (some (a + 43)), vI x1, vI x2] ((il σ f1 g2), [vR 7 none]) ∧ (r = ((il σ f1 g2), [vI (-1)]))) ∨ (∃ (f1 : FI) (g2 : FL) (q4 : Nat), Ex mt 2 32 (il σ f g) [vR 3 (some (a + 43)), vI x1, vI x2] ((il σ f1 g2), [vR 7 (some q4)]) ∧ (∃ (σ8 : St) (f5 : FI) (g6 : FL) (v9 : Int), Ex mt 3 103 (il σ f1 g2) [vR 7 (some q4)] ((il σ8 f5 g6), [vI v9]) ∧ (r = ((il σ8 f5 g6), [vI v9])))))) : Ex mt 4 165 (il σ f g) [vR 11 (some a), vI x1, vI x2] r := Ex.mk mt_165 (show Gx mt 4 cd_X11_packed (il σ f g) b_X11_packed_0 [some (vR 11 (some a)), some (vI x1), some (vI x2), none] [] r from (go_loadA rfl (gi_getR (Sh11.r9 hs) (go_loadI rfl (go_loadI rfl (Or.elim h (fun h13q => (Exists.elim h13q fun f1 w14 => Exists.elim w14 fun g2 h13 => (go_callV rfl rfl rfl h13.1 (go_stoA rfl rfl (go_loadA rfl (go_nnullN (go_pushI rfl (go_goto (h13.2 ▸ gq_retI))))))))) (fun h3q => (Exists.elim h3q fun f1 w15 => Exists.elim w15 fun g2 w16 => Exists.elim w16 fun q4 h3 => (go_callV rfl rfl rfl h3.1 (go_stoA rfl rfl (go_loadA rfl (go_nnullS (go_loadA rfl (Exists.elim h3.2 fun σ8 w10 => Exists.elim w10 fun f5 w11 => Exists.elim w11 fun g6 w12 => Exists.elim w12 fun v9 h7 => (go_callV rfl rfl rfl h7.1 (go_fall (h7.2 ▸ gq_retI)))))))))))))))))
/-- the skeleton has grown -/
def Ext (σ σ' : St) : Prop := nx σ ≤ nx σ' ∧ ∀ a, a < nx σ → ln σ' a = ln σ a ∧ tg σ' a = tg σ a ∧ ∀ k, gR σ' a k = gR σ a k
theorem Ext.rfl' {σ : St} : Ext σ σ := ⟨Nat.le_refl _, fun _ _ => ⟨rfl, rfl, fun _ => rfl⟩⟩
theorem Ext.trans {σ σ1 σ2 : St} (h : Ext σ σ1) (h2 : Ext σ1 σ2) : Ext σ σ2 := ⟨Nat.le_trans h.1 h2.1, fun a ha => by
  obtain ⟨a1, a2, a3⟩ := h.2 a ha
  obtain ⟨b1, b2, b3⟩ := h2.2 a (Nat.lt_of_lt_of_le ha h.1)
  exact ⟨b1.trans a1, b2.trans a2, fun k => (b3 k).trans (a3 k)⟩⟩
theorem mk_nx {σ : St} {t n s : Nat} : nx (mk σ t n s) = nx σ + 1 := rfl
theorem mk_sl {σ : St} {t n s : Nat} : sl (mk σ t n s) = sl σ + s := rfl
theorem mk_ln {σ : St} {t n s a : Nat} : ln (mk σ t n s) a = if a = nx σ then n else ln σ a := rfl
theorem mk_tg {σ : St} {t n s a : Nat} : tg (mk σ t n s) a = if a = nx σ then t else tg σ a := rfl
theorem mk_gR {σ : St} {t n s a k : Nat} (h : a ≠ nx σ) : gR (mk σ t n s) a k = gR σ a k := congrFun (up1_ne h) k
theorem Ext.mk (σ : St) (t n s : Nat) : Ext σ (mk σ t n s) := ⟨by rw [mk_nx]; omega, fun a ha => ⟨by rw [mk_ln, if_neg (by omega)], by rw [mk_tg, if_neg (by omega)], fun k => mk_gR (by omega)⟩⟩
theorem Ext.ks {σ σ' : St} {B : Nat} (h : Ext σ σ') (hB : B + 220 ≤ nx σ) (hs : Sh5 σ (B + 43)) : KS B σ σ' := by
  refine ⟨fun a ha => (h.2 a (by omega)).1, fun a k ha _ _ _ _ => (h.2 a (by omega)).2.2 k, ?_⟩
  rw [(h.2 (B + 144) (by omega)).2.2, (h.2 (B + 144) (by omega)).2.2]
  exact hs.sw
theorem Stat.ext {σ σ' : St} {f f' : FI} {B : Nat} (h : Stat σ f) (hl : Lo σ B) (e : Ext σ σ') (hB : B < nx σ) (ef : ∀ a, a < B → f' a = f a) : Stat σ' f' ∧ Lo σ' B := by
  have e0 := (e.2 0 (by omega)).2.2
  have s1 : stS σ' = stS σ := by unfold stS; rw [e0]
  have s2 : stG σ' = stG σ := by unfold stG; rw [e0]
  have s3 : ∀ a, stA σ' a = stA σ a := fun a => by unfold stA; rw [e0]
  refine ⟨?_, by unfold Lo at hl ⊢; rw [s1, s2]; exact hl⟩
  unfold Stat at h ⊢
  rw [s1, s2, s3, s3, (e.2 (stS σ) (Nat.lt_trans hl.1 hB)).1, (e.2 (stG σ) (Nat.lt_trans hl.2 hB)).1, ef _ hl.1, ef _ hl.2]
  exact h
/-- the first chosen row that matches -/
def frS (S : Nat) (mt : Nat → Int) (p : Int) : Nat → Int
  | 0 => -1
  | n + 1 => if frS S mt p n = -1 then (if S.testBit n = true ∧ matP (mt n) p then (n : Int) else -1) else frS S mt p n
theorem frS_spec (S : Nat) (mt : Nat → Int) (p : Int) : ∀ n, (frS S mt p n = -1 ∧ ∀ k, k < n → ¬ (S.testBit k = true ∧ matP (mt k) p)) ∨ ∃ k : Nat, frS S mt p n = k ∧ k < n ∧ (S.testBit k = true ∧ matP (mt k) p) ∧ ∀ j, j < k → ¬ (S.testBit j = true ∧ matP (mt j) p)
  | 0 => Or.inl ⟨rfl, fun k hk => absurd hk (Nat.not_lt_zero k)⟩
  | n + 1 => by
    unfold frS
    rcases frS_spec S mt p n with ⟨h1, h2⟩ | ⟨k, h1, h2, h3, h4⟩
    · rw [if_pos h1]
      by_cases z : S.testBit n = true ∧ matP (mt n) p
      · rw [if_pos z]
        exact Or.inr ⟨n, rfl, by omega, z, h2⟩
      · rw [if_neg z]
        refine Or.inl ⟨rfl, fun k hk => ?_⟩
        by_cases y : k = n
        · subst y; exact z
        · exact h2 k (by omega)
    · rw [if_neg (by omega)]
      exact Or.inr ⟨k, h1, by omega, h3, h4⟩
theorem frS_stay {S : Nat} {mt : Nat → Int} {p : Int} {n : Nat} (h : ¬ frS S mt p n = -1) : ∀ j, frS S mt p (n + j) = frS S mt p n
  | 0 => rfl
  | j + 1 => by
    have ih := frS_stay h j
    rw [show n + (j + 1) = (n + j) + 1 by omega]
    show (if frS S mt p (n + j) = -1 then _ else frS S mt p (n + j)) = _
    rw [if_neg (by rw [ih]; exact h), ih]
theorem frS_rg (S : Nat) (mt : Nat → Int) (p : Int) (n : Nat) : frS S mt p n = -1 ∨ (0 ≤ frS S mt p n ∧ frS S mt p n < n) := by
  rcases frS_spec S mt p n with ⟨h1, _⟩ | ⟨k, h1, h2, _⟩
  · exact Or.inl h1
  · exact Or.inr (by omega)
/-- the chosen rows deal with all packets as the table does -/
def Pk (f : FI) (a n S : Nat) : Prop := ∀ p : Nat, p < 64 → deF (f (a + 2)) (f (a + 3)) (p : Int) (frS S (f (a + 1)) (p : Int) n) = f (a + 5) p
theorem bv0 {x : BitVec 64} : x = 0#64 ↔ ∀ p, p < 64 → x.getLsbD p = false := by
  constructor
  · rintro rfl p _
    exact BitVec.getLsbD_zero
  · intro h
    exact BitVec.eq_of_getLsbD_eq fun j hj => by rw [h j hj, BitVec.getLsbD_zero]
theorem notb {x : BitVec 64} {p : Nat} (hp : p < 64) : (x ^^^ 18446744073709551615#64).getLsbD p = !x.getLsbD p := by
  rw [show (18446744073709551615#64) = BitVec.allOnes 64 from by decide, BitVec.xor_allOnes, BitVec.getLsbD_not, decide_eq_true hp, Bool.true_and]
theorem x_packetsOf {σ : St} {f : FI} {g : FL} {m : Int} (hS : Stat σ f) (hm : 0 ≤ m ∧ m ≤ 124) : ∃ X : BitVec 64, (∀ p : Nat, p < 64 → (X.getLsbD p = true ↔ matP m (p : Int))) ∧ Ex mt 2 104 (il σ f g) [vI m] (il σ f g, [vL X]) := by
  have loop : ∀ k i : Nat, i + k = 64 → ∀ X : BitVec 64, (∀ p : Nat, p < 64 → (X.getLsbD p = true ↔ p < i ∧ matP m (p : Int))) → ∃ Y : BitVec 64, (∀ p : Nat, p < 64 → (Y.getLsbD p = true ↔ matP m (p : Int))) ∧ A_X7_packetsOf_4 σ f g m X (i : Int) (il σ f g, [vL Y]) := by
    intro k
    induction k with
    | zero =>
      intro i hi X hX
      obtain rfl : i = 64 := by omega
      exact ⟨X, fun p hp => by rw [hX p hp]; exact ⟨fun z => z.2, fun z => ⟨hp, z⟩⟩, bk_X7_packetsOf_4 ⟨fun _ => rfl, fun z => absurd (by decide) z⟩⟩
    | succ k ih =>
      intro i hi X hX
      by_cases z : matP m (i : Int)
      · obtain ⟨Y, hY, A⟩ := ih (i + 1) (by omega) (X ||| (1#64 <<< i)) (fun p hp => by
          rw [orb (by omega), Bool.or_eq_true, decide_eq_true_iff, hX p hp]
          constructor
          · rintro (h | rfl)
            · exact ⟨by omega, h.2⟩
            · exact ⟨by omega, z⟩
          · intro h
            by_cases y : i = p
            · exact Or.inr y
            · exact Or.inl ⟨by omega, h.2⟩)
        exact ⟨Y, hY, bk_X7_packetsOf_4 ⟨fun y => absurd y (by omega), fun _ => ⟨⟨hS, hm, by omega⟩, fun y => absurd z y, fun _ => ⟨by omega, by omega, A⟩⟩⟩⟩
      · obtain ⟨Y, hY, A⟩ := ih (i + 1) (by omega) (X ||| 0#64) (fun p hp => by
          rw [BitVec.or_zero, hX p hp]
          constructor
          · exact fun h => ⟨by omega, h.2⟩
          · intro h
            refine ⟨?_, h.2⟩
            by_cases y : p = i
            · subst y; exact absurd h.2 z
            · omega)
        exact ⟨Y, hY, bk_X7_packetsOf_4 ⟨fun y => absurd y (by omega), fun _ => ⟨⟨hS, hm, by omega⟩, fun _ => ⟨by omega, A⟩, fun y => absurd y z⟩⟩⟩
  obtain ⟨Y, hY, A⟩ := loop 64 0 rfl (0#64) (fun p hp => by
    rw [BitVec.getLsbD_zero]
    exact ⟨fun z => absurd z (by decide), fun z => absurd z.1 (Nat.not_lt_zero p)⟩)
  exact ⟨Y, hY, bk_X7_packetsOf_0 A⟩
theorem x_alikeBy {σ : St} {f : FI} {g : FL} {a n i : Nat} {X : BitVec 64} (hs : Sh7 σ a) (hS : Stat σ f) (hT : TC f a n) (hi : i < n) : ∃ Y : BitVec 64, (∀ p : Nat, p < 64 → (Y.getLsbD p = true ↔ X.getLsbD p = true ∧ deF (f (a + 2)) (f (a + 3)) (p : Int) (i : Int) = f (a + 5) p)) ∧ Ex mt 2 105 (il σ f g) [vR 7 (some a), vI (i : Int), vL X] (il σ f g, [vL Y]) := by
  have n12 := hT.1.2
  have tr := hT.2.1 i hi
  have loop : ∀ k q : Nat, q + k = 64 → ∀ Z : BitVec 64, (∀ p : Nat, p < 64 → (Z.getLsbD p = true ↔ p < q ∧ X.getLsbD p = true ∧ deF (f (a + 2)) (f (a + 3)) (p : Int) (i : Int) = f (a + 5) p)) → ∃ Y : BitVec 64, (∀ p : Nat, p < 64 → (Y.getLsbD p = true ↔ X.getLsbD p = true ∧ deF (f (a + 2)) (f (a + 3)) (p : Int) (i : Int) = f (a + 5) p)) ∧ A_X7_alikeBy_6 σ f g a (i : Int) X Z (q : Int) (il σ f g, [vL Y]) := by
    intro k
    induction k with
    | zero =>
      intro q hq Z hZ
      obtain rfl : q = 64 := by omega
      exact ⟨Z, fun p hp => by rw [hZ p hp]; exact ⟨fun z => z.2, fun z => ⟨hp, z⟩⟩, bk_X7_alikeBy_6 hs ⟨fun _ => rfl, fun z => absurd (by decide) z⟩⟩
    | succ k ih =>
      intro q hq Z hZ
      have no : ¬ (X.getLsbD q = true ∧ deF (f (a + 2)) (f (a + 3)) (q : Int) (i : Int) = f (a + 5) q) → ∃ Y : BitVec 64, (∀ p : Nat, p < 64 → (Y.getLsbD p = true ↔ X.getLsbD p = true ∧ deF (f (a + 2)) (f (a + 3)) (p : Int) (i : Int) = f (a + 5) p)) ∧ A_X7_alikeBy_6 σ f g a (i : Int) X Z ((q : Int) + 1) (il σ f g, [vL Y]) := fun hn => ih (q + 1) (by omega) Z (fun p hp => by
        rw [hZ p hp]
        constructor
        · exact fun h => ⟨by omega, h.2⟩
        · intro h
          refine ⟨?_, h.2⟩
          by_cases y : p = q
          · subst y; exact absurd h.2 hn
          · omega)
      by_cases z : X.getLsbD q = true
      · have E := x_deedOf (σ := σ) (f := f) (g := g) (a := a) (r := (i : Int)) (p := (q : Int)) hs hS (by omega) (by omega) tr.2.1 tr.2.2
        have nz : ¬ ((X >>> ((q : Int)).toNat) &&& 1#64) = 0#64 := fun y => by
          rw [lB_sh1] at y
          rw [show ((q : Int)).toNat = q from rfl, z] at y
          exact absurd y (by decide)
        by_cases y : deF (f (a + 2)) (f (a + 3)) (q : Int) (i : Int) = f (a + 5) q
        · obtain ⟨Y, hY, A⟩ := ih (q + 1) (by omega) (Z ||| (1#64 <<< q)) (fun p hp => by
            rw [orb (by omega), Bool.or_eq_true, decide_eq_true_iff, hZ p hp]
            constructor
            · rintro (h | rfl)
              · exact ⟨by omega, h.2⟩
              · exact ⟨by omega, z, y⟩
            · intro h
              by_cases w : q = p
              · exact Or.inr w
              · exact Or.inl ⟨by omega, h.2⟩)
          exact ⟨Y, hY, bk_X7_alikeBy_6 hs ⟨fun w => absurd w (by omega), fun _ => ⟨by omega, fun w => absurd w nz, fun _ => ⟨f, g, _, E, by omega, fun w => absurd y w, fun _ => ⟨by omega, by omega, A⟩⟩⟩⟩⟩
        · obtain ⟨Y, hY, A⟩ := no (fun w => y w.2)
          exact ⟨Y, hY, bk_X7_alikeBy_6 hs ⟨fun w => absurd w (by omega), fun _ => ⟨by omega, fun w => absurd w nz, fun _ => ⟨f, g, _, E, by omega, fun _ => ⟨by omega, A⟩, fun w => absurd w y⟩⟩⟩⟩
      · obtain ⟨Y, hY, A⟩ := no (fun w => z w.1)
        have ez : ((X >>> ((q : Int)).toNat) &&& 1#64) = 0#64 := by
          rw [lB_sh1]
          simpa using z
        exact ⟨Y, hY, bk_X7_alikeBy_6 hs ⟨fun w => absurd w (by omega), fun _ => ⟨by omega, fun _ => ⟨by omega, A⟩, fun w => absurd ez w⟩⟩⟩
  obtain ⟨Y, hY, A⟩ := loop 64 0 rfl (0#64) (fun p hp => by
    rw [BitVec.getLsbD_zero]
    exact ⟨fun z => absurd z (by decide), fun z => absurd z.1 (Nat.not_lt_zero p)⟩)
  exact ⟨Y, hY, bk_X7_alikeBy_0 hs A⟩
theorem x_dealAlike {σ : St} {f : FI} {g : FL} {a n S u w : Nat} {D : BitVec 64} (hs : Sh7 σ a) (hT : TC f a n) (hS : S < 4096) (lu : ln σ u = 12) (lw : ln σ w = 12) (h1 : ∀ i, i < n → ∀ p : Nat, p < 64 → ((g u i).getLsbD p = true ↔ matP (f (a + 1) i) (p : Int))) (h2 : ∀ i, i < n → ∀ p : Nat, p < 64 → ((g w i).getLsbD p = true ↔ matP (f (a + 1) i) (p : Int) ∧ deF (f (a + 2)) (f (a + 3)) (p : Int) (i : Int) = f (a + 5) p)) (hD : ∀ p : Nat, p < 64 → (D.getLsbD p = true ↔ f (a + 5) p = -2)) : ∃ v : Int, (v = 0 ∨ v = 1) ∧ (v = 1 ↔ Pk f a n S) ∧ Ex mt 1 106 (il σ f g) [vR 7 (some a), vI (S : Int), vR 15 (some u), vR 15 (some w), vL D] (il σ f g, [vI v]) := by
  have n12 := hT.1.2
  have hn := hT.1.1
  have loop : ∀ k i : Nat, i + k = n → ∀ X : BitVec 64, (∀ p : Nat, p < 64 → (X.getLsbD p = true ↔ frS S (f (a + 1)) (p : Int) i = -1)) → (∀ p : Nat, p < 64 → ¬ frS S (f (a + 1)) (p : Int) i = -1 → deF (f (a + 2)) (f (a + 3)) (p : Int) (frS S (f (a + 1)) (p : Int) i) = f (a + 5) p) → ∃ v : Int, (v = 0 ∨ v = 1) ∧ (v = 1 ↔ Pk f a n S) ∧ A_X7_dealAlike_8 σ f g a (S : Int) u w D X (i : Int) (il σ f g, [vI v]) := by
    intro k
    induction k with
    | zero =>
      intro i hi X hX hO
      obtain rfl : i = n := by omega
      have e : (X &&& (D ^^^ 18446744073709551615#64)) = 0#64 ↔ Pk f a i S := by
        rw [bv0]
        constructor
        · intro h p hp
          by_cases z : frS S (f (a + 1)) (p : Int) i = -1
          · have := h p hp
            rw [BitVec.getLsbD_and, notb hp, (hX p hp).mpr z, Bool.true_and] at this
            rw [z, (hD p hp).mp (by simpa using this)]
            rfl
          · exact hO p hp z
        · intro h p hp
          rw [BitVec.getLsbD_and, notb hp]
          cases hx : X.getLsbD p
          · rfl
          · have z := (hX p hp).mp hx
            have := h p hp
            rw [z] at this
            rw [(hD p hp).mpr this.symm]
            rfl
      by_cases z : (X &&& (D ^^^ 18446744073709551615#64)) = 0#64
      · exact ⟨1, Or.inr rfl, ⟨fun _ => e.mp z, fun _ => rfl⟩, bk_X7_dealAlike_8 hs ⟨fun _ => ⟨fun y => absurd z y, fun _ => rfl⟩, fun y => absurd (by rw [hn]; omega) y⟩⟩
      · exact ⟨0, Or.inl rfl, ⟨fun y => absurd y (by decide), fun y => absurd (e.mpr y) z⟩, bk_X7_dealAlike_8 hs ⟨fun _ => ⟨fun _ => rfl, fun y => absurd y z⟩, fun y => absurd (by rw [hn]; omega) y⟩⟩
    | succ k ih =>
      intro i hi X hX hO
      have sx : ∀ p : Int, frS S (f (a + 1)) p (i + 1) = if frS S (f (a + 1)) p i = -1 then (if S.testBit i = true ∧ matP (f (a + 1) i) p then (i : Int) else -1) else frS S (f (a + 1)) p i := fun p => rfl
      by_cases hb : S.testBit i = true
      · have e : ((X &&& g u i) &&& (g w i ^^^ 18446744073709551615#64)) = 0#64 ↔ ∀ p : Nat, p < 64 → frS S (f (a + 1)) (p : Int) i = -1 → matP (f (a + 1) i) (p : Int) → deF (f (a + 2)) (f (a + 3)) (p : Int) (i : Int) = f (a + 5) p := by
          rw [bv0]
          constructor
          · intro h p hp z1 z2
            have := h p hp
            rw [BitVec.getLsbD_and, BitVec.getLsbD_and, notb hp, (hX p hp).mpr z1, (h1 i (by omega) p hp).mpr z2] at this
            exact ((h2 i (by omega) p hp).mp (by simpa using this)).2
          · intro h p hp
            rw [BitVec.getLsbD_and, BitVec.getLsbD_and, notb hp]
            cases hx : X.getLsbD p
            · rfl
            · cases hy : (g u i).getLsbD p
              · rfl
              · have y := (h1 i (by omega) p hp).mp hy
                rw [(h2 i (by omega) p hp).mpr ⟨y, h p hp ((hX p hp).mp hx) y⟩]
                rfl
        by_cases z : ((X &&& g u i) &&& (g w i ^^^ 18446744073709551615#64)) = 0#64
        · have e2 := e.mp z
          obtain ⟨v, v1, v2, A⟩ := ih (i + 1) (by omega) (X &&& (g u i ^^^ 18446744073709551615#64)) (fun p hp => by
            rw [BitVec.getLsbD_and, notb hp, sx, Bool.and_eq_true, hX p hp]
            have := h1 i (by omega) p hp
            by_cases y : frS S (f (a + 1)) (p : Int) i = -1
            · rw [if_pos y]
              by_cases x : matP (f (a + 1) i) (p : Int)
              · rw [if_pos ⟨hb, x⟩, this.mpr x]
                exact ⟨fun q => absurd q.2 (by decide), fun q => by omega⟩
              · rw [if_neg fun q => x q.2]
                refine ⟨fun _ => rfl, fun _ => ⟨y, ?_⟩⟩
                cases hy : (g u i).getLsbD p
                · rfl
                · exact absurd (this.mp hy) x
            · rw [if_neg y]
              exact ⟨fun q => absurd q.1 y, fun q => absurd q y⟩) (fun p hp => by
            rw [sx]
            by_cases y : frS S (f (a + 1)) (p : Int) i = -1
            · rw [if_pos y]
              by_cases x : matP (f (a + 1) i) (p : Int)
              · rw [if_pos ⟨hb, x⟩]
                exact fun _ => e2 p hp y x
              · rw [if_neg fun q => x q.2]
                exact fun q => absurd rfl q
            · rw [if_neg y]
              exact fun _ => hO p hp y)
          exact ⟨v, v1, v2, bk_X7_dealAlike_8 hs ⟨fun y => absurd y (by rw [hn]; omega), fun _ => ⟨⟨by omega, by omega⟩, fun y => absurd (hB_nat.mpr hb) y, fun _ => ⟨⟨by rw [lu]; omega, by rw [lw]; omega⟩, fun _ => ⟨by rw [lu]; omega, by omega, A⟩, fun y => absurd z y⟩⟩⟩⟩
        · refine ⟨0, Or.inl rfl, ⟨fun y => absurd y (by decide), fun y => absurd (e.mpr fun p hp z1 z2 => ?_) z⟩, bk_X7_dealAlike_8 hs ⟨fun y => absurd y (by rw [hn]; omega), fun _ => ⟨⟨by omega, by omega⟩, fun y => absurd (hB_nat.mpr hb) y, fun _ => ⟨⟨by rw [lu]; omega, by rw [lw]; omega⟩, fun y => absurd y z, fun _ => rfl⟩⟩⟩⟩
          have := y p hp
          have e3 : frS S (f (a + 1)) (p : Int) (i + 1) = (i : Int) := by rw [sx, if_pos z1, if_pos ⟨hb, z2⟩]
          have e4 := frS_stay (S := S) (mt := f (a + 1)) (p := (p : Int)) (n := i + 1) (by rw [e3]; omega) (n - (i + 1))
          rw [show i + 1 + (n - (i + 1)) = n by omega, e3] at e4
          rw [e4] at this
          exact this
      · have es : ∀ p : Int, frS S (f (a + 1)) p (i + 1) = frS S (f (a + 1)) p i := fun p => by
          rw [sx]
          split
          · rename_i h
            rw [if_neg (fun q => hb q.1)]
            exact h.symm
          · rfl
        obtain ⟨v, v1, v2, A⟩ := ih (i + 1) (by omega) X (fun p hp => by rw [es]; exact hX p hp) (fun p hp => by rw [es]; exact hO p hp)
        exact ⟨v, v1, v2, bk_X7_dealAlike_8 hs ⟨fun y => absurd y (by rw [hn]; omega), fun _ => ⟨⟨by omega, by omega⟩, fun _ => ⟨by omega, A⟩, fun y => absurd (hB_nat.mp y) hb⟩⟩⟩
  obtain ⟨v, v1, v2, A⟩ := loop n 0 (by omega) (18446744073709551615#64) (fun p hp => by
    rw [show (18446744073709551615#64) = BitVec.allOnes 64 from by decide, BitVec.getLsbD_allOnes, decide_eq_true hp]
    exact ⟨fun _ => rfl, fun _ => rfl⟩) (fun p hp z => absurd rfl z)
  exact ⟨v, v1, v2, bk_X7_dealAlike_0 hs A⟩
