/-! relations as words, and what the maker does with them -/
theorem bk_X2_mark_0 {σ : St} {f : FI} {g : FL} {x0 : Nat} {x1 : Int} {x2 : Int} {r : St × List Vl}  (h : ((-2147483648 ≤ (x1 * 8) ∧ (x1 * 8) ≤ 2147483647) ∧ (-2147483648 ≤ x2 ∧ x2 ≤ 2147483647) ∧ (-2147483648 ≤ ((x1 * 8) + (x2 / 64)) ∧ ((x1 * 8) + (x2 / 64)) ≤ 2147483647) ∧ (0 ≤ ((x1 * 8) + (x2 / 64)) ∧ ((x1 * 8) + (x2 / 64)) < (ln σ x0 : Int)) ∧ (0 ≤ (x2 % 64) ∧ (x2 % 64) < 64)) ∧ (r = ((il σ f (up2 g x0 ((((x1 * 8) + (x2 / 64))).toNat) ((g x0 ((((x1 * 8) + (x2 / 64))).toNat)) ||| ((1#64) <<< ((x2 % 64)).toNat)))), []))) : Ex mt 0 23 (il σ f g) [vR 15 (some x0), vI x1, vI x2] r := Ex.mk mt_23 (show Gx mt 0 cd_X2_mark (il σ f g) b_X2_mark_0 [some (vR 15 (some x0)), some (vI x1), some (vI x2)] [] r from (go_loadA rfl (go_loadI rfl (go_pushI rfl (go_imul h.1.1 (go_loadI rfl (go_pushI rfl (go_ishr (iShr_6 h.1.2.1) (go_iadd h.1.2.2.1 (go_dup2 (gi_lald h.1.2.2.2.1 (go_pushL rfl (go_loadI rfl (go_pushI rfl (go_iand (iAnd_m63 _) (go_lshl (lShl_v h.1.2.2.2.2) (go_lor (gi_last h.1.2.2.2.1 (h.2 ▸ gq_retV)))))))))))))))))))
def A_X2_fillAtom_8 (σ : St) (f : FI) (g : FL) (x0 : Nat) (x1 : Int) (x2 : Int) (x3 : Int) (x4 : Int) (r : St × List Vl) : Prop := ∀ (y5 : Option Vl), Gx mt 1 cd_X2_fillAtom (il σ f g) (cd_X2_fillAtom 8) [some (vR 15 (some x0)), some (vI x1), some (vI x2), some (vI x3), some (vI x4), y5] [] r
theorem bk_X2_fillAtom_0 {σ : St} {f : FI} {g : FL} {x0 : Nat} {x1 : Int} {x2 : Int} {x3 : Int} {r : St × List Vl}  (h : ((¬ x1 = 0 → (A_X2_fillAtom_8 σ f g x0 x1 x2 x3 0 r)) ∧ (x1 = 0 → (r = ((il σ f g), []))))) : Ex mt 1 22 (il σ f g) [vR 15 (some x0), vI x1, vI x2, vI x3] r := Ex.mk mt_22 (show Gx mt 1 cd_X2_fillAtom (il σ f g) b_X2_fillAtom_0 [some (vR 15 (some x0)), some (vI x1), some (vI x2), some (vI x3), none, none] [] r from (go_loadI rfl (gq_if_ne (fun e3 => have h1 := h.1 e3; (go_pushI rfl (go_stoI rfl rfl (go_fall (h1 _))))) (fun e3 => have h2 := h.2 e3; (h2 ▸ gq_retV)))))
theorem bk_X2_fillAtom_8 {σ : St} {f : FI} {g : FL} {x0 : Nat} {x1 : Int} {x2 : Int} {x3 : Int} {x4 : Int} {r : St × List Vl}  (h : ((512 ≤ x4 → (r = ((il σ f g), []))) ∧ (¬ 512 ≤ x4 → (Stat σ f ∧ (-2147483648 ≤ x4 ∧ x4 ≤ 2147483647) ∧ (0 ≤ x2 ∧ x2 < 4)) ∧ ((¬ (vO x4 x2) = x3 → ((¬ x1 = 4 → ((x1 = 1 → (∃ (f13 : FI) (g14 : FL), Ex mt 0 23 (il σ f g) [vR 15 (some x0), vI x4, vI x4] ((il σ f13 g14), []) ∧ ((-2147483648 ≤ (x4 + 1) ∧ (x4 + 1) ≤ 2147483647)) ∧ (A_X2_fillAtom_8 σ f13 g14 x0 x1 x2 x3 (x4 + 1) r))) ∧ (¬ x1 = 1 → ((¬ x1 = 2 → (∃ (f20 : FI) (g21 : FL), Ex mt 0 23 (il σ f g) [vR 15 (some x0), vI x4, vI x4] ((il σ f20 g21), []) ∧ ((-2147483648 ≤ (x4 + 1) ∧ (x4 + 1) ≤ 2147483647)) ∧ (A_X2_fillAtom_8 σ f20 g21 x0 x1 x2 x3 (x4 + 1) r))) ∧ (x1 = 2 → ((-2147483648 ≤ (x4 + 1) ∧ (x4 + 1) ≤ 2147483647)) ∧ (A_X2_fillAtom_8 σ f g x0 x1 x2 x3 (x4 + 1) r)))))) ∧ (x1 = 4 → (Stat σ f ∧ (0 ≤ x4 ∧ x4 < 512) ∧ (0 ≤ x2 ∧ x2 < 4) ∧ (0 ≤ x3 ∧ x3 < 8) ∧ (x2 = 3 ∨ x3 < 4)) ∧ (∃ (f24 : FI) (g25 : FL), Ex mt 0 23 (il σ f g) [vR 15 (some x0), vI x4, vI (chg x4 x2 x3)] ((il σ f24 g25), []) ∧ ((-2147483648 ≤ (x4 + 1) ∧ (x4 + 1) ≤ 2147483647)) ∧ (A_X2_fillAtom_8 σ f24 g25 x0 x1 x2 x3 (x4 + 1) r))))) ∧ ((vO x4 x2) = x3 → ((¬ x1 = 4 → ((x1 = 1 → (∃ (f34 : FI) (g35 : FL), Ex mt 0 23 (il σ f g) [vR 15 (some x0), vI x4, vI x4] ((il σ f34 g35), []) ∧ ((-2147483648 ≤ (x4 + 1) ∧ (x4 + 1) ≤ 2147483647)) ∧ (A_X2_fillAtom_8 σ f34 g35 x0 x1 x2 x3 (x4 + 1) r))) ∧ (¬ x1 = 1 → ((¬ x1 = 2 → ((-2147483648 ≤ (x4 + 1) ∧ (x4 + 1) ≤ 2147483647)) ∧ (A_X2_fillAtom_8 σ f g x0 x1 x2 x3 (x4 + 1) r)) ∧ (x1 = 2 → (∃ (f41 : FI) (g42 : FL), Ex mt 0 23 (il σ f g) [vR 15 (some x0), vI x4, vI x4] ((il σ f41 g42), []) ∧ ((-2147483648 ≤ (x4 + 1) ∧ (x4 + 1) ≤ 2147483647)) ∧ (A_X2_fillAtom_8 σ f41 g42 x0 x1 x2 x3 (x4 + 1) r))))))) ∧ (x1 = 4 → (Stat σ f ∧ (0 ≤ x4 ∧ x4 < 512) ∧ (0 ≤ x2 ∧ x2 < 4) ∧ (0 ≤ x3 ∧ x3 < 8) ∧ (x2 = 3 ∨ x3 < 4)) ∧ (∃ (f45 : FI) (g46 : FL), Ex mt 0 23 (il σ f g) [vR 15 (some x0), vI x4, vI (chg x4 x2 x3)] ((il σ f45 g46), []) ∧ ((-2147483648 ≤ (x4 + 1) ∧ (x4 + 1) ≤ 2147483647)) ∧ (A_X2_fillAtom_8 σ f45 g46 x0 x1 x2 x3 (x4 + 1) r))))))))) : A_X2_fillAtom_8 σ f g x0 x1 x2 x3 x4 r := fun y5 => (show Gx mt 1 cd_X2_fillAtom (il σ f g) b_X2_fillAtom_8 [some (vR 15 (some x0)), some (vI x1), some (vI x2), some (vI x3), some (vI x4), y5] [] r from (go_loadI rfl (go_pushI rfl (gq_icmp_ge (fun e3 => have h1 := h.1 e3; (h1 ▸ gq_retV)) (fun e3 => have h2 := h.2 e3; (go_loadI rfl (go_loadI rfl (go_callS rfl rfl rfl (pu_valueOf h2.1.1 h2.1.2.1 h2.1.2.2) (go_loadI rfl (gq_icmp_ne (fun e6 => have h4 := h2.2.1 e6; (go_pushI rfl (go_fall (go_stoI rfl rfl (go_loadI rfl (go_pushI rfl (gq_icmp_ne (fun e9 => have h7 := h4.1 e9; (go_loadI rfl (go_pushI rfl (gq_icmp_eq (fun e12 => have h10 := h7.1 e12; (go_loadA rfl (go_loadI rfl (go_loadI rfl (Exists.elim h10 fun f13 w16 => Exists.elim w16 fun g14 h15 => (go_callS rfl rfl rfl h15.1 (go_fall (go_iinc rfl h15.2.1 rfl (go_goto (h15.2.2 _)))))))))) (fun e12 => have h11 := h7.2 e12; (go_loadI rfl (go_loadI rfl (go_pushI rfl (gq_icmp_ne (fun e19 => have h17 := h11.1 e19; (go_pushI rfl (go_fall (gq_icmp_ne (fun h => absurd h (by decide)) (fun _ => (go_fall (go_loadA rfl (go_loadI rfl (go_loadI rfl (Exists.elim h17 fun f20 w23 => Exists.elim w23 fun g21 h22 => (go_callS rfl rfl rfl h22.1 (go_fall (go_iinc rfl h22.2.1 rfl (go_goto (h22.2.2 _))))))))))))))) (fun e19 => have h18 := h11.2 e19; (go_pushI rfl (go_goto (gq_icmp_ne (fun _ => (go_iinc rfl h18.1 rfl (go_goto (h18.2 _)))) (fun h => absurd h (by decide))))))))))))))) (fun e9 => have h8 := h4.2 e9; (go_loadA rfl (go_loadI rfl (go_loadI rfl (go_loadI rfl (go_loadI rfl (go_callS rfl rfl rfl (pu_changed h8.1.1 h8.1.2.1 h8.1.2.2.1 h8.1.2.2.2.1 h8.1.2.2.2.2) (Exists.elim h8.2 fun f24 w27 => Exists.elim w27 fun g25 h26 => (go_callS rfl rfl rfl h26.1 (go_goto (go_iinc rfl h26.2.1 rfl (go_goto (h26.2.2 _)))))))))))))))))))) (fun e6 => have h5 := h2.2.2 e6; (go_pushI rfl (go_goto (go_stoI rfl rfl (go_loadI rfl (go_pushI rfl (gq_icmp_ne (fun e30 => have h28 := h5.1 e30; (go_loadI rfl (go_pushI rfl (gq_icmp_eq (fun e33 => have h31 := h28.1 e33; (go_loadA rfl (go_loadI rfl (go_loadI rfl (Exists.elim h31 fun f34 w37 => Exists.elim w37 fun g35 h36 => (go_callS rfl rfl rfl h36.1 (go_fall (go_iinc rfl h36.2.1 rfl (go_goto (h36.2.2 _)))))))))) (fun e33 => have h32 := h28.2 e33; (go_loadI rfl (go_loadI rfl (go_pushI rfl (gq_icmp_ne (fun e40 => have h38 := h32.1 e40; (go_pushI rfl (go_fall (gq_icmp_ne (fun _ => (go_iinc rfl h38.1 rfl (go_goto (h38.2 _)))) (fun h => absurd h (by decide)))))) (fun e40 => have h39 := h32.2 e40; (go_pushI rfl (go_goto (gq_icmp_ne (fun h => absurd h (by decide)) (fun _ => (go_fall (go_loadA rfl (go_loadI rfl (go_loadI rfl (Exists.elim h39 fun f41 w44 => Exists.elim w44 fun g42 h43 => (go_callS rfl rfl rfl h43.1 (go_fall (go_iinc rfl h43.2.1 rfl (go_goto (h43.2.2 _)))))))))))))))))))))))) (fun e30 => have h29 := h5.2 e30; (go_loadA rfl (go_loadI rfl (go_loadI rfl (go_loadI rfl (go_loadI rfl (go_callS rfl rfl rfl (pu_changed h29.1.1 h29.1.2.1 h29.1.2.2.1 h29.1.2.2.2.1 h29.1.2.2.2.2) (Exists.elim h29.2 fun f45 w48 => Exists.elim w48 fun g46 h47 => (go_callS rfl rfl rfl h47.1 (go_goto (go_iinc rfl h47.2.1 rfl (go_goto (h47.2.2 _))))))))))))))))))))))))))))))
def A_X2_unite_2 (σ : St) (f : FI) (g : FL) (x0 : Nat) (x1 : Nat) (x2 : Int) (r : St × List Vl) : Prop := Gx mt 0 cd_X2_unite (il σ f g) (cd_X2_unite 2) [some (vR 15 (some x0)), some (vR 15 (some x1)), some (vI x2)] [] r
theorem bk_X2_unite_0 {σ : St} {f : FI} {g : FL} {x0 : Nat} {x1 : Nat} {r : St × List Vl}  (h : (A_X2_unite_2 σ f g x0 x1 0 r)) : Ex mt 0 24 (il σ f g) [vR 15 (some x0), vR 15 (some x1)] r := Ex.mk mt_24 (show Gx mt 0 cd_X2_unite (il σ f g) b_X2_unite_0 [some (vR 15 (some x0)), some (vR 15 (some x1)), none] [] r from (go_pushI rfl (go_stoI rfl rfl (go_fall (h)))))
theorem bk_X2_unite_2 {σ : St} {f : FI} {g : FL} {x0 : Nat} {x1 : Nat} {x2 : Int} {r : St × List Vl}  (h : ((4096 ≤ x2 → (r = ((il σ f g), []))) ∧ (¬ 4096 ≤ x2 → ((0 ≤ x2 ∧ x2 < (ln σ x0 : Int)) ∧ (0 ≤ x2 ∧ x2 < (ln σ x1 : Int)) ∧ (-2147483648 ≤ (x2 + 1) ∧ (x2 + 1) ≤ 2147483647)) ∧ (A_X2_unite_2 σ f (up2 g x0 ((x2).toNat) ((g x0 ((x2).toNat)) ||| (g x1 ((x2).toNat)))) x0 x1 (x2 + 1) r)))) : A_X2_unite_2 σ f g x0 x1 x2 r := (show Gx mt 0 cd_X2_unite (il σ f g) b_X2_unite_2 [some (vR 15 (some x0)), some (vR 15 (some x1)), some (vI x2)] [] r from (go_loadI rfl (go_pushI rfl (gq_icmp_ge (fun e3 => have h1 := h.1 e3; (h1 ▸ gq_retV)) (fun e3 => have h2 := h.2 e3; (go_loadA rfl (go_loadI rfl (go_dup2 (gi_lald h2.1.1 (go_loadA rfl (go_loadI rfl (gi_lald h2.1.2.1 (go_lor (gi_last h2.1.1 (go_iinc rfl h2.1.2.2 rfl (go_goto (h2.2)))))))))))))))))
def A_X2_addRows_9 (σ : St) (f : FI) (g : FL) (a : Nat) (x3 : Int) (x4 : Nat) (x5 : BitVec 64) (x7 : Int) (r : St × List Vl) : Prop := ∀ (y1 : BitVec 64) (y8 : Option Vl) (y9 : Option Vl), Gx mt 2 cd_X2_addRows (il σ f g) (cd_X2_addRows 9) [some (vR 2 (some a)), some (vL y1), none, some (vI x3), some (vR 15 (some x4)), some (vL x5), none, some (vI x7), y8, y9] [] r
def A_X2_addRows_32 (σ : St) (f : FI) (g : FL) (a : Nat) (x3 : Int) (x4 : Nat) (x5 : BitVec 64) (x7 : Int) (x8 : Int) (x9 : Int) (r : St × List Vl) : Prop := ∀ (y1 : BitVec 64), Gx mt 2 cd_X2_addRows (il σ f g) (cd_X2_addRows 32) [some (vR 2 (some a)), some (vL y1), none, some (vI x3), some (vR 15 (some x4)), some (vL x5), none, some (vI x7), some (vI x8), some (vI x9)] [] r
theorem bk_X2_addRows_0 {σ : St} {f : FI} {g : FL} {a : Nat} {x1 : BitVec 64} {x3 : Int} {x4 : Nat} {r : St × List Vl} (hs : Sh2 σ a) (h : (A_X2_addRows_9 σ f g a x3 x4 x1 (pc x1 : Int) r)) : Ex mt 2 26 (il σ f g) [vR 2 (some a), vL x1, vI x3, vR 15 (some x4)] r := Ex.mk mt_26 (show Gx mt 2 cd_X2_addRows (il σ f g) b_X2_addRows_0 [some (vR 2 (some a)), some (vL x1), none, some (vI x3), some (vR 15 (some x4)), none, none, none, none, none] [] r from (go_loadL rfl (go_stoL rfl rfl (go_loadL rfl (go_callS rfl rfl rfl (pu_bitCountL) (go_stoI rfl rfl (go_fall (h _ _ _))))))))
theorem bk_X2_addRows_9 {σ : St} {f : FI} {g : FL} {a : Nat} {x3 : Int} {x4 : Nat} {x5 : BitVec 64} {x7 : Int} {r : St × List Vl} (hs : Sh2 σ a) (h : ((x7 ≤ 0 → (r = ((il σ f g), []))) ∧ (¬ x7 ≤ 0 → ((-2147483648 ≤ (x3 * 64) ∧ (x3 * 64) ≤ 2147483647) ∧ (-2147483648 ≤ ((x3 * 64) + (lowB x5)) ∧ ((x3 * 64) + (lowB x5)) ≤ 2147483647) ∧ (-2147483648 ≤ (((x3 * 64) + (lowB x5)) * 8) ∧ (((x3 * 64) + (lowB x5)) * 8) ≤ 2147483647)) ∧ (A_X2_addRows_32 σ f g a x3 x4 x5 x7 (((x3 * 64) + (lowB x5)) * 8) 0 r)))) : A_X2_addRows_9 σ f g a x3 x4 x5 x7 r := fun y1 y8 y9 => (show Gx mt 2 cd_X2_addRows (il σ f g) b_X2_addRows_9 [some (vR 2 (some a)), some (vL y1), none, some (vI x3), some (vR 15 (some x4)), some (vL x5), none, some (vI x7), y8, y9] [] r from (go_loadI rfl (gq_if_le (fun e3 => have h1 := h.1 e3; (h1 ▸ gq_retV)) (fun e3 => have h2 := h.2 e3; (go_loadI rfl (go_pushI rfl (go_imul h2.1.1 (go_loadL rfl (go_callS rfl rfl rfl (pu_lowestBit) (go_iadd h2.1.2.1 (go_pushI rfl (go_imul h2.1.2.2 (go_stoI rfl rfl (go_pushI rfl (go_stoI rfl rfl (go_fall (h2.2 _)))))))))))))))))
theorem bk_X2_addRows_32 {σ : St} {f : FI} {g : FL} {a : Nat} {x3 : Int} {x4 : Nat} {x5 : BitVec 64} {x7 : Int} {x8 : Int} {x9 : Int} {r : St × List Vl} (hs : Sh2 σ a) (h : ((8 ≤ x9 → ((-2147483648 ≤ (x7 + (-1)) ∧ (x7 + (-1)) ≤ 2147483647)) ∧ (A_X2_addRows_9 σ f g a x3 x4 (x5 &&& (x5 - (1#64))) (x7 + (-1)) r)) ∧ (¬ 8 ≤ x9 → ((0 ≤ x9 ∧ x9 < 8) ∧ (-2147483648 ≤ (x8 + x9) ∧ (x8 + x9) ≤ 2147483647) ∧ (0 ≤ (x8 + x9) ∧ (x8 + x9) < (ln σ x4 : Int)) ∧ (-2147483648 ≤ (x9 + 1) ∧ (x9 + 1) ≤ 2147483647)) ∧ (A_X2_addRows_32 σ f (up2 g (a + 22) ((x9).toNat) ((g (a + 22) ((x9).toNat)) ||| (g x4 (((x8 + x9)).toNat)))) a x3 x4 x5 x7 x8 (x9 + 1) r)))) : A_X2_addRows_32 σ f g a x3 x4 x5 x7 x8 x9 r := fun y1 => (show Gx mt 2 cd_X2_addRows (il σ f g) b_X2_addRows_32 [some (vR 2 (some a)), some (vL y1), none, some (vI x3), some (vR 15 (some x4)), some (vL x5), none, some (vI x7), some (vI x8), some (vI x9)] [] r from (go_loadI rfl (go_pushI rfl (gq_icmp_ge (fun e3 => have h1 := h.1 e3; (go_loadL rfl (go_loadL rfl (go_pushL rfl (go_lsub (go_land (go_stoL rfl rfl (go_iinc rfl h1.1 rfl (go_goto (h1.2 _ _ _)))))))))) (fun e3 => have h2 := h.2 e3; (go_loadA rfl (gi_getR (Sh2.r1 hs) (go_loadI rfl (go_dup2 (gi_lald (inl_ (Sh2.l1 hs) h2.1.1) (go_loadA rfl (go_loadI rfl (go_loadI rfl (go_iadd h2.1.2.1 (gi_lald h2.1.2.2.1 (go_lor (gi_last (inl_ (Sh2.l1 hs) h2.1.1) (go_iinc rfl h2.1.2.2.2 rfl (go_goto (h2.2 _))))))))))))))))))))
def A_X2_follow_2 (σ : St) (f : FI) (g : FL) (a : Nat) (x1 : Nat) (x2 : Nat) (x3 : Int) (r : St × List Vl) : Prop := ∀ (y4 : Option Vl), Gx mt 3 cd_X2_follow (il σ f g) (cd_X2_follow 2) [some (vR 2 (some a)), some (vR 15 (some x1)), some (vR 15 (some x2)), some (vI x3), y4] [] r
def A_X2_follow_20 (σ : St) (f : FI) (g : FL) (a : Nat) (x1 : Nat) (x2 : Nat) (x3 : Int) (x4 : Int) (r : St × List Vl) : Prop := Gx mt 3 cd_X2_follow (il σ f g) (cd_X2_follow 20) [some (vR 2 (some a)), some (vR 15 (some x1)), some (vR 15 (some x2)), some (vI x3), some (vI x4)] [] r
theorem bk_X2_follow_0 {σ : St} {f : FI} {g : FL} {a : Nat} {x1 : Nat} {x2 : Nat} {r : St × List Vl} (hs : Sh2 σ a) (h : (A_X2_follow_2 σ f g a x1 x2 0 r)) : Ex mt 3 25 (il σ f g) [vR 2 (some a), vR 15 (some x1), vR 15 (some x2)] r := Ex.mk mt_25 (show Gx mt 3 cd_X2_follow (il σ f g) b_X2_follow_0 [some (vR 2 (some a)), some (vR 15 (some x1)), some (vR 15 (some x2)), none, none] [] r from (go_pushI rfl (go_stoI rfl rfl (go_fall (h _)))))
theorem bk_X2_follow_2 {σ : St} {f : FI} {g : FL} {a : Nat} {x1 : Nat} {x2 : Nat} {x3 : Int} {r : St × List Vl} (hs : Sh2 σ a) (h : ((4096 ≤ x3 → (r = ((il σ f g), []))) ∧ (¬ 4096 ≤ x3 → (∃ (f4 : FI) (g5 : FL), Ex mt 0 314 (il σ f g) [vR 15 (some (a + 22)), vL (0#64)] ((il σ f4 g5), []) ∧ (A_X2_follow_20 σ f4 g5 a x1 x2 x3 0 r))))) : A_X2_follow_2 σ f g a x1 x2 x3 r := fun y4 => (show Gx mt 3 cd_X2_follow (il σ f g) b_X2_follow_2 [some (vR 2 (some a)), some (vR 15 (some x1)), some (vR 15 (some x2)), some (vI x3), y4] [] r from (go_loadI rfl (go_pushI rfl (gq_icmp_ge (fun e3 => have h1 := h.1 e3; (h1 ▸ gq_retV)) (fun e3 => have h2 := h.2 e3; (go_loadA rfl (gi_getR (Sh2.r1 hs) (go_pushL rfl (Exists.elim h2 fun f4 w7 => Exists.elim w7 fun g5 h6 => (go_callS rfl rfl rfl h6.1 (go_pushI rfl (go_stoI rfl rfl (go_fall (h6.2))))))))))))))
theorem bk_X2_follow_20 {σ : St} {f : FI} {g : FL} {a : Nat} {x1 : Nat} {x2 : Nat} {x3 : Int} {x4 : Int} {r : St × List Vl} (hs : Sh2 σ a) (h : ((8 ≤ x4 → (((0 : Int) ≤ 8 ∧ (0 : Int) ≤ x3 ∧ (0 : Int) ≤ 0 ∧ 0 + 8 ≤ (ln σ (a + 22) : Int) ∧ x3 + 8 ≤ (ln σ x1 : Int))) ∧ (∀ (g4 : FL), g4 = (up1 g x1 (cpyF (g (a + 22)) (g x1) 0 ((x3).toNat) 8)) → ((-2147483648 ≤ (x3 + 8) ∧ (x3 + 8) ≤ 2147483647)) ∧ (A_X2_follow_2 σ f g4 a x1 x2 (x3 + 8) r))) ∧ (¬ 8 ≤ x4 → ((-2147483648 ≤ (x3 + x4) ∧ (x3 + x4) ≤ 2147483647) ∧ (0 ≤ (x3 + x4) ∧ (x3 + x4) < (ln σ x1 : Int))) ∧ (((g x1 (((x3 + x4)).toNat)) = (0#64) → ((-2147483648 ≤ (x4 + 1) ∧ (x4 + 1) ≤ 2147483647)) ∧ (A_X2_follow_20 σ f g a x1 x2 x3 (x4 + 1) r)) ∧ (¬ (g x1 (((x3 + x4)).toNat)) = (0#64) → ((-2147483648 ≤ (x3 + x4) ∧ (x3 + x4) ≤ 2147483647) ∧ (0 ≤ (x3 + x4) ∧ (x3 + x4) < (ln σ x1 : Int))) ∧ (∃ (f10 : FI) (g11 : FL), Ex mt 2 26 (il σ f g) [vR 2 (some a), vL (g x1 (((x3 + x4)).toNat)), vI x4, vR 15 (some x2)] ((il σ f10 g11), []) ∧ ((-2147483648 ≤ (x4 + 1) ∧ (x4 + 1) ≤ 2147483647)) ∧ (A_X2_follow_20 σ f10 g11 a x1 x2 x3 (x4 + 1) r))))))) : A_X2_follow_20 σ f g a x1 x2 x3 x4 r := (show Gx mt 3 cd_X2_follow (il σ f g) b_X2_follow_20 [some (vR 2 (some a)), some (vR 15 (some x1)), some (vR 15 (some x2)), some (vI x3), some (vI x4)] [] r from (go_loadI rfl (go_pushI rfl (gq_icmp_ge (fun e3 => have h1 := h.1 e3; (go_loadA rfl (gi_getR (Sh2.r1 hs) (go_pushI rfl (go_loadA rfl (go_loadI rfl (go_pushI rfl (gi_cpyL h1.1 rfl (Gx.letG (fun g4 e6 => have h5 := h1.2 g4 e6; (go_iinc rfl h5.1 rfl (go_goto (h5.2 _))))))))))))) (fun e3 => have h2 := h.2 e3; (go_loadA rfl (go_loadI rfl (go_loadI rfl (go_iadd h2.1.1 (gi_lald h2.1.2 (go_pushL rfl (go_lcmp rfl (go_lif_eq (fun e9 => have h7 := h2.2.1 e9; (go_iinc rfl h7.1 rfl (go_goto (h7.2)))) (fun e9 => have h8 := h2.2.2 e9; (go_loadA rfl (go_loadA rfl (go_loadI rfl (go_loadI rfl (go_iadd h8.1.1 (gi_lald h8.1.2 (go_loadI rfl (go_loadA rfl (Exists.elim h8.2 fun f10 w13 => Exists.elim w13 fun g11 h12 => (go_callV rfl rfl rfl h12.1 (go_fall (go_iinc rfl h12.2.1 rfl (go_goto (h12.2.2))))))))))))))))))))))))))))
def A_X2_goOnBy_16 (σ : St) (f : FI) (g : FL) (x0 : Nat) (x1 : Int) (x2 : Int) (x3 : Int) (r : St × List Vl) : Prop := ∀ (y4 : Option Vl), Gx mt 1 cd_X2_goOnBy (il σ f g) (cd_X2_goOnBy 16) [some (vR 15 (some x0)), some (vI x1), some (vI x2), some (vI x3), y4] [] r
def A_X2_goOnBy_46 (σ : St) (f : FI) (g : FL) (x0 : Nat) (x1 : Int) (x2 : Int) (x3 : Int) (x4 : Int) (r : St × List Vl) : Prop := Gx mt 1 cd_X2_goOnBy (il σ f g) (cd_X2_goOnBy 46) [some (vR 15 (some x0)), some (vI x1), some (vI x2), some (vI x3), some (vI x4)] [] r
theorem bk_X2_goOnBy_0 {σ : St} {f : FI} {g : FL} {x0 : Nat} {x1 : Int} {r : St × List Vl}  (h : ((-2147483648 ≤ (x1 * 8) ∧ (x1 * 8) ≤ 2147483647)) ∧ (∃ (f1 : FI) (g2 : FL) (v4 : Int), Ex mt 0 30 (il σ f g) [vR 15 (some x0), vI (x1 * 8)] ((il σ f1 g2), [vI v4]) ∧ ((v4 = 0 → (A_X2_goOnBy_16 σ f1 g2 x0 x1 (x1 * 8) 0 r)) ∧ (¬ v4 = 0 → (r = ((il σ f1 g2), [])))))) : Ex mt 1 29 (il σ f g) [vR 15 (some x0), vI x1] r := Ex.mk mt_29 (show Gx mt 1 cd_X2_goOnBy (il σ f g) b_X2_goOnBy_0 [some (vR 15 (some x0)), some (vI x1), none, none, none] [] r from (go_loadI rfl (go_pushI rfl (go_imul h.1 (go_stoI rfl rfl (go_loadA rfl (go_loadI rfl (Exists.elim h.2 fun f1 w8 => Exists.elim w8 fun g2 w9 => Exists.elim w9 fun v4 h3 => (go_callS rfl rfl rfl h3.1 (gq_if_eq (fun e7 => have h5 := h3.2.1 e7; (go_pushI rfl (go_stoI rfl rfl (go_fall (h5 _))))) (fun e7 => have h6 := h3.2.2 e7; (h6 ▸ gq_retV))))))))))))
theorem bk_X2_goOnBy_16 {σ : St} {f : FI} {g : FL} {x0 : Nat} {x1 : Int} {x2 : Int} {x3 : Int} {r : St × List Vl}  (h : ((4096 ≤ x3 → (r = ((il σ f g), []))) ∧ (¬ 4096 ≤ x3 → ((-2147483648 ≤ x1 ∧ x1 ≤ 2147483647) ∧ (-2147483648 ≤ (x3 + (x1 / 64)) ∧ (x3 + (x1 / 64)) ≤ 2147483647) ∧ (0 ≤ (x3 + (x1 / 64)) ∧ (x3 + (x1 / 64)) < (ln σ x0 : Int)) ∧ (0 ≤ (x1 % 64) ∧ (x1 % 64) < 64)) ∧ (((((g x0 (((x3 + (x1 / 64))).toNat)) >>> ((x1 % 64)).toNat) &&& (1#64)) = (0#64) → ((-2147483648 ≤ (x3 + 8) ∧ (x3 + 8) ≤ 2147483647)) ∧ (A_X2_goOnBy_16 σ f g x0 x1 x2 (x3 + 8) r)) ∧ (¬ (((g x0 (((x3 + (x1 / 64))).toNat)) >>> ((x1 % 64)).toNat) &&& (1#64)) = (0#64) → (A_X2_goOnBy_46 σ f g x0 x1 x2 x3 0 r)))))) : A_X2_goOnBy_16 σ f g x0 x1 x2 x3 r := fun y4 => (show Gx mt 1 cd_X2_goOnBy (il σ f g) b_X2_goOnBy_16 [some (vR 15 (some x0)), some (vI x1), some (vI x2), some (vI x3), y4] [] r from (go_loadI rfl (go_pushI rfl (gq_icmp_ge (fun e3 => have h1 := h.1 e3; (h1 ▸ gq_retV)) (fun e3 => have h2 := h.2 e3; (go_loadA rfl (go_loadI rfl (go_loadI rfl (go_pushI rfl (go_ishr (iShr_6 h2.1.1) (go_iadd h2.1.2.1 (gi_lald h2.1.2.2.1 (go_loadI rfl (go_pushI rfl (go_iand (iAnd_m63 _) (go_lushr (lUshr_v h2.1.2.2.2) (go_pushL rfl (go_land (go_pushL rfl (go_lcmp rfl (go_lif_eq (fun e6 => have h4 := h2.2.1 e6; (go_iinc rfl h4.1 rfl (go_goto (h4.2 _)))) (fun e6 => have h5 := h2.2.2 e6; (go_pushI rfl (go_stoI rfl rfl (go_fall (h5))))))))))))))))))))))))))
theorem bk_X2_goOnBy_46 {σ : St} {f : FI} {g : FL} {x0 : Nat} {x1 : Int} {x2 : Int} {x3 : Int} {x4 : Int} {r : St × List Vl}  (h : ((8 ≤ x4 → ((-2147483648 ≤ (x3 + 8) ∧ (x3 + 8) ≤ 2147483647)) ∧ (A_X2_goOnBy_16 σ f g x0 x1 x2 (x3 + 8) r)) ∧ (¬ 8 ≤ x4 → ((-2147483648 ≤ (x3 + x4) ∧ (x3 + x4) ≤ 2147483647) ∧ (0 ≤ (x3 + x4) ∧ (x3 + x4) < (ln σ x0 : Int)) ∧ (-2147483648 ≤ (x2 + x4) ∧ (x2 + x4) ≤ 2147483647) ∧ (0 ≤ (x2 + x4) ∧ (x2 + x4) < (ln σ x0 : Int)) ∧ (-2147483648 ≤ (x4 + 1) ∧ (x4 + 1) ≤ 2147483647)) ∧ (A_X2_goOnBy_46 σ f (up2 g x0 (((x3 + x4)).toNat) ((g x0 (((x3 + x4)).toNat)) ||| (g x0 (((x2 + x4)).toNat)))) x0 x1 x2 x3 (x4 + 1) r)))) : A_X2_goOnBy_46 σ f g x0 x1 x2 x3 x4 r := (show Gx mt 1 cd_X2_goOnBy (il σ f g) b_X2_goOnBy_46 [some (vR 15 (some x0)), some (vI x1), some (vI x2), some (vI x3), some (vI x4)] [] r from (go_loadI rfl (go_pushI rfl (gq_icmp_ge (fun e3 => have h1 := h.1 e3; (go_iinc rfl h1.1 rfl (go_goto (h1.2 _)))) (fun e3 => have h2 := h.2 e3; (go_loadA rfl (go_loadI rfl (go_loadI rfl (go_iadd h2.1.1 (go_dup2 (gi_lald h2.1.2.1 (go_loadA rfl (go_loadI rfl (go_loadI rfl (go_iadd h2.1.2.2.1 (gi_lald h2.1.2.2.2.1 (go_lor (gi_last h2.1.2.1 (go_iinc rfl h2.1.2.2.2.2 rfl (go_goto (h2.2)))))))))))))))))))))
def A_X2_sumUpOthers_10 (σ : St) (f : FI) (g : FL) (a : Nat) (x1 : Nat) (x2 : Int) (r : St × List Vl) : Prop := ∀ (y3 : Option Vl) (y4 : Option Vl) (y5 : Option Vl) (y6 : Option Vl), Gx mt 1 cd_X2_sumUpOthers (il σ f g) (cd_X2_sumUpOthers 10) [some (vR 2 (some a)), some (vR 15 (some x1)), some (vI x2), y3, y4, y5, y6] [] r
def A_X2_sumUpOthers_25 (σ : St) (f : FI) (g : FL) (a : Nat) (x1 : Nat) (x2 : Int) (x3 : Int) (x4 : Int) (r : St × List Vl) : Prop := ∀ (y5 : Option Vl) (y6 : Option Vl), Gx mt 1 cd_X2_sumUpOthers (il σ f g) (cd_X2_sumUpOthers 25) [some (vR 2 (some a)), some (vR 15 (some x1)), some (vI x2), some (vI x3), some (vI x4), y5, y6] [] r
theorem bk_X2_sumUpOthers_0 {σ : St} {f : FI} {g : FL} {a : Nat} {x1 : Nat} {r : St × List Vl} (hs : Sh2 σ a) (h : (∃ (f1 : FI) (g2 : FL), Ex mt 0 314 (il σ f g) [vR 15 (some (a + 22)), vL (0#64)] ((il σ f1 g2), []) ∧ (A_X2_sumUpOthers_10 σ f1 g2 a x1 0 r))) : Ex mt 1 28 (il σ f g) [vR 2 (some a), vR 15 (some x1)] r := Ex.mk mt_28 (show Gx mt 1 cd_X2_sumUpOthers (il σ f g) b_X2_sumUpOthers_0 [some (vR 2 (some a)), some (vR 15 (some x1)), none, none, none, none, none] [] r from (go_loadA rfl (gi_getR (Sh2.r1 hs) (go_pushL rfl (Exists.elim h fun f1 w4 => Exists.elim w4 fun g2 h3 => (go_callS rfl rfl rfl h3.1 (go_pushI rfl (go_stoI rfl rfl (go_fall (h3.2 _ _ _ _))))))))))
theorem bk_X2_sumUpOthers_10 {σ : St} {f : FI} {g : FL} {a : Nat} {x1 : Nat} {x2 : Int} {r : St × List Vl} (hs : Sh2 σ a) (h : ((512 ≤ x2 → (r = ((il σ f g), []))) ∧ (¬ 512 ≤ x2 → ((-2147483648 ≤ x2 ∧ x2 ≤ 2147483647)) ∧ (A_X2_sumUpOthers_25 σ f g a x1 x2 (x2 / 64) 0 r)))) : A_X2_sumUpOthers_10 σ f g a x1 x2 r := fun y3 y4 y5 y6 => (show Gx mt 1 cd_X2_sumUpOthers (il σ f g) b_X2_sumUpOthers_10 [some (vR 2 (some a)), some (vR 15 (some x1)), some (vI x2), y3, y4, y5, y6] [] r from (go_loadI rfl (go_pushI rfl (gq_icmp_ge (fun e3 => have h1 := h.1 e3; (h1 ▸ gq_retV)) (fun e3 => have h2 := h.2 e3; (go_loadI rfl (go_pushI rfl (go_ishr (iShr_6 h2.1) (go_stoI rfl rfl (go_pushI rfl (go_stoI rfl rfl (go_fall (h2.2 _ _)))))))))))))
theorem bk_X2_sumUpOthers_25 {σ : St} {f : FI} {g : FL} {a : Nat} {x1 : Nat} {x2 : Int} {x3 : Int} {x4 : Int} {r : St × List Vl} (hs : Sh2 σ a) (h : ((8 ≤ x4 → ((-2147483648 ≤ (x2 + 1) ∧ (x2 + 1) ≤ 2147483647)) ∧ (A_X2_sumUpOthers_10 σ f g a x1 (x2 + 1) r)) ∧ (¬ 8 ≤ x4 → ((-2147483648 ≤ (x2 * 8) ∧ (x2 * 8) ≤ 2147483647) ∧ (-2147483648 ≤ ((x2 * 8) + x4) ∧ ((x2 * 8) + x4) ≤ 2147483647) ∧ (0 ≤ ((x2 * 8) + x4) ∧ ((x2 * 8) + x4) < (ln σ x1 : Int)) ∧ (0 ≤ x4 ∧ x4 < 8)) ∧ ((¬ x4 = x3 → ((0 ≤ x4 ∧ x4 < 8) ∧ (-2147483648 ≤ (x4 + 1) ∧ (x4 + 1) ≤ 2147483647)) ∧ (A_X2_sumUpOthers_25 σ f (up2 g (a + 22) ((x4).toNat) ((g (a + 22) ((x4).toNat)) ||| (g x1 ((((x2 * 8) + x4)).toNat)))) a x1 x2 x3 (x4 + 1) r)) ∧ (x4 = x3 → ((0 ≤ (x2 % 64) ∧ (x2 % 64) < 64)) ∧ ((0 ≤ x4 ∧ x4 < 8) ∧ (-2147483648 ≤ (x4 + 1) ∧ (x4 + 1) ≤ 2147483647)) ∧ (A_X2_sumUpOthers_25 σ f (up2 g (a + 22) ((x4).toNat) ((g (a + 22) ((x4).toNat)) ||| ((g x1 ((((x2 * 8) + x4)).toNat)) &&& (((1#64) <<< ((x2 % 64)).toNat) ^^^ (18446744073709551615#64))))) a x1 x2 x3 (x4 + 1) r)))))) : A_X2_sumUpOthers_25 σ f g a x1 x2 x3 x4 r := fun y5 y6 => (show Gx mt 1 cd_X2_sumUpOthers (il σ f g) b_X2_sumUpOthers_25 [some (vR 2 (some a)), some (vR 15 (some x1)), some (vI x2), some (vI x3), some (vI x4), y5, y6] [] r from (go_loadI rfl (go_pushI rfl (gq_icmp_ge (fun e3 => have h1 := h.1 e3; (go_iinc rfl h1.1 rfl (go_goto (h1.2 _ _ _ _)))) (fun e3 => have h2 := h.2 e3; (go_loadA rfl (go_loadI rfl (go_pushI rfl (go_imul h2.1.1 (go_loadI rfl (go_iadd h2.1.2.1 (gi_lald h2.1.2.2.1 (go_stoL rfl rfl (go_loadA rfl (gi_getR (Sh2.r1 hs) (go_loadI rfl (go_dup2 (gi_lald (inl_ (Sh2.l1 hs) h2.1.2.2.2) (go_loadI rfl (go_loadI rfl (gq_icmp_ne (fun e6 => have h4 := h2.2.1 e6; (go_loadL rfl (go_fall (go_lor (gi_last (inl_ (Sh2.l1 hs) h4.1.1) (go_iinc rfl h4.1.2 rfl (go_goto (h4.2 _ _)))))))) (fun e6 => have h5 := h2.2.2 e6; (go_loadL rfl (go_pushL rfl (go_loadI rfl (go_pushI rfl (go_iand (iAnd_m63 _) (go_lshl (lShl_v h5.1) (go_pushL rfl (go_lxor (go_land (go_goto (go_lor (gi_last (inl_ (Sh2.l1 hs) h5.2.1.1) (go_iinc rfl h5.2.1.2 rfl (go_goto (h5.2.2 _ _)))))))))))))))))))))))))))))))))))))
def A_X2_close_7 (σ : St) (f : FI) (g : FL) (a : Nat) (x1 : Nat) (x2 : Int) (r : St × List Vl) : Prop := Gx mt 2 cd_X2_close (il σ f g) (cd_X2_close 7) [some (vR 2 (some a)), some (vR 15 (some x1)), some (vI x2)] [] r
def A_X2_close_48 (σ : St) (f : FI) (g : FL) (x1 : Nat) (x2 : Int) (r : St × List Vl) : Prop := ∀ (y0 : Option Nat), Gx mt 2 cd_X2_close (il σ f g) (cd_X2_close 48) [some (vR 2 y0), some (vR 15 (some x1)), some (vI x2)] [] r
theorem bk_X2_close_0 {σ : St} {f : FI} {g : FL} {a : Nat} {x1 : Nat} {r : St × List Vl} (hs : Sh2 σ a) (h : (∃ (f1 : FI) (g2 : FL), Ex mt 1 28 (il σ f g) [vR 2 (some a), vR 15 (some x1)] ((il σ f1 g2), []) ∧ (A_X2_close_7 σ f1 g2 a x1 0 r))) : Ex mt 2 27 (il σ f g) [vR 2 (some a), vR 15 (some x1)] r := Ex.mk mt_27 (show Gx mt 2 cd_X2_close (il σ f g) b_X2_close_0 [some (vR 2 (some a)), some (vR 15 (some x1)), none] [] r from (go_loadA rfl (go_loadA rfl (Exists.elim h fun f1 w4 => Exists.elim w4 fun g2 h3 => (go_callV rfl rfl rfl h3.1 (go_pushI rfl (go_stoI rfl rfl (go_fall (h3.2)))))))))
theorem bk_X2_close_7 {σ : St} {f : FI} {g : FL} {a : Nat} {x1 : Nat} {x2 : Int} {r : St × List Vl} (hs : Sh2 σ a) (h : ((512 ≤ x2 → (A_X2_close_48 σ f g x1 0 r)) ∧ (¬ 512 ≤ x2 → ((-2147483648 ≤ x2 ∧ x2 ≤ 2147483647) ∧ (0 ≤ (x2 / 64) ∧ (x2 / 64) < 8) ∧ (0 ≤ (x2 % 64) ∧ (x2 % 64) < 64)) ∧ (((((g (a + 22) (((x2 / 64)).toNat)) >>> ((x2 % 64)).toNat) &&& (1#64)) = (0#64) → ((-2147483648 ≤ (x2 + 1) ∧ (x2 + 1) ≤ 2147483647)) ∧ (A_X2_close_7 σ f g a x1 (x2 + 1) r)) ∧ (¬ (((g (a + 22) (((x2 / 64)).toNat)) >>> ((x2 % 64)).toNat) &&& (1#64)) = (0#64) → (∃ (f7 : FI) (g8 : FL), Ex mt 1 29 (il σ f g) [vR 15 (some x1), vI x2] ((il σ f7 g8), []) ∧ ((-2147483648 ≤ (x2 + 1) ∧ (x2 + 1) ≤ 2147483647)) ∧ (A_X2_close_7 σ f7 g8 a x1 (x2 + 1) r))))))) : A_X2_close_7 σ f g a x1 x2 r := (show Gx mt 2 cd_X2_close (il σ f g) b_X2_close_7 [some (vR 2 (some a)), some (vR 15 (some x1)), some (vI x2)] [] r from (go_loadI rfl (go_pushI rfl (gq_icmp_ge (fun e3 => have h1 := h.1 e3; (go_pushI rfl (go_stoI rfl rfl (go_fall (h1 _))))) (fun e3 => have h2 := h.2 e3; (go_loadA rfl (gi_getR (Sh2.r1 hs) (go_loadI rfl (go_pushI rfl (go_ishr (iShr_6 h2.1.1) (gi_lald (inl_ (Sh2.l1 hs) h2.1.2.1) (go_loadI rfl (go_pushI rfl (go_iand (iAnd_m63 _) (go_lushr (lUshr_v h2.1.2.2) (go_pushL rfl (go_land (go_pushL rfl (go_lcmp rfl (go_lif_eq (fun e6 => have h4 := h2.2.1 e6; (go_iinc rfl h4.1 rfl (go_goto (h4.2)))) (fun e6 => have h5 := h2.2.2 e6; (go_loadA rfl (go_loadI rfl (Exists.elim h5 fun f7 w10 => Exists.elim w10 fun g8 h9 => (go_callS rfl rfl rfl h9.1 (go_fall (go_iinc rfl h9.2.1 rfl (go_goto (h9.2.2)))))))))))))))))))))))))))))
theorem bk_X2_close_48 {σ : St} {f : FI} {g : FL} {x1 : Nat} {x2 : Int} {r : St × List Vl}  (h : ((512 ≤ x2 → (r = ((il σ f g), []))) ∧ (¬ 512 ≤ x2 → (∃ (f4 : FI) (g5 : FL), Ex mt 0 23 (il σ f g) [vR 15 (some x1), vI x2, vI x2] ((il σ f4 g5), []) ∧ ((-2147483648 ≤ (x2 + 1) ∧ (x2 + 1) ≤ 2147483647)) ∧ (A_X2_close_48 σ f4 g5 x1 (x2 + 1) r))))) : A_X2_close_48 σ f g x1 x2 r := fun y0 => (show Gx mt 2 cd_X2_close (il σ f g) b_X2_close_48 [some (vR 2 y0), some (vR 15 (some x1)), some (vI x2)] [] r from (go_loadI rfl (go_pushI rfl (gq_icmp_ge (fun e3 => have h1 := h.1 e3; (h1 ▸ gq_retV)) (fun e3 => have h2 := h.2 e3; (go_loadA rfl (go_loadI rfl (go_loadI rfl (Exists.elim h2 fun f4 w7 => Exists.elim w7 fun g5 h6 => (go_callS rfl rfl rfl h6.1 (go_iinc rfl h6.2.1 rfl (go_goto (h6.2.2 _)))))))))))))
theorem bk_X2_joinTop_0 {σ : St} {f : FI} {g : FL} {a : Nat} {x1 : Int} {r : St × List Vl} (hs : Sh2 σ a) (h : ((2 ≤ (f a 2) → ((-2147483648 ≤ ((f a 2) - 1) ∧ ((f a 2) - 1) ≤ 2147483647)) ∧ ((¬ x1 = 6 → ((-2147483648 ≤ (((f a 2) - 1) - 1) ∧ (((f a 2) - 1) - 1) ≤ 2147483647) ∧ (0 ≤ (((f a 2) - 1) - 1) ∧ (((f a 2) - 1) - 1) < 20)) ∧ (∃ q7, gR σ (a + 1) (((((f a 2) - 1) - 1)).toNat) = some q7 ∧ ((0 ≤ ((f a 2) - 1) ∧ ((f a 2) - 1) < 20)) ∧ (∃ q9, gR σ (a + 1) ((((f a 2) - 1)).toNat) = some q9 ∧ (∃ (f11 : FI) (g12 : FL), Ex mt 0 24 (il σ (up2 f a 2 ((f a 2) - 1)) g) [vR 15 (some q7), vR 15 (some q9)] ((il σ f11 g12), []) ∧ (r = ((il σ f11 g12), [])))))) ∧ (x1 = 6 → ((-2147483648 ≤ (((f a 2) - 1) - 1) ∧ (((f a 2) - 1) - 1) ≤ 2147483647) ∧ (0 ≤ (((f a 2) - 1) - 1) ∧ (((f a 2) - 1) - 1) < 20)) ∧ (∃ q15, gR σ (a + 1) (((((f a 2) - 1) - 1)).toNat) = some q15 ∧ ((0 ≤ ((f a 2) - 1) ∧ ((f a 2) - 1) < 20)) ∧ (∃ q17, gR σ (a + 1) ((((f a 2) - 1)).toNat) = some q17 ∧ (∃ (f19 : FI) (g20 : FL), Ex mt 3 25 (il σ (up2 f a 2 ((f a 2) - 1)) g) [vR 2 (some a), vR 15 (some q15), vR 15 (some q17)] ((il σ f19 g20), []) ∧ (r = ((il σ f19 g20), [])))))))) ∧ (¬ 2 ≤ (f a 2) → (r = ((il σ f g), []))))) : Ex mt 4 21 (il σ f g) [vR 2 (some a), vI x1] r := Ex.mk mt_21 (show Gx mt 4 cd_X2_joinTop (il σ f g) b_X2_joinTop_0 [some (vR 2 (some a)), some (vI x1)] [] r from (go_loadA rfl (gi_getI (go_pushI rfl (gq_icmp_ge (fun e3 => have h1 := h.1 e3; (go_loadA rfl (go_dupA (gi_getI (go_pushI rfl (go_isub h1.1 (gi_putI (go_loadI rfl (go_pushI rfl (gq_icmp_ne (fun e6 => have h4 := h1.2.1 e6; (go_loadA rfl (gi_getR (Sh2.r0 hs) (go_loadA rfl (gi_getIe u2_s (go_pushI rfl (go_isub h4.1.1 (Exists.elim h4.2 fun q7 h8 => (gi_aald (inl_ (Sh2.l0 hs) h4.1.2) h8.1 (go_loadA rfl (gi_getR (Sh2.r0 hs) (go_loadA rfl (gi_getIe u2_s (Exists.elim h8.2.2 fun q9 h10 => (gi_aald (inl_ (Sh2.l0 hs) h8.2.1) h10.1 (Exists.elim h10.2 fun f11 w14 => Exists.elim w14 fun g12 h13 => (go_callS rfl rfl rfl h13.1 (go_fall (h13.2 ▸ gq_retV))))))))))))))))))) (fun e6 => have h5 := h1.2.2 e6; (go_loadA rfl (go_loadA rfl (gi_getR (Sh2.r0 hs) (go_loadA rfl (gi_getIe u2_s (go_pushI rfl (go_isub h5.1.1 (Exists.elim h5.2 fun q15 h16 => (gi_aald (inl_ (Sh2.l0 hs) h5.1.2) h16.1 (go_loadA rfl (gi_getR (Sh2.r0 hs) (go_loadA rfl (gi_getIe u2_s (Exists.elim h16.2.2 fun q17 h18 => (gi_aald (inl_ (Sh2.l0 hs) h16.2.1) h18.1 (Exists.elim h18.2 fun f19 w22 => Exists.elim w22 fun g20 h21 => (go_callV rfl rfl rfl h21.1 (go_goto (h21.2 ▸ gq_retV)))))))))))))))))))))))))))))) (fun e3 => have h2 := h.2 e3; (h2 ▸ gq_retV)))))))
def bt (W : Nat → BitVec 64) (p q : Nat) : Prop := (W (8 * p + q / 64)).getLsbD (q % 64) = true
def Is (W : Nat → BitVec 64) (R : Nat → Nat → Prop) : Prop := ∀ p q, p < 512 → q < 512 → (bt W p q ↔ R p q)
theorem Is.ext {W W' : Nat → BitVec 64} {R : Nat → Nat → Prop} (h : Is W R) (h' : Is W' R) : ∀ i, i < 4096 → W i = W' i := fun i hi =>
  BitVec.eq_of_getLsbD_eq fun j hj => by
    have a := h (i / 8) (64 * (i % 8) + j) (by omega) (by omega)
    have b := h' (i / 8) (64 * (i % 8) + j) (by omega) (by omega)
    unfold bt at a b
    rw [show 8 * (i / 8) + (64 * (i % 8) + j) / 64 = i by omega, show (64 * (i % 8) + j) % 64 = j by omega] at a b
    exact Bool.eq_iff_iff.mpr (a.trans b.symm)
theorem Is.cg {W W' : Nat → BitVec 64} {R : Nat → Nat → Prop} (h : Is W R) (e : ∀ i, i < 4096 → W' i = W i) : Is W' R := fun p q hp hq => by
  unfold bt
  rw [e _ (by omega)]
  exact h p q hp hq
theorem row_bt {W W' V : Nat → BitVec 64} {p0 b : Nat} (h : ∀ k, W' k = if 8 * p0 ≤ k ∧ k < 8 * p0 + 8 then W k ||| V (8 * b + (k - 8 * p0)) else W k) {p q : Nat} (hq : q < 512) : bt W' p q ↔ bt W p q ∨ (p = p0 ∧ bt V b q) := by
  unfold bt
  rw [h]
  by_cases e : p = p0
  · subst e
    rw [if_pos (by omega), BitVec.getLsbD_or, Bool.or_eq_true, show 8 * b + (8 * p + q / 64 - 8 * p) = 8 * b + q / 64 by omega]
    exact or_congr Iff.rfl ⟨fun z => ⟨rfl, z⟩, fun z => z.2⟩
  · rw [if_neg (by omega)]
    exact ⟨Or.inl, fun z => z.elim id fun z => absurd z.1 e⟩
theorem mark_bt {W W' : Nat → BitVec 64} {p0 m : Nat} (hm : m < 512) (h : ∀ k, W' k = if k = 8 * p0 + m / 64 then W k ||| (1#64 <<< (m % 64)) else W k) {p q : Nat} (hq : q < 512) : bt W' p q ↔ bt W p q ∨ (p = p0 ∧ q = m) := by
  unfold bt
  rw [h]
  by_cases e : 8 * p + q / 64 = 8 * p0 + m / 64
  · rw [if_pos e, orb (by omega), Bool.or_eq_true, decide_eq_true_iff]
    exact or_congr Iff.rfl ⟨fun z => ⟨by omega, by omega⟩, fun z => by omega⟩
  · rw [if_neg e]
    exact ⟨Or.inl, fun z => z.elim id fun z => absurd (by rw [z.1, z.2]) e⟩
/-- no cell but this one was changed -/
def Fo (c : Nat) (g g' : FL) : Prop := ∀ b, b ≠ c → g' b = g b
theorem Fo.rfl' {c : Nat} {g : FL} : Fo c g g := fun _ _ => rfl
theorem Fo.up {c k : Nat} {g g' : FL} {v : BitVec 64} (h : Fo c g g') : Fo c g (up2 g' c k v) := fun b hb => by
  rw [← h b hb]
  exact funext fun j => u2_a hb
theorem Fo.tr {c : Nat} {g g1 g2 : FL} (h : Fo c g g1) (h2 : Fo c g1 g2) : Fo c g g2 := fun b hb => (h2 b hb).trans (h b hb)
theorem up2_if {g : FL} {c k : Nat} {v : BitVec 64} (j : Nat) : up2 g c k v c j = if j = k then v else g c j := by
  by_cases e : j = k
  · rw [if_pos e, e, u2_s]
  · rw [if_neg e, u2_i e]
theorem x_mark {σ : St} {f : FI} {g : FL} {c p m : Nat} (hl : ln σ c = 4096) (hp : p < 512) (hm : m < 512) : ∃ g' : FL, Ex mt 0 23 (il σ f g) [vR 15 (some c), vI (p : Int), vI (m : Int)] (il σ f g', []) ∧ Fo c g g' ∧ ∀ p' q, q < 512 → (bt (g' c) p' q ↔ bt (g c) p' q ∨ (p' = p ∧ q = m)) := by
  have e1 : ((p : Int) * 8 + (m : Int) / 64).toNat = 8 * p + m / 64 := by omega
  have e2 : ((m : Int) % 64).toNat = m % 64 := by omega
  refine ⟨up2 g c (8 * p + m / 64) (g c (8 * p + m / 64) ||| (1#64 <<< (m % 64))), bk_X2_mark_0 ?_, Fo.rfl'.up, fun p' q hq => mark_bt hm (fun k => ?_) hq⟩
  · rw [e1, e2, hl]
    exact ⟨⟨by omega, by omega, by omega, by omega, by omega⟩, rfl⟩
  · rw [up2_if]
    by_cases e : k = 8 * p + m / 64
    · rw [if_pos e, if_pos e, e]
    · rw [if_neg e, if_neg e]
/-- what an atom makes -/
def At (k f v : Int) (p q : Nat) : Prop := (k = 1 ∧ q = p) ∨ (k = 2 ∧ vO (p : Int) f = v ∧ q = p) ∨ (k = 3 ∧ ¬ vO (p : Int) f = v ∧ q = p) ∨ (k = 4 ∧ (q : Int) = chg (p : Int) f v)
theorem chg_512 {p f v : Int} (hp : 0 ≤ p ∧ p < 512) (hf : 0 ≤ f ∧ f < 4) (hv : 0 ≤ v ∧ v < 8) (hx : f = 3 ∨ v < 4) : 0 ≤ chg p f v ∧ chg p f v < 512 := by
  by_cases e : f = 3
  · subst e
    unfold chg
    rw [if_neg (by decide), if_neg (by decide), if_neg (by decide)]
    omega
  · exact (chg_rg hp (by omega) (by omega)).1
theorem x_fillAtom {σ : St} {f : FI} {g : FL} {c : Nat} {k fl v : Int} (hS : Stat σ f) (hl : ln σ c = 4096) (hk : 0 ≤ k ∧ k ≤ 4) (hf : 0 ≤ fl ∧ fl < 4) (hv : 0 ≤ v ∧ v < 8) (hx : fl = 3 ∨ v < 4) : ∃ g' : FL, Ex mt 1 22 (il σ f g) [vR 15 (some c), vI k, vI fl, vI v] (il σ f g', []) ∧ Fo c g g' ∧ ∀ p q, p < 512 → q < 512 → (bt (g' c) p q ↔ bt (g c) p q ∨ At k fl v p q) := by
  by_cases k0 : k = 0
  · exact ⟨g, bk_X2_fillAtom_0 ⟨fun y => absurd k0 y, fun _ => rfl⟩, Fo.rfl', fun p q _ _ => ⟨Or.inl, fun z => z.elim id fun z => by unfold At at z; omega⟩⟩
  · have loop : ∀ n i : Nat, i + n = 512 → ∀ gi : FL, Fo c g gi → (∀ p q, p < 512 → q < 512 → (bt (gi c) p q ↔ bt (g c) p q ∨ (p < i ∧ At k fl v p q))) → ∃ g' : FL, A_X2_fillAtom_8 σ f gi c k fl v (i : Int) (il σ f g', []) ∧ Fo c g g' ∧ ∀ p q, p < 512 → q < 512 → (bt (g' c) p q ↔ bt (g c) p q ∨ At k fl v p q) := by
      intro n
      induction n with
      | zero =>
        intro i hi gi hF hI
        obtain rfl : i = 512 := hi
        exact ⟨gi, bk_X2_fillAtom_8 ⟨fun _ => rfl, fun y => absurd (by decide) y⟩, hF, fun p q hp hq => (hI p q hp hq).trans (or_congr Iff.rfl ⟨fun z => z.2, fun z => ⟨hp, z⟩⟩)⟩
      | succ n ih =>
        intro i hi gi hF hI
        have step : (∃ m, m < 512 ∧ (∀ q, q < 512 → (At k fl v i q ↔ q = m)) ∧ ∀ (g1 : FL), Ex mt 0 23 (il σ f gi) [vR 15 (some c), vI (i : Int), vI (m : Int)] (il σ f g1, []) → ∀ r, A_X2_fillAtom_8 σ f g1 c k fl v ((i : Int) + 1) r → A_X2_fillAtom_8 σ f gi c k fl v (i : Int) r) ∨ ((∀ q, q < 512 → ¬ At k fl v i q) ∧ ∀ r, A_X2_fillAtom_8 σ f gi c k fl v ((i : Int) + 1) r → A_X2_fillAtom_8 σ f gi c k fl v (i : Int) r) := by
          by_cases k4 : k = 4
          · have cr := chg_512 (p := (i : Int)) (by omega) hf hv hx
            obtain ⟨m, em⟩ := Int.eq_ofNat_of_zero_le cr.1
            refine Or.inl ⟨m, by omega, fun q hq => ⟨fun z => by unfold At at z; omega, fun z => Or.inr (Or.inr (Or.inr ⟨k4, by omega⟩))⟩, fun g1 E r A => bk_X2_fillAtom_8 ⟨fun y => absurd y (by omega), fun _ => ⟨⟨hS, by omega, by omega⟩, fun _ => ⟨fun y => absurd k4 y, fun _ => ⟨⟨hS, by omega, by omega, by omega, by omega⟩, f, g1, ?_, by omega, A⟩⟩, fun _ => ⟨fun y => absurd k4 y, fun _ => ⟨⟨hS, by omega, by omega, by omega, by omega⟩, f, g1, ?_, by omega, A⟩⟩⟩⟩⟩
            · rw [em]
              exact E
            · rw [em]
              exact E
          · by_cases k1 : k = 1
            · exact Or.inl ⟨i, by omega, fun q hq => ⟨fun z => by unfold At at z; omega, fun z => Or.inl ⟨k1, z⟩⟩, fun g1 E r A => bk_X2_fillAtom_8 ⟨fun y => absurd y (by omega), fun _ => ⟨⟨hS, by omega, by omega⟩, fun _ => ⟨fun _ => ⟨fun _ => ⟨f, g1, E, by omega, A⟩, fun y => absurd k1 y⟩, fun y => absurd y k4⟩, fun _ => ⟨fun _ => ⟨fun _ => ⟨f, g1, E, by omega, A⟩, fun y => absurd k1 y⟩, fun y => absurd y k4⟩⟩⟩⟩
            · by_cases k2 : k = 2
              · by_cases e : vO (i : Int) fl = v
                · exact Or.inl ⟨i, by omega, fun q hq => ⟨fun z => by unfold At at z; omega, fun z => Or.inr (Or.inl ⟨k2, e, z⟩)⟩, fun g1 E r A => bk_X2_fillAtom_8 ⟨fun y => absurd y (by omega), fun _ => ⟨⟨hS, by omega, by omega⟩, fun y => absurd e y, fun _ => ⟨fun _ => ⟨fun y => absurd y k1, fun _ => ⟨fun y => absurd k2 y, fun _ => ⟨f, g1, E, by omega, A⟩⟩⟩, fun y => absurd y k4⟩⟩⟩⟩
                · exact Or.inr ⟨fun q hq z => by unfold At at z; omega, fun r A => bk_X2_fillAtom_8 ⟨fun y => absurd y (by omega), fun _ => ⟨⟨hS, by omega, by omega⟩, fun _ => ⟨fun _ => ⟨fun y => absurd y k1, fun _ => ⟨fun y => absurd k2 y, fun _ => ⟨by omega, A⟩⟩⟩, fun y => absurd y k4⟩, fun y => absurd y e⟩⟩⟩
              · by_cases e : vO (i : Int) fl = v
                · exact Or.inr ⟨fun q hq z => by unfold At at z; omega, fun r A => bk_X2_fillAtom_8 ⟨fun y => absurd y (by omega), fun _ => ⟨⟨hS, by omega, by omega⟩, fun y => absurd e y, fun _ => ⟨fun _ => ⟨fun y => absurd y k1, fun _ => ⟨fun _ => ⟨by omega, A⟩, fun y => absurd y k2⟩⟩, fun y => absurd y k4⟩⟩⟩⟩
                · exact Or.inl ⟨i, by omega, fun q hq => ⟨fun z => by unfold At at z; omega, fun z => Or.inr (Or.inr (Or.inl ⟨by omega, e, z⟩))⟩, fun g1 E r A => bk_X2_fillAtom_8 ⟨fun y => absurd y (by omega), fun _ => ⟨⟨hS, by omega, by omega⟩, fun _ => ⟨fun _ => ⟨fun y => absurd y k1, fun _ => ⟨fun _ => ⟨f, g1, E, by omega, A⟩, fun y => absurd y k2⟩⟩, fun y => absurd y k4⟩, fun y => absurd y e⟩⟩⟩
        have e1 : (i : Int) + 1 = ((i + 1 : Nat) : Int) := by omega
        rcases step with ⟨m, hm, hA, K⟩ | ⟨hA, K⟩
        · obtain ⟨g1, E, F1, B1⟩ := x_mark (σ := σ) (f := f) (g := gi) (c := c) (p := i) (m := m) hl (by omega) hm
          obtain ⟨g', A, G1, G2⟩ := ih (i + 1) (by omega) g1 (hF.tr F1) (fun p q hp hq => by
            rw [B1 p q hq, hI p q hp hq]
            constructor
            · rintro ((z | z) | z)
              · exact Or.inl z
              · exact Or.inr ⟨by omega, z.2⟩
              · exact Or.inr ⟨by omega, by rw [z.1]; exact (hA q hq).mpr z.2⟩
            · rintro (z | ⟨z1, z2⟩)
              · exact Or.inl (Or.inl z)
              · by_cases e : p = i
                · rw [e] at z2
                  exact Or.inr ⟨e, (hA q hq).mp z2⟩
                · exact Or.inl (Or.inr ⟨by omega, z2⟩))
          exact ⟨g', K g1 E _ (by rw [e1]; exact A), G1, G2⟩
        · obtain ⟨g', A, G1, G2⟩ := ih (i + 1) (by omega) gi hF (fun p q hp hq => by
            rw [hI p q hp hq]
            constructor
            · rintro (z | z)
              · exact Or.inl z
              · exact Or.inr ⟨by omega, z.2⟩
            · rintro (z | ⟨z1, z2⟩)
              · exact Or.inl z
              · by_cases e : p = i
                · rw [e] at z2
                  exact absurd z2 (hA q hq)
                · exact Or.inr ⟨by omega, z2⟩)
          exact ⟨g', K _ (by rw [e1]; exact A), G1, G2⟩
    obtain ⟨g', A, G1, G2⟩ := loop 512 0 rfl g Fo.rfl' (fun p q _ _ => ⟨Or.inl, fun z => z.elim id fun z => absurd z.1 (Nat.not_lt_zero _)⟩)
    exact ⟨g', bk_X2_fillAtom_0 ⟨fun _ => A, fun y => absurd y k0⟩, G1, G2⟩
theorem x_unite {σ : St} {f : FI} {g : FL} {c d : Nat} (hc : ln σ c = 4096) (hd : ln σ d = 4096) (hne : c ≠ d) : ∃ g' : FL, Ex mt 0 24 (il σ f g) [vR 15 (some c), vR 15 (some d)] (il σ f g', []) ∧ Fo c g g' ∧ ∀ p q, p < 512 → q < 512 → (bt (g' c) p q ↔ bt (g c) p q ∨ bt (g d) p q) := by
  have loop : ∀ n i : Nat, i + n = 4096 → ∀ gi : FL, Fo c g gi → (∀ k, gi c k = if k < i then g c k ||| g d k else g c k) → ∃ g' : FL, A_X2_unite_2 σ f gi c d (i : Int) (il σ f g', []) ∧ Fo c g g' ∧ ∀ k, k < 4096 → g' c k = g c k ||| g d k := by
    intro n
    induction n with
    | zero =>
      intro i hi gi hF hI
      obtain rfl : i = 4096 := hi
      exact ⟨gi, bk_X2_unite_2 ⟨fun _ => rfl, fun y => absurd (by decide) y⟩, hF, fun k hk => by rw [hI k, if_pos hk]⟩
    | succ n ih =>
      intro i hi gi hF hI
      obtain ⟨g', A, G1, G2⟩ := ih (i + 1) (by omega) (up2 gi c i (gi c i ||| gi d i)) hF.up (fun k => by
        rw [up2_if, hI, hI, hF d (fun z => hne z.symm)]
        by_cases e : k = i
        · rw [if_pos e, if_neg (by omega), if_pos (by omega), e]
        · rw [if_neg e]
          by_cases e2 : k < i
          · rw [if_pos e2, if_pos (by omega)]
          · rw [if_neg e2, if_neg (by omega)])
      refine ⟨g', bk_X2_unite_2 ⟨fun y => absurd y (by omega), fun _ => ?_⟩, G1, G2⟩
      rw [hc, hd, show ((i : Int)).toNat = i from rfl, show (i : Int) + 1 = ((i + 1 : Nat) : Int) by omega]
      exact ⟨⟨by omega, by omega, by omega⟩, A⟩
  obtain ⟨g', A, G1, G2⟩ := loop 4096 0 rfl g Fo.rfl' (fun k => by rw [if_neg (Nat.not_lt_zero k)])
  refine ⟨g', bk_X2_unite_0 A, G1, fun p q hp hq => ?_⟩
  unfold bt
  rw [G2 _ (by omega), BitVec.getLsbD_or, Bool.or_eq_true]
/-- a row of one array is added to a row of another, word by word -/
theorem orw {W V : Nat → BitVec 64} {s r i : Nat} {Wi : Nat → BitVec 64} (hI : ∀ k, Wi k = if s ≤ k ∧ k < s + i then W k ||| V (r + (k - s)) else W k) {x : BitVec 64} (hx : x = Wi (s + i) ||| V (r + i)) (k : Nat) : (if k = s + i then x else Wi k) = if s ≤ k ∧ k < s + (i + 1) then W k ||| V (r + (k - s)) else W k := by
  by_cases e : k = s + i
  · rw [if_pos e, if_pos (by omega), hx, hI, if_neg (by omega), e, show s + i - s = i by omega]
  · rw [if_neg e, hI]
    by_cases e2 : s ≤ k ∧ k < s + i
    · rw [if_pos e2, if_pos (by omega)]
    · rw [if_neg e2, if_neg (by omega)]
theorem x_addRows {σ : St} {f : FI} {g : FL} {a c o : Nat} {X : BitVec 64} (hs : Sh2 σ a) (hc : ln σ c = 4096) (hac : a + 22 ≠ c) (ho : o < 8) : ∃ g' : FL, Ex mt 2 26 (il σ f g) [vR 2 (some a), vL X, vI (o : Int), vR 15 (some c)] (il σ f g', []) ∧ Fo (a + 22) g g' ∧ ∀ q, q < 512 → (bt (g' (a + 22)) 0 q ↔ bt (g (a + 22)) 0 q ∨ ∃ t, t < 64 ∧ X.getLsbD t = true ∧ bt (g c) (64 * o + t) q) := by
  have inner : ∀ (b : Nat), b < 512 → ∀ (x : BitVec 64) (x7 : Int) (gj : FL), Fo (a + 22) g gj → ∀ n i : Nat, i + n = 8 → ∀ gi : FL, Fo (a + 22) g gi → (∀ k, gi (a + 22) k = if 0 ≤ k ∧ k < 0 + i then gj (a + 22) k ||| g c (8 * b + (k - 0)) else gj (a + 22) k) → (-2147483648 ≤ x7 + -1 ∧ x7 + -1 ≤ 2147483647) → ∃ g1 : FL, Fo (a + 22) g g1 ∧ (∀ q, q < 512 → (bt (g1 (a + 22)) 0 q ↔ bt (gj (a + 22)) 0 q ∨ bt (g c) b q)) ∧ ∀ r, A_X2_addRows_9 σ f g1 a (o : Int) c (x &&& (x - 1#64)) (x7 + -1) r → A_X2_addRows_32 σ f gi a (o : Int) c x x7 ((8 * b : Nat) : Int) (i : Int) r := by
    intro b hb x x7 gj hFj n
    induction n with
    | zero =>
      intro i hi gi hF hI hr
      obtain rfl : i = 8 := hi
      refine ⟨gi, hF, fun q hq => ?_, fun r A => bk_X2_addRows_32 hs ⟨fun _ => ⟨hr, A⟩, fun y => absurd (by decide) y⟩⟩
      have := row_bt (W := gj (a + 22)) (W' := gi (a + 22)) (V := g c) (p0 := 0) (b := b) (fun k => by rw [hI k]) (p := 0) hq
      rw [this]
      exact or_congr Iff.rfl ⟨fun z => z.2, fun z => ⟨rfl, z⟩⟩
    | succ n ih =>
      intro i hi gi hF hI hr
      obtain ⟨g1, H1, H2, H3⟩ := ih (i + 1) (by omega) (up2 gi (a + 22) i (gi (a + 22) i ||| g c (8 * b + i))) hF.up (fun k => by
        rw [up2_if]
        have := orw (s := 0) (r := 8 * b) (i := i) (W := gj (a + 22)) (V := g c) (Wi := gi (a + 22)) hI (x := gi (a + 22) i ||| g c (8 * b + i)) (by rw [Nat.zero_add]) k
        rw [Nat.zero_add] at this
        rw [this]) hr
      refine ⟨g1, H1, H2, fun r A => bk_X2_addRows_32 hs ⟨fun y => absurd y (by omega), fun _ => ?_⟩⟩
      have e : (((8 * b : Nat) : Int) + (i : Int)).toNat = 8 * b + i := by omega
      rw [hc, e, show ((i : Int)).toNat = i from rfl, hF c (fun z => hac z.symm), show (i : Int) + 1 = ((i + 1 : Nat) : Int) by omega]
      exact ⟨⟨by omega, by omega, by omega, by omega⟩, H3 r A⟩
  have loop : ∀ (n : Nat) (x : BitVec 64), pc x = n → ∀ gi : FL, Fo (a + 22) g gi → ∃ g' : FL, A_X2_addRows_9 σ f gi a (o : Int) c x (n : Int) (il σ f g', []) ∧ Fo (a + 22) g g' ∧ ∀ q, q < 512 → (bt (g' (a + 22)) 0 q ↔ bt (gi (a + 22)) 0 q ∨ ∃ t, t < 64 ∧ x.getLsbD t = true ∧ bt (g c) (64 * o + t) q) := by
    intro n
    induction n with
    | zero =>
      intro x hx gi hF
      refine ⟨gi, bk_X2_addRows_9 hs ⟨fun _ => rfl, fun y => absurd (by decide) y⟩, hF, fun q hq => ⟨Or.inl, fun z => z.elim id fun ⟨t, t1, t2, _⟩ => ?_⟩⟩
      have x0 : x = 0#64 := by
        by_cases e : x = 0#64
        · exact e
        · have := pc_clr e
          omega
      rw [x0] at t2
      simp at t2
    | succ n ih =>
      intro x hx gi hF
      have hne : ¬ x = 0#64 := fun e => by
        have : pc (0#64) = 0 := by decide +kernel
        rw [e, this] at hx
        omega
      obtain ⟨l, l1, l2, l3⟩ := low_ex hne
      have lb := low_B l1 l2 l3
      have le := pc_le x
      obtain ⟨g1, H1, H2, H3⟩ := inner (64 * o + l) (by omega) x ((n + 1 : Nat) : Int) gi hF 8 0 rfl gi hF (fun k => by rw [if_neg (by omega)]) (by omega)
      obtain ⟨g', A, G1, G2⟩ := ih (x &&& (x - 1#64)) (by have := pc_clr hne; omega) g1 H1
      refine ⟨g', bk_X2_addRows_9 hs ⟨fun y => absurd y (by omega), fun _ => ?_⟩, G1, fun q hq => ?_⟩
      · rw [lb]
        have := H3 _ (by rw [show ((n + 1 : Nat) : Int) + -1 = (n : Int) by omega]; exact A)
        rw [show ((8 * (64 * o + l) : Nat) : Int) = ((o : Int) * 64 + (l : Int)) * 8 by omega] at this
        exact ⟨⟨by omega, by omega, by omega⟩, this⟩
      · rw [G2 q hq, H2 q hq]
        constructor
        · rintro ((z | z) | ⟨t, t1, t2, t3⟩)
          · exact Or.inl z
          · exact Or.inr ⟨l, l1, l2, z⟩
          · rw [low_clr l1 l2 l3] at t2
            by_cases e : t = l
            · rw [if_pos e] at t2
              exact absurd t2 (by decide)
            · rw [if_neg e] at t2
              exact Or.inr ⟨t, t1, t2, t3⟩
        · rintro (z | ⟨t, t1, t2, t3⟩)
          · exact Or.inl (Or.inl z)
          · by_cases e : t = l
            · rw [e] at t3
              exact Or.inl (Or.inr t3)
            · refine Or.inr ⟨t, t1, ?_, t3⟩
              rw [low_clr l1 l2 l3, if_neg e]
              exact t2
  obtain ⟨g', A, G1, G2⟩ := loop (pc X) X rfl g Fo.rfl'
  exact ⟨g', bk_X2_addRows_0 hs A, G1, G2⟩
