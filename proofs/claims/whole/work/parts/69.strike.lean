/-! worst: the class strikes -/
def A_X6_countHit_12 (σ : St) (f : FI) (g : FL) (n : Nat) (x1 : Int) (x2 : Int) (x3 : Int) (r : St × List Vl) : Prop := ∀ (y4 : Option Vl) (y5 : Option Vl) (y6 : Option Vl), Gx mt 2 cd_X6_countHit (il σ f g) (cd_X6_countHit 12) [some (vR 6 (some (n + 111))), some (vI x1), some (vI x2), some (vI x3), y4, y5, y6] [] r
def A_X6_countHit_50 (σ : St) (f : FI) (g : FL) (n : Nat) (x1 : Int) (x2 : Int) (x3 : Int) (x4 : BitVec 64) (x6 : Int) (r : St × List Vl) : Prop := Gx mt 2 cd_X6_countHit (il σ f g) (cd_X6_countHit 50) [some (vR 6 (some (n + 111))), some (vI x1), some (vI x2), some (vI x3), some (vL x4), none, some (vI x6)] [] r
theorem bk_X6_countHit_0 {σ : St} {f : FI} {g : FL} {n : Nat} {x1 : Int} {r : St × List Vl} (hs : Sh6 σ n) (h : (∃ (f1 : FI) (g2 : FL), Ex mt 0 315 (il σ f g) [vR 14 (some (n + 114)), vI 0] ((il σ f1 g2), []) ∧ (A_X6_countHit_12 σ f1 g2 n x1 0 0 r))) : Ex mt 2 94 (il σ f g) [vR 6 (some (n + 111)), vI x1] r := Ex.mk mt_94 (show Gx mt 2 cd_X6_countHit (il σ f g) b_X6_countHit_0 [some (vR 6 (some (n + 111))), some (vI x1), none, none, none, none, none] [] r from (go_loadA rfl (gi_getR (Sh6.r6 hs) (go_pushI rfl (Exists.elim h fun f1 w4 => Exists.elim w4 fun g2 h3 => (go_callS rfl rfl rfl h3.1 (go_pushI rfl (go_stoI rfl rfl (go_pushI rfl (go_stoI rfl rfl (go_fall (h3.2 _ _ _))))))))))))
theorem bk_X6_countHit_12 {σ : St} {f : FI} {g : FL} {n : Nat} {x1 : Int} {x2 : Int} {x3 : Int} {r : St × List Vl} (hs : Sh6 σ n) (h : (((f (n + 111) 5) ≤ x3 → (r = ((il σ f g), [vI x2]))) ∧ (¬ (f (n + 111) 5) ≤ x3 → ((0 ≤ x3 ∧ x3 < 512) ∧ (0 ≤ x1 ∧ x1 < 64)) ∧ ((¬ ((lB (g (n + 113) ((x3).toNat)) x1)) → (A_X6_countHit_50 σ f g n x1 x2 x3 (g (n + 113) ((x3).toNat)) (pc (g (n + 113) ((x3).toNat)) : Int) r)) ∧ (((lB (g (n + 113) ((x3).toNat)) x1)) → ((-2147483648 ≤ (x2 + 1) ∧ (x2 + 1) ≤ 2147483647)) ∧ ((-2147483648 ≤ (x3 + 1) ∧ (x3 + 1) ≤ 2147483647)) ∧ (A_X6_countHit_12 σ f g n x1 (x2 + 1) (x3 + 1) r)))))) : A_X6_countHit_12 σ f g n x1 x2 x3 r := fun y4 y5 y6 => (show Gx mt 2 cd_X6_countHit (il σ f g) b_X6_countHit_12 [some (vR 6 (some (n + 111))), some (vI x1), some (vI x2), some (vI x3), y4, y5, y6] [] r from (go_loadI rfl (go_loadA rfl (gi_getI (gq_icmp_ge (fun e3 => have h1 := h.1 e3; (go_loadI rfl (h1 ▸ gq_retI))) (fun e3 => have h2 := h.2 e3; (go_loadA rfl (gi_getR (Sh6.r4 hs) (go_loadI rfl (gi_lald (inl_ (Sh6.l4 hs) h2.1.1) (go_stoL rfl rfl (go_loadL rfl (go_loadI rfl (go_callS rfl rfl rfl (pu_isAmong h2.1.2) (go_ifb_eq (fun e6 => have h4 := h2.2.1 e6; (go_loadL rfl (go_callS rfl rfl rfl (pu_bitCountL) (go_stoI rfl rfl (go_fall (h4)))))) (fun e6 => have h5 := h2.2.2 e6; (go_iinc rfl h5.1 rfl (go_goto (go_iinc rfl h5.2.1 rfl (go_goto (h5.2.2 _ _ _)))))))))))))))))))))
theorem bk_X6_countHit_50 {σ : St} {f : FI} {g : FL} {n : Nat} {x1 : Int} {x2 : Int} {x3 : Int} {x4 : BitVec 64} {x6 : Int} {r : St × List Vl} (hs : Sh6 σ n) (h : ((x6 ≤ 0 → ((-2147483648 ≤ (x3 + 1) ∧ (x3 + 1) ≤ 2147483647)) ∧ (A_X6_countHit_12 σ f g n x1 x2 (x3 + 1) r)) ∧ (¬ x6 ≤ 0 → ((0 ≤ (lowB x4) ∧ (lowB x4) < 64) ∧ (-2147483648 ≤ ((f (n + 114) (((lowB x4)).toNat)) + 1) ∧ ((f (n + 114) (((lowB x4)).toNat)) + 1) ≤ 2147483647) ∧ (-2147483648 ≤ (x6 + (-1)) ∧ (x6 + (-1)) ≤ 2147483647)) ∧ (A_X6_countHit_50 σ (up2 f (n + 114) (((lowB x4)).toNat) ((f (n + 114) (((lowB x4)).toNat)) + 1)) g n x1 x2 x3 (x4 &&& (x4 - (1#64))) (x6 + (-1)) r)))) : A_X6_countHit_50 σ f g n x1 x2 x3 x4 x6 r := (show Gx mt 2 cd_X6_countHit (il σ f g) b_X6_countHit_50 [some (vR 6 (some (n + 111))), some (vI x1), some (vI x2), some (vI x3), some (vL x4), none, some (vI x6)] [] r from (go_loadI rfl (gq_if_le (fun e3 => have h1 := h.1 e3; (go_iinc rfl h1.1 rfl (go_goto (h1.2 _ _ _)))) (fun e3 => have h2 := h.2 e3; (go_loadA rfl (gi_getR (Sh6.r6 hs) (go_loadL rfl (go_callS rfl rfl rfl (pu_lowestBit) (go_dup2 (gi_iald (inl_ (Sh6.l6 hs) h2.1.1) (go_pushI rfl (go_iadd h2.1.2.1 (gi_iast (inl_ (Sh6.l6 hs) h2.1.1) (go_loadL rfl (go_loadL rfl (go_pushL rfl (go_lsub (go_land (go_stoL rfl rfl (go_iinc rfl h2.1.2.2 rfl (go_goto (h2.2))))))))))))))))))))))
theorem bk_X6_consider_0 {σ : St} {f : FI} {g : FL} {n : Nat} {x1 : Int} {x2 : Int} {x3 : Int} {r : St × List Vl} (hs : Sh6 σ n) (h : ((x1 ≤ (f (n + 111) 3) → (r = ((il σ f g), []))) ∧ (¬ x1 ≤ (f (n + 111) 3) → (r = ((il σ (up2 (up2 (up2 f (n + 111) 3 x1) (n + 112) 0 x2) (n + 112) 1 x3) g), []))))) : Ex mt 0 89 (il σ f g) [vR 6 (some (n + 111)), vI x1, vI x2, vI x3] r := Ex.mk mt_89 (show Gx mt 0 cd_X6_consider (il σ f g) b_X6_consider_0 [some (vR 6 (some (n + 111))), some (vI x1), some (vI x2), some (vI x3)] [] r from (go_loadI rfl (go_loadA rfl (gi_getI (gq_icmp_le (fun e3 => have h1 := h.1 e3; (h1 ▸ gq_retV)) (fun e3 => have h2 := h.2 e3; (go_loadA rfl (go_loadI rfl (gi_putI (go_loadA rfl (gi_getR (Sh6.r1 hs) (go_pushI rfl (go_loadI rfl (gi_iast (inl_ (Sh6.l1 hs) (by decide)) (go_loadA rfl (gi_getR (Sh6.r1 hs) (go_pushI rfl (go_loadI rfl (gi_iast (inl_ (Sh6.l1 hs) (by decide)) (go_fall (h2 ▸ gq_retV)))))))))))))))))))))
def A_X6_considerPairs_5 (σ : St) (f : FI) (g : FL) (n : Nat) (x1 : Int) (x2 : Int) (x3 : BitVec 64) (x5 : Int) (r : St × List Vl) : Prop := Gx mt 1 cd_X6_considerPairs (il σ f g) (cd_X6_considerPairs 5) [some (vR 6 (some (n + 111))), some (vI x1), some (vI x2), some (vL x3), none, some (vI x5)] [] r
theorem bk_X6_considerPairs_0 {σ : St} {f : FI} {g : FL} {n : Nat} {x1 : Int} {x2 : Int} {x3 : BitVec 64} {r : St × List Vl} (hs : Sh6 σ n) (h : ((-2147483648 ≤ (x2 + 1) ∧ (x2 + 1) ≤ 2147483647)) ∧ (A_X6_considerPairs_5 σ f g n x1 x2 x3 (x2 + 1) r)) : Ex mt 1 88 (il σ f g) [vR 6 (some (n + 111)), vI x1, vI x2, vL x3] r := Ex.mk mt_88 (show Gx mt 1 cd_X6_considerPairs (il σ f g) b_X6_considerPairs_0 [some (vR 6 (some (n + 111))), some (vI x1), some (vI x2), some (vL x3), none, none] [] r from (go_loadI rfl (go_pushI rfl (go_iadd h.1 (go_stoI rfl rfl (go_fall (h.2)))))))
theorem bk_X6_considerPairs_5 {σ : St} {f : FI} {g : FL} {n : Nat} {x1 : Int} {x2 : Int} {x3 : BitVec 64} {x5 : Int} {r : St × List Vl} (hs : Sh6 σ n) (h : ((64 ≤ x5 → (r = ((il σ f g), []))) ∧ (¬ 64 ≤ x5 → ((0 ≤ x5 ∧ x5 < 64)) ∧ ((¬ ((lB x3 x5)) → ((-2147483648 ≤ (x5 + 1) ∧ (x5 + 1) ≤ 2147483647)) ∧ (A_X6_considerPairs_5 σ f g n x1 x2 x3 (x5 + 1) r)) ∧ (((lB x3 x5)) → ((0 ≤ x5 ∧ x5 < 64) ∧ (-2147483648 ≤ (x1 + (f (n + 114) ((x5).toNat))) ∧ (x1 + (f (n + 114) ((x5).toNat))) ≤ 2147483647)) ∧ (∃ (f7 : FI) (g8 : FL), Ex mt 0 89 (il σ f g) [vR 6 (some (n + 111)), vI (x1 + (f (n + 114) ((x5).toNat))), vI x2, vI x5] ((il σ f7 g8), []) ∧ ((-2147483648 ≤ (x5 + 1) ∧ (x5 + 1) ≤ 2147483647)) ∧ (A_X6_considerPairs_5 σ f7 g8 n x1 x2 x3 (x5 + 1) r))))))) : A_X6_considerPairs_5 σ f g n x1 x2 x3 x5 r := (show Gx mt 1 cd_X6_considerPairs (il σ f g) b_X6_considerPairs_5 [some (vR 6 (some (n + 111))), some (vI x1), some (vI x2), some (vL x3), none, some (vI x5)] [] r from (go_loadI rfl (go_pushI rfl (gq_icmp_ge (fun e3 => have h1 := h.1 e3; (h1 ▸ gq_retV)) (fun e3 => have h2 := h.2 e3; (go_loadL rfl (go_loadI rfl (go_callS rfl rfl rfl (pu_isAmong h2.1) (go_ifb_eq (fun e6 => have h4 := h2.2.1 e6; (go_iinc rfl h4.1 rfl (go_goto (h4.2)))) (fun e6 => have h5 := h2.2.2 e6; (go_loadA rfl (go_loadI rfl (go_loadA rfl (gi_getR (Sh6.r6 hs) (go_loadI rfl (gi_iald (inl_ (Sh6.l6 hs) h5.1.1) (go_iadd h5.1.2 (go_loadI rfl (go_loadI rfl (Exists.elim h5.2 fun f7 w10 => Exists.elim w10 fun g8 h9 => (go_callV rfl rfl rfl h9.1 (go_fall (go_iinc rfl h9.2.1 rfl (go_goto (h9.2.2)))))))))))))))))))))))))
def A_X6_strike_32 (σ : St) (f : FI) (g : FL) (n : Nat) (x1 : Int) (x2 : BitVec 64) (x4 : Int) (r : St × List Vl) : Prop := ∀ (y5 : Option Vl), Gx mt 6 cd_X6_strike (il σ f g) (cd_X6_strike 32) [some (vR 6 (some (n + 111))), some (vI x1), some (vL x2), none, some (vI x4), y5] [] r
theorem bk_X6_strike_0 {σ : St} {f : FI} {g : FL} {n : Nat} {x1 : Int} {r : St × List Vl} (hs : Sh6 σ n) (h : (∃ (f1 : FI) (g2 : FL) (v4 : BitVec 64), Ex mt 3 91 (il σ f g) [vR 6 (some (n + 111))] ((il σ f1 g2), [vL v4]) ∧ ((x1 ≤ (pc v4 : Int) → (∃ (f8 : FI) (g9 : FL), Ex mt 5 92 (il σ f1 g2) [vR 6 (some (n + 111))] ((il σ f8 g9), []) ∧ (A_X6_strike_32 σ (up2 (up2 f8 (n + 111) 3 (-1)) (n + 111) 2 x1) g9 n x1 v4 0 r))) ∧ (¬ x1 ≤ (pc v4 : Int) → (r = ((il σ f1 g2), [vI (-1)])))))) : Ex mt 6 87 (il σ f g) [vR 6 (some (n + 111)), vI x1] r := Ex.mk mt_87 (show Gx mt 6 cd_X6_strike (il σ f g) b_X6_strike_0 [some (vR 6 (some (n + 111))), some (vI x1), none, none, none, none] [] r from (go_loadA rfl (Exists.elim h fun f1 w12 => Exists.elim w12 fun g2 w13 => Exists.elim w13 fun v4 h3 => (go_callV rfl rfl rfl h3.1 (go_stoL rfl rfl (go_loadL rfl (go_callS rfl rfl rfl (pu_bitCountL) (go_loadI rfl (gq_icmp_ge (fun e7 => have h5 := h3.2.1 e7; (go_loadA rfl (Exists.elim h5 fun f8 w11 => Exists.elim w11 fun g9 h10 => (go_callV rfl rfl rfl h10.1 (go_loadA rfl (go_pushI rfl (gi_putI (go_loadA rfl (go_loadI rfl (gi_putI (go_pushI rfl (go_stoI rfl rfl (go_fall (h10.2 _)))))))))))))) (fun e7 => have h6 := h3.2.2 e7; (go_pushI rfl (h6 ▸ gq_retI))))))))))))
theorem bk_X6_strike_32 {σ : St} {f : FI} {g : FL} {n : Nat} {x1 : Int} {x2 : BitVec 64} {x4 : Int} {r : St × List Vl} (hs : Sh6 σ n) (h : ((64 ≤ x4 → (r = ((il σ f g), [vI (f (n + 111) 3)]))) ∧ (¬ 64 ≤ x4 → ((0 ≤ x4 ∧ x4 < 64)) ∧ ((¬ ((lB x2 x4)) → ((-2147483648 ≤ (x4 + 1) ∧ (x4 + 1) ≤ 2147483647)) ∧ (A_X6_strike_32 σ f g n x1 x2 (x4 + 1) r)) ∧ (((lB x2 x4)) → (∃ (f7 : FI) (g8 : FL) (v10 : Int), Ex mt 2 94 (il σ f g) [vR 6 (some (n + 111)), vI x4] ((il σ f7 g8), [vI v10]) ∧ ((¬ x1 = 1 → (∃ (f14 : FI) (g15 : FL), Ex mt 1 88 (il σ f7 g8) [vR 6 (some (n + 111)), vI v10, vI x4, vL x2] ((il σ f14 g15), []) ∧ ((-2147483648 ≤ (x4 + 1) ∧ (x4 + 1) ≤ 2147483647)) ∧ (A_X6_strike_32 σ f14 g15 n x1 x2 (x4 + 1) r))) ∧ (x1 = 1 → (∃ (f18 : FI) (g19 : FL), Ex mt 0 89 (il σ f7 g8) [vR 6 (some (n + 111)), vI v10, vI x4, vI (-1)] ((il σ f18 g19), []) ∧ ((-2147483648 ≤ (x4 + 1) ∧ (x4 + 1) ≤ 2147483647)) ∧ (A_X6_strike_32 σ f18 g19 n x1 x2 (x4 + 1) r)))))))))) : A_X6_strike_32 σ f g n x1 x2 x4 r := fun y5 => (show Gx mt 6 cd_X6_strike (il σ f g) b_X6_strike_32 [some (vR 6 (some (n + 111))), some (vI x1), some (vL x2), none, some (vI x4), y5] [] r from (go_loadI rfl (go_pushI rfl (gq_icmp_ge (fun e3 => have h1 := h.1 e3; (go_loadA rfl (gi_getI (h1 ▸ gq_retI)))) (fun e3 => have h2 := h.2 e3; (go_loadL rfl (go_loadI rfl (go_callS rfl rfl rfl (pu_isAmong h2.1) (go_ifb_eq (fun e6 => have h4 := h2.2.1 e6; (go_iinc rfl h4.1 rfl (go_goto (h4.2 _)))) (fun e6 => have h5 := h2.2.2 e6; (go_loadA rfl (go_loadI rfl (Exists.elim h5 fun f7 w22 => Exists.elim w22 fun g8 w23 => Exists.elim w23 fun v10 h9 => (go_callV rfl rfl rfl h9.1 (go_stoI rfl rfl (go_loadI rfl (go_pushI rfl (gq_icmp_ne (fun e13 => have h11 := h9.2.1 e13; (go_loadA rfl (go_loadI rfl (go_loadI rfl (go_loadL rfl (Exists.elim h11 fun f14 w17 => Exists.elim w17 fun g15 h16 => (go_callV rfl rfl rfl h16.1 (go_fall (go_iinc rfl h16.2.1 rfl (go_goto (h16.2.2 _))))))))))) (fun e13 => have h12 := h9.2.2 e13; (go_loadA rfl (go_loadI rfl (go_loadI rfl (go_pushI rfl (Exists.elim h12 fun f18 w21 => Exists.elim w21 fun g19 h20 => (go_callV rfl rfl rfl h20.1 (go_goto (go_iinc rfl h20.2.1 rfl (go_goto (h20.2.2 _)))))))))))))))))))))))))))))
theorem bk_X11_worst_0 {σ : St} {f : FI} {g : FL} {a : Nat} {x1 : Int} {r : St × List Vl} (hs : Sh11 σ a) (h : ((¬ ((0 ≤ x1 ∧ x1 ≤ 2)) → (r = ((il σ f g), [vI (-1)]))) ∧ (((0 ≤ x1 ∧ x1 ≤ 2)) → ((x1 ≤ 0 → (r = ((il σ f g), [vI (-1)]))) ∧ (¬ x1 ≤ 0 → (∃ (f7 : FI) (g8 : FL) (v10 : Int), Ex mt 6 87 (il σ f g) [vR 6 (some (a + 154)), vI x1] ((il σ f7 g8), [vI v10]) ∧ (r = ((il σ f7 g8), [vI v10])))))))) : Ex mt 7 168 (il σ f g) [vR 11 (some a), vI x1] r := Ex.mk mt_168 (show Gx mt 7 cd_X11_worst (il σ f g) b_X11_worst_0 [some (vR 11 (some a)), some (vI x1)] [] r from (go_loadI rfl (go_pushI rfl (go_callS rfl rfl rfl (pu_upTo) (go_ifb_eq (fun e3 => have h1 := h.1 e3; (go_pushI rfl (go_fall (h1 ▸ gq_retI)))) (fun e3 => have h2 := h.2 e3; (go_loadI rfl (gq_if_le (fun e6 => have h4 := h2.1 e6; (go_pushI rfl (go_fall (h4 ▸ gq_retI)))) (fun e6 => have h5 := h2.2 e6; (go_loadA rfl (gi_getR (Sh11.r11 hs) (go_loadI rfl (Exists.elim h5 fun f7 w11 => Exists.elim w11 fun g8 w12 => Exists.elim w12 fun v10 h9 => (go_callV rfl rfl rfl h9.1 (go_goto (h9.2 ▸ gq_retI))))))))))))))))
/-- the set bits are counted up -/
theorem hit50 {σ : St} {g : FL} {B : Nat} {l h i : Int} (hs : Sh6 σ (B + 43)) (hi : 0 ≤ i ∧ i < 512) : ∀ (k : Nat) (x : BitVec 64) (fi : FI), pc x = k → (∀ j, j < 64 → 0 ≤ fi (B + 157) j ∧ fi (B + 157) j ≤ 1000000 - k) → ∃ f' : FI, (∀ j, j < 64 → f' (B + 157) j = fi (B + 157) j + (if x.getLsbD j then 1 else 0)) ∧ Fr (fun a _ => a = B + 157) fi f' ∧ ∀ r, A_X6_countHit_12 σ f' g (B + 43) l h (i + 1) r → A_X6_countHit_50 σ fi g (B + 43) l h i x (k : Int) r := by
  intro k
  induction k with
  | zero =>
    intro x fi hx hb
    refine ⟨fi, fun j hj => ?_, Fr.rfl', fun r A => bk_X6_countHit_50 hs ⟨fun _ => ⟨by omega, A⟩, fun z => absurd (by decide) z⟩⟩
    have : x.getLsbD j = false := by
      rw [pc_ct] at hx
      exact fb_ct_zero.mp hx j hj
    rw [this]
    simp
  | succ k ih =>
    intro x fi hx hb
    have x0 : ¬ x = 0#64 := fun z => by
      subst z
      have : pc (0#64) = 0 := by decide
      omega
    obtain ⟨lo, l1, l2, l3⟩ := low_ex x0
    have lb : lowB x = (lo : Int) := low_B l1 l2 l3
    have pcl := pc_clr x0
    have b1 := hb lo l1
    -- the bound holds for the bits that are left
    obtain ⟨f', h1, h2, K⟩ : ∃ f' : FI, (∀ j, j < 64 → f' (B + 157) j = up2 fi (B + 157) lo (fi (B + 157) lo + 1) (B + 157) j + (if (x &&& (x - 1#64)).getLsbD j then 1 else 0)) ∧ Fr (fun a _ => a = B + 157) fi f' ∧ ∀ r, A_X6_countHit_12 σ f' g (B + 43) l h (i + 1) r → A_X6_countHit_50 σ (up2 fi (B + 157) lo (fi (B + 157) lo + 1)) g (B + 43) l h i (x &&& (x - 1#64)) (k : Int) r := by
      obtain ⟨f', h1, h2, K⟩ := ih (x &&& (x - 1#64)) (up2 fi (B + 157) lo (fi (B + 157) lo + 1)) (by omega) (fun j hj => by
        have := hb j hj
        by_cases z : j = lo
        · subst z
          rw [u2_s]
          omega
        · rw [u2_i z]
          omega)
      exact ⟨f', h1, fun a k hk => by rw [h2 a k hk, u2_a hk], K⟩
    refine ⟨f', fun j hj => ?_, h2, fun r A => bk_X6_countHit_50 hs ⟨fun z => absurd z (by omega), fun _ => ?_⟩⟩
    · rw [h1 j hj, low_clr l1 l2 l3]
      by_cases z : j = lo
      · subst z
        rw [u2_s, if_pos rfl, l2]
        simp
      · rw [u2_i z, if_neg z]
    · rw [lb]
      refine ⟨⟨by omega, ?_, by omega⟩, ?_⟩
      · show -2147483648 ≤ fi (B + 157) lo + 1 ∧ fi (B + 157) lo + 1 ≤ 2147483647
        omega
      · rw [show ((k + 1 : Nat) : Int) + (-1) = (k : Int) by omega]
        exact K r A
theorem x_countHit {σ : St} {f : FI} {g : FL} {B c : Nat} {l : Nat} (hs : Sh6 σ (B + 43)) (hc : c ≤ 512) (h5 : f (B + 154) 5 = (c : Int)) (hl : l < 64) : ∃ f' : FI, Ex mt 2 94 (il σ f g) [vR 6 (some (B + 154)), vI (l : Int)] (il σ f' g, [vI (fb_ct (fun i => (g (B + 156) i).getLsbD l) c : Nat)]) ∧ (∀ j, j < 64 → f' (B + 157) j = (fb_ct (fun i => !(g (B + 156) i).getLsbD l && (g (B + 156) i).getLsbD j) c : Nat)) ∧ Fr (fun a _ => a = B + 157) f f' := by
  have loop : ∀ k i : Nat, i + k = c → ∀ fi : FI, (∀ j, j < 64 → fi (B + 157) j = (fb_ct (fun i => !(g (B + 156) i).getLsbD l && (g (B + 156) i).getLsbD j) i : Nat)) → Fr (fun a _ => a = B + 157) f fi → ∃ f' : FI, A_X6_countHit_12 σ fi g (B + 43) (l : Int) (fb_ct (fun i => (g (B + 156) i).getLsbD l) i : Nat) (i : Int) (il σ f' g, [vI (fb_ct (fun i => (g (B + 156) i).getLsbD l) c : Nat)]) ∧ (∀ j, j < 64 → f' (B + 157) j = (fb_ct (fun i => !(g (B + 156) i).getLsbD l && (g (B + 156) i).getLsbD j) c : Nat)) ∧ Fr (fun a _ => a = B + 157) f f' := by
    intro k
    induction k with
    | zero =>
      intro i hi fi hj hF
      obtain rfl : i = c := by omega
      have e5 : fi (B + 43 + 111) 5 = (i : Int) := by rw [hF _ _ (by omega)]; exact h5
      exact ⟨fi, bk_X6_countHit_12 hs ⟨fun _ => rfl, fun z => absurd (by rw [e5]; omega) z⟩, hj, hF⟩
    | succ k ih =>
      intro i hi fi hj hF
      have e5 : fi (B + 43 + 111) 5 = (c : Int) := by rw [hF _ _ (by omega)]; exact h5
      have hb := fb_ct_le (fun i => (g (B + 156) i).getLsbD l) i
      by_cases z : (g (B + 156) i).getLsbD l = true
      · obtain ⟨f', A, r⟩ := ih (i + 1) (by omega) fi (fun j hj2 => by
          rw [hj j hj2, fb_ct_succ, z]
          rfl) hF
        refine ⟨f', bk_X6_countHit_12 hs ⟨fun y => absurd y (by rw [e5]; omega), fun _ => ⟨⟨by omega, by omega⟩, fun y => absurd (show lB (g (B + 156) i) (l : Int) from z) y, fun _ => ⟨by omega, by omega, ?_⟩⟩⟩, r⟩
        rw [fb_ct_succ, if_pos z] at A
        exact A
      · have zf : (g (B + 156) i).getLsbD l = false := by simpa using z
        obtain ⟨f2, h1, h2, K⟩ := hit50 (σ := σ) (g := g) (l := (l : Int)) (h := (fb_ct (fun i => (g (B + 156) i).getLsbD l) i : Nat)) (i := (i : Int)) hs (by omega) (pc (g (B + 156) i)) (g (B + 156) i) fi rfl (fun j hj2 => by
          rw [hj j hj2]
          have := fb_ct_le (fun i => !(g (B + 156) i).getLsbD l && (g (B + 156) i).getLsbD j) i
          have := pc_le (g (B + 156) i)
          omega)
        obtain ⟨f', A, r⟩ := ih (i + 1) (by omega) f2 (fun j hj2 => by
          rw [h1 j hj2, hj j hj2, fb_ct_succ, zf]
          cases (g (B + 156) i).getLsbD j
          · simp
          · simp) (hF.trans h2)
        refine ⟨f', bk_X6_countHit_12 hs ⟨fun y => absurd y (by rw [e5]; omega), fun _ => ⟨⟨by omega, by omega⟩, fun _ => ?_, fun y => absurd (show (g (B + 156) i).getLsbD l = true from y) z⟩⟩, r⟩
        rw [fb_ct_succ, if_neg z] at A
        exact K _ A
  have F0 := x_fillI (σ := σ) (f := f) (g := g) (w := B + 157) (n := 64) (v := 0) hs.l6 (by decide)
  obtain ⟨f', A, r1, r2⟩ := loop c 0 (by omega) (up1 f (B + 157) (fun k => if k < 64 then 0 else f (B + 157) k)) (fun j hj => by
    rw [up1_at', if_pos hj]
    rfl) (fun a k hk => by rw [up1_ne' hk])
  exact ⟨f', bk_X6_countHit_0 hs ⟨_, g, F0, A⟩, r1, r2⟩
/-- how many packets go by one of two lines -/
noncomputable def Vh (f : FI) (g : FL) (B a b : Nat) : Nat := fb_ct (fun q => enB f g B q && (tbB (GB f g B 0) (q : Int) a || tbB (GB f g B 0) (q : Int) b)) 512
/-- the sets of lines that are looked at -/
def Ad (L : Nat → Prop) (n : Int) (a b : Nat) : Prop := (n = 1 ∧ a = b ∧ a < 64 ∧ L a) ∨ (n = 2 ∧ a < b ∧ b < 64 ∧ L a ∧ L b)
/-- the best of those that were looked at, the first of them -/
def Be (S : Nat → Nat → Prop) (V : Nat → Nat → Nat) (v x y : Int) : Prop := (v = -1 ∧ ∀ a b, ¬ S a b) ∨ ∃ a b : Nat, x = (a : Int) ∧ y = (b : Int) ∧ S a b ∧ v = (V a b : Int) ∧ ∀ c d, S c d → V c d < V a b ∨ (V c d = V a b ∧ (a < c ∨ (a = c ∧ b ≤ d)))
theorem Be.cong {S S' : Nat → Nat → Prop} {V : Nat → Nat → Nat} {v x y : Int} (h : Be S V v x y) (e : ∀ a b, S a b ↔ S' a b) : Be S' V v x y := by
  rcases h with ⟨h1, h2⟩ | ⟨a, b, h1, h2, h3, h4, h5⟩
  · exact Or.inl ⟨h1, fun a b z => h2 a b ((e a b).mpr z)⟩
  · exact Or.inr ⟨a, b, h1, h2, (e a b).mp h3, h4, fun c d z => h5 c d ((e c d).mpr z)⟩
theorem Be.one {S : Nat → Nat → Prop} {V : Nat → Nat → Nat} {v x y v' x' y' : Int} (h : Be S V v x y) (h' : Be S V v' x' y') (hS : ∃ a b, S a b) : v = v' ∧ x = x' ∧ y = y' := by
  obtain ⟨s, t, hst⟩ := hS
  rcases h with ⟨h1, h2⟩ | ⟨a, b, h1, h2, h3, h4, h5⟩
  · exact absurd hst (h2 s t)
  · rcases h' with ⟨k1, k2⟩ | ⟨c, d, k1, k2, k3, k4, k5⟩
    · exact absurd hst (k2 s t)
    · have p := h5 c d k3
      have q := k5 a b h3
      omega
/-- one more is looked at, behind all before -/
theorem Be.add {S : Nat → Nat → Prop} {V : Nat → Nat → Nat} {v x y : Int} (h : Be S V v x y) {l o : Nat} (hb : ∀ a b, S a b → a < l ∨ (a = l ∧ b < o)) (w : Nat) (hw : V l o = w) : ((w : Int) ≤ v → Be (fun a b => S a b ∨ (a = l ∧ b = o)) V v x y) ∧ (¬ (w : Int) ≤ v → Be (fun a b => S a b ∨ (a = l ∧ b = o)) V (w : Int) (l : Int) (o : Int)) := by
  constructor
  · intro hv
    rcases h with ⟨h1, h2⟩ | ⟨a, b, h1, h2, h3, h4, h5⟩
    · omega
    · refine Or.inr ⟨a, b, h1, h2, Or.inl h3, h4, fun c d hcd => ?_⟩
      rcases hcd with z | ⟨rfl, rfl⟩
      · exact h5 c d z
      · have := hb a b h3
        omega
  · intro hv
    refine Or.inr ⟨l, o, rfl, rfl, Or.inr ⟨rfl, rfl⟩, by rw [hw], fun c d hcd => ?_⟩
    rcases hcd with z | ⟨rfl, rfl⟩
    · left
      rw [hw]
      rcases h with ⟨h1, h2⟩ | ⟨a, b, h1, h2, h3, h4, h5⟩
      · exact absurd z (h2 c d)
      · have := h5 c d z
        omega
    · right
      exact ⟨rfl, Or.inr ⟨rfl, Nat.le_refl _⟩⟩
theorem Vh_1 {f : FI} {g : FL} {B c : Nat} {tr : Nat → BitVec 64} (h : Trl f g B 512 tr c) {l : Nat} (hl : l < 64) (h1 : ¬ l / 8 = l % 8) : Vh f g B l l = fb_ct (fun i => (tr i).getLsbD l) c := by
  unfold Vh
  rw [← h l l (fun a b => a || b) hl hl h1 h1]
  exact fb_ct_cong fun i _ => Bool.or_self _
theorem Vh_2 {f : FI} {g : FL} {B c : Nat} {tr : Nat → BitVec 64} (h : Trl f g B 512 tr c) {l o : Nat} (hl : l < 64) (ho : o < 64) (h1 : ¬ l / 8 = l % 8) (h2 : ¬ o / 8 = o % 8) : Vh f g B l o = fb_ct (fun i => (tr i).getLsbD l) c + fb_ct (fun i => !(tr i).getLsbD l && (tr i).getLsbD o) c := by
  unfold Vh
  rw [← h l o (fun a b => a || b) hl ho h1 h2, ← fb_ct_or (fun i _ z => by
    rw [z.1] at z
    exact absurd z.2 (by simp))]
  exact fb_ct_cong fun i _ => by cases (tr i).getLsbD l <;> rfl
/-- the state of the search in the class: the best so far -/
def Stk (f : FI) (B : Nat) (n : Int) (S : Nat → Nat → Prop) (V : Nat → Nat → Nat) : Prop := ∃ y : Int, Be S V (f (B + 154) 3) (f (B + 155) 0) y ∧ (n = 2 → 0 ≤ f (B + 154) 3 → f (B + 155) 1 = y)
theorem x_considerPairs {σ : St} {f : FI} {g : FL} {B c : Nat} {nn : Nat → Nat} {L : BitVec 64} {l : Nat} {f0 : FI} {g0 : FL} (hs : Sh6 σ (B + 43)) (hL : ∀ l, l < 64 → (L.getLsbD l = true ↔ Lu f0 g0 B nn l)) (hl : l < 64) (hlu : Lu f0 g0 B nn l) (hc : c ≤ 512) (hTr : Trl f0 g0 B 512 (g (B + 156)) c) (ha : ∀ j, j < 64 → f (B + 157) j = (fb_ct (fun i => !(g (B + 156) i).getLsbD l && (g (B + 156) i).getLsbD j) c : Nat)) (h0 : Stk f B 2 (fun a b => Ad (Lu f0 g0 B nn) 2 a b ∧ a < l) (Vh f0 g0 B)) : ∃ f' : FI, Ex mt 1 88 (il σ f g) [vR 6 (some (B + 154)), vI (fb_ct (fun i => (g (B + 156) i).getLsbD l) c : Nat), vI (l : Int), vL L] (il σ f' g, []) ∧ Stk f' B 2 (fun a b => Ad (Lu f0 g0 B nn) 2 a b ∧ a < l + 1) (Vh f0 g0 B) ∧ Fr (fun a k => (a = B + 154 ∧ k = 3) ∨ a = B + 155) f f' := by
  have hc1 := fb_ct_le (fun i => (g (B + 156) i).getLsbD l) c
  have loop : ∀ k o : Nat, o + k = 64 → l < o → ∀ fi : FI, Fr (fun a k => (a = B + 154 ∧ k = 3) ∨ a = B + 155) f fi → Stk fi B 2 (fun a b => Ad (Lu f0 g0 B nn) 2 a b ∧ (a < l ∨ (a = l ∧ b < o))) (Vh f0 g0 B) → ∃ f' : FI, A_X6_considerPairs_5 σ fi g (B + 43) (fb_ct (fun i => (g (B + 156) i).getLsbD l) c : Nat) (l : Int) L (o : Int) (il σ f' g, []) ∧ Stk f' B 2 (fun a b => Ad (Lu f0 g0 B nn) 2 a b ∧ a < l + 1) (Vh f0 g0 B) ∧ Fr (fun a k => (a = B + 154 ∧ k = 3) ∨ a = B + 155) f f' := by
    intro k
    induction k with
    | zero =>
      intro o ho hlo fi hF hS
      obtain rfl : o = 64 := by omega
      refine ⟨fi, bk_X6_considerPairs_5 hs ⟨fun _ => rfl, fun z => absurd (by decide) z⟩, ?_, hF⟩
      obtain ⟨y, b1, b2⟩ := hS
      refine ⟨y, b1.cong fun a b => ⟨fun z => ⟨z.1, by omega⟩, fun z => ⟨z.1, ?_⟩⟩, b2⟩
      have := z.1
      unfold Ad at this
      omega
    | succ k ih =>
      intro o ho hlo fi hF hS
      by_cases z : L.getLsbD o = true
      · have hou := (hL o (by omega)).mp z
        have e157 : fi (B + 157) o = (fb_ct (fun i => !(g (B + 156) i).getLsbD l && (g (B + 156) i).getLsbD o) c : Nat) := by rw [hF _ _ (by omega)]; exact ha o (by omega)
        have hc2 := fb_ct_le (fun i => !(g (B + 156) i).getLsbD l && (g (B + 156) i).getLsbD o) c
        have v2 := Vh_2 hTr hl (show o < 64 by omega) hlu.1 hou.1
        obtain ⟨y, b1, b2⟩ := hS
        obtain ⟨q1, q2⟩ := b1.add (l := l) (o := o) (fun a b h => h.2) _ v2
        have eS : ∀ a b, ((Ad (Lu f0 g0 B nn) 2 a b ∧ (a < l ∨ (a = l ∧ b < o))) ∨ (a = l ∧ b = o)) ↔ (Ad (Lu f0 g0 B nn) 2 a b ∧ (a < l ∨ (a = l ∧ b < o + 1))) := fun a b => by
          constructor
          · rintro (⟨h1, h2⟩ | ⟨rfl, rfl⟩)
            · exact ⟨h1, by omega⟩
            · exact ⟨Or.inr ⟨rfl, hlo, by omega, hlu, hou⟩, by omega⟩
          · rintro ⟨h1, h2⟩
            by_cases w : a = l ∧ b = o
            · exact Or.inr w
            · exact Or.inl ⟨h1, by omega⟩
        by_cases hv : ((fb_ct (fun i => (g (B + 156) i).getLsbD l) c + fb_ct (fun i => !(g (B + 156) i).getLsbD l && (g (B + 156) i).getLsbD o) c : Nat) : Int) ≤ fi (B + 154) 3
        · obtain ⟨f', A, r⟩ := ih (o + 1) (by omega) (by omega) fi hF ⟨y, (q1 hv).cong eS, b2⟩
          refine ⟨f', bk_X6_considerPairs_5 hs ⟨fun w => absurd w (by omega), fun _ => ⟨by omega, fun w => absurd (show lB L (o : Int) from z) w, fun _ => ⟨⟨by omega, ?_⟩, fi, g, ?_, by omega, A⟩⟩⟩, r⟩
          · rw [show fi (B + 43 + 114) ((o : Int)).toNat = _ from e157]; omega
          · rw [show fi (B + 43 + 114) ((o : Int)).toNat = _ from e157]
            exact bk_X6_consider_0 hs ⟨fun _ => rfl, fun w => absurd (show _ ≤ fi (B + 154) 3 by omega) w⟩
        · obtain ⟨f', A, r⟩ := ih (o + 1) (by omega) (by omega) (up2 (up2 (up2 fi (B + 154) 3 ((fb_ct (fun i => (g (B + 156) i).getLsbD l) c : Nat) + (fb_ct (fun i => !(g (B + 156) i).getLsbD l && (g (B + 156) i).getLsbD o) c : Nat) : Int)) (B + 155) 0 (l : Int)) (B + 155) 1 (o : Int)) (((hF.up (Or.inl ⟨rfl, rfl⟩)).up (Or.inr rfl)).up (Or.inr rfl)) ⟨o, by
            rw [u2_a (by omega), u2_a (by omega), u2_s, u2_i (by decide), u2_s]
            have := (q2 hv).cong eS
            rw [show (((fb_ct (fun i => (g (B + 156) i).getLsbD l) c + fb_ct (fun i => !(g (B + 156) i).getLsbD l && (g (B + 156) i).getLsbD o) c : Nat)) : Int) = (fb_ct (fun i => (g (B + 156) i).getLsbD l) c : Nat) + (fb_ct (fun i => !(g (B + 156) i).getLsbD l && (g (B + 156) i).getLsbD o) c : Nat) by omega] at this
            exact this, fun _ _ => u2_s⟩
          refine ⟨f', bk_X6_considerPairs_5 hs ⟨fun w => absurd w (by omega), fun _ => ⟨by omega, fun w => absurd (show lB L (o : Int) from z) w, fun _ => ⟨⟨by omega, ?_⟩, _, g, ?_, by omega, A⟩⟩⟩, r⟩
          · rw [show fi (B + 43 + 114) ((o : Int)).toNat = _ from e157]; omega
          · rw [show fi (B + 43 + 114) ((o : Int)).toNat = _ from e157]
            exact bk_X6_consider_0 hs ⟨fun w => absurd (show _ ≤ fi (B + 154) 3 from w) (by omega), fun _ => rfl⟩
      · obtain ⟨f', A, r⟩ := ih (o + 1) (by omega) (by omega) fi hF (by
          obtain ⟨y, b1, b2⟩ := hS
          refine ⟨y, b1.cong fun a b => ⟨fun w => ⟨w.1, by omega⟩, fun w => ⟨w.1, ?_⟩⟩, b2⟩
          by_cases u : a = l ∧ b = o
          · obtain ⟨rfl, rfl⟩ := u
            have := w.1
            unfold Ad at this
            exact absurd ((hL b (by omega)).mpr (this.elim (fun s => by omega) fun s => s.2.2.2.2)) z
          · omega)
        exact ⟨f', bk_X6_considerPairs_5 hs ⟨fun w => absurd w (by omega), fun _ => ⟨by omega, fun _ => ⟨by omega, A⟩, fun w => absurd (show L.getLsbD o = true from w) z⟩⟩, r⟩
  obtain ⟨f', A, r⟩ := loop (63 - l) (l + 1) (by omega) (by omega) f Fr.rfl' (by
    obtain ⟨y, b1, b2⟩ := h0
    refine ⟨y, b1.cong fun a b => ⟨fun w => ⟨w.1, by omega⟩, fun w => ⟨w.1, ?_⟩⟩, b2⟩
    have := w.1
    unfold Ad at this
    omega)
  exact ⟨f', bk_X6_considerPairs_0 hs ⟨by omega, A⟩, r⟩
abbrev ScS (B : Nat) : Nat → Nat → Prop := fun a k => a = B + 143 ∨ (a = B + 154 ∧ (k = 2 ∨ k = 3 ∨ k = 5)) ∨ a = B + 155 ∨ a = B + 157
theorem x_strike {σ : St} {f : FI} {g : FL} {B : Nat} {nn : Nat → Nat} {n : Int} (hs : Sh6 σ (B + 43)) (hT : TCs f B nn) (hen : 0 ≤ f (B + 43) 2 ∧ f (B + 43) 2 ≤ 255) (hn : n = 1 ∨ n = 2) : ∃ (f' : FI) (g' : FL) (v : Int) (L : BitVec 64), (∀ l, l < 64 → (L.getLsbD l = true ↔ Lu f g B nn l)) ∧ Ex mt 6 87 (il σ f g) [vR 6 (some (B + 154)), vI n] (il σ f' g', [vI v]) ∧ ((¬ n ≤ (pc L : Int) ∧ v = -1 ∧ f' = f ∧ g' = g) ∨ (n ≤ (pc L : Int) ∧ f' (B + 154) 2 = n ∧ f' (B + 154) 3 = v ∧ Stk f' B n (Ad (Lu f g B nn) n) (Vh f g B))) ∧ (∀ a, a ≠ B + 156 → g' a = g a) ∧ Fr (ScS B) f f' := by
  obtain ⟨L, hL, E1⟩ := x_linesInUse (g := g) hs hT
  by_cases hp : n ≤ (pc L : Int)
  · obtain ⟨f1, g1, c, E2, hc, h5, hTr, hg1, F1⟩ := x_keepTrails (g := g) hs hT hen
    have loop : ∀ k l : Nat, l + k = 64 → ∀ fi : FI, Fr (ScS B) f fi → fi (B + 154) 5 = (c : Int) → fi (B + 154) 2 = n → Stk fi B n (fun a b => Ad (Lu f g B nn) n a b ∧ a < l) (Vh f g B) → ∃ f' : FI, A_X6_strike_32 σ fi g1 (B + 43) n L (l : Int) (il σ f' g1, [vI (f' (B + 154) 3)]) ∧ f' (B + 154) 2 = n ∧ Stk f' B n (Ad (Lu f g B nn) n) (Vh f g B) ∧ Fr (ScS B) f f' := by
      intro k
      induction k with
      | zero =>
        intro l hl fi hF i5 i2 hS
        obtain rfl : l = 64 := by omega
        refine ⟨fi, bk_X6_strike_32 hs ⟨fun _ => rfl, fun z => absurd (by decide) z⟩, i2, ?_, hF⟩
        obtain ⟨y, b1, b2⟩ := hS
        refine ⟨y, b1.cong fun a b => ⟨fun w => w.1, fun w => ⟨w, ?_⟩⟩, b2⟩
        unfold Ad at w
        omega
      | succ k ih =>
        intro l hl fi hF i5 i2 hS
        by_cases z : L.getLsbD l = true
        · have hlu := (hL l (by omega)).mp z
          obtain ⟨f2, E3, a3, F3⟩ := x_countHit (σ := σ) (f := fi) (g := g1) (B := B) (c := c) (l := l) hs hc i5 (by omega)
          have hF2 : Fr (ScS B) f f2 := fun a k hk => by rw [F3 a k (by omega), hF a k hk]
          have hS2 : Stk f2 B n (fun a b => Ad (Lu f g B nn) n a b ∧ a < l) (Vh f g B) := by
            unfold Stk at hS ⊢
            rw [F3 _ _ (by omega), F3 _ _ (by omega), F3 _ _ (by omega)]
            exact hS
          have v1 := Vh_1 hTr (show l < 64 by omega) hlu.1
          rcases hn with rfl | rfl
          · -- one line
            obtain ⟨y, b1, b2⟩ := hS2
            obtain ⟨q1, q2⟩ := b1.add (l := l) (o := l) (fun a b h => by omega) _ v1
            have eS : ∀ a b, ((Ad (Lu f g B nn) 1 a b ∧ a < l) ∨ (a = l ∧ b = l)) ↔ (Ad (Lu f g B nn) 1 a b ∧ a < l + 1) := fun a b => by
              constructor
              · rintro (⟨h1, h2⟩ | ⟨rfl, rfl⟩)
                · exact ⟨h1, by omega⟩
                · exact ⟨Or.inl ⟨rfl, rfl, by omega, hlu⟩, by omega⟩
              · rintro ⟨h1, h2⟩
                by_cases w : a = l
                · unfold Ad at h1
                  exact Or.inr ⟨w, by omega⟩
                · exact Or.inl ⟨h1, by omega⟩
            by_cases hv : ((fb_ct (fun i => (g1 (B + 156) i).getLsbD l) c : Nat) : Int) ≤ f2 (B + 154) 3
            · obtain ⟨f', A, r⟩ := ih (l + 1) (by omega) f2 hF2 (by rw [F3 _ _ (by omega)]; exact i5) (by rw [F3 _ _ (by omega)]; exact i2) ⟨y, (q1 hv).cong eS, fun w => absurd w (by decide)⟩
              exact ⟨f', bk_X6_strike_32 hs ⟨fun w => absurd w (by omega), fun _ => ⟨by omega, fun w => absurd (show lB L (l : Int) from z) w, fun _ => ⟨f2, g1, _, E3, fun w => absurd rfl w, fun _ => ⟨f2, g1, bk_X6_consider_0 hs ⟨fun _ => rfl, fun w => absurd hv w⟩, by omega, A⟩⟩⟩⟩, r⟩
            · obtain ⟨f', A, r⟩ := ih (l + 1) (by omega) (up2 (up2 (up2 f2 (B + 154) 3 (fb_ct (fun i => (g1 (B + 156) i).getLsbD l) c : Nat)) (B + 155) 0 (l : Int)) (B + 155) 1 (-1)) (((hF2.up (Or.inr (Or.inl ⟨rfl, by decide⟩))).up (Or.inr (Or.inr (Or.inl rfl)))).up (Or.inr (Or.inr (Or.inl rfl)))) (by rw [u2_a (by omega), u2_a (by omega), u2_i (by decide), F3 _ _ (by omega)]; exact i5) (by rw [u2_a (by omega), u2_a (by omega), u2_i (by decide), F3 _ _ (by omega)]; exact i2) ⟨l, by
                rw [u2_a (by omega), u2_a (by omega), u2_s, u2_i (by decide), u2_s]
                exact (q2 hv).cong eS, fun w => absurd w (by decide)⟩
              exact ⟨f', bk_X6_strike_32 hs ⟨fun w => absurd w (by omega), fun _ => ⟨by omega, fun w => absurd (show lB L (l : Int) from z) w, fun _ => ⟨f2, g1, _, E3, fun w => absurd rfl w, fun _ => ⟨_, g1, bk_X6_consider_0 hs ⟨fun w => absurd w hv, fun _ => rfl⟩, by omega, A⟩⟩⟩⟩, r⟩
          · -- two lines
            obtain ⟨f3, E4, S4, F4⟩ := x_considerPairs (σ := σ) (f := f2) (g := g1) (L := L) (l := l) hs hL (by omega) hlu hc hTr a3 hS2
            obtain ⟨f', A, r⟩ := ih (l + 1) (by omega) f3 (fun a k hk => by rw [F4 a k (by omega), hF2 a k hk]) (by rw [F4 _ _ (by omega), F3 _ _ (by omega)]; exact i5) (by rw [F4 _ _ (by omega), F3 _ _ (by omega)]; exact i2) S4
            exact ⟨f', bk_X6_strike_32 hs ⟨fun w => absurd w (by omega), fun _ => ⟨by omega, fun w => absurd (show lB L (l : Int) from z) w, fun _ => ⟨f2, g1, _, E3, fun _ => ⟨f3, g1, E4, by omega, A⟩, fun w => absurd w (by decide)⟩⟩⟩, r⟩
        · obtain ⟨f', A, r⟩ := ih (l + 1) (by omega) fi hF i5 i2 (by
            obtain ⟨y, b1, b2⟩ := hS
            refine ⟨y, b1.cong fun a b => ⟨fun w => ⟨w.1, by omega⟩, fun w => ⟨w.1, ?_⟩⟩, b2⟩
            by_cases u : a = l
            · subst u
              have := w.1
              unfold Ad at this
              exact absurd ((hL a (by omega)).mpr (this.elim (fun s => s.2.2.2) fun s => s.2.2.2.1)) z
            · omega)
          exact ⟨f', bk_X6_strike_32 hs ⟨fun w => absurd w (by omega), fun _ => ⟨by omega, fun _ => ⟨by omega, A⟩, fun w => absurd (show L.getLsbD l = true from w) z⟩⟩, r⟩
    have F1' : Fr (ScS B) f (up2 (up2 f1 (B + 154) 3 (-1)) (B + 154) 2 n) := (Fr.up (Fr.up (fun a k hk => F1 a k (by omega)) (Or.inr (Or.inl ⟨rfl, by decide⟩))) (Or.inr (Or.inl ⟨rfl, by decide⟩)))
    obtain ⟨f', A, r2, r3, r4⟩ := loop 64 0 rfl _ F1' (by rw [u2_i (by decide), u2_i (by decide)]; exact h5) u2_s ⟨0, by
      rw [u2_i (by decide), u2_s]
      exact Or.inl ⟨rfl, fun a b w => absurd w.2 (Nat.not_lt_zero a)⟩, fun _ w => by
      rw [u2_i (by decide), u2_s] at w
      exact absurd w (by decide)⟩
    exact ⟨f', g1, f' (B + 154) 3, L, hL, bk_X6_strike_0 hs ⟨f, g, L, E1, fun _ => ⟨f1, g1, E2, A⟩, fun w => absurd hp w⟩, Or.inr ⟨hp, r2, rfl, r3⟩, hg1, r4⟩
  · exact ⟨f, g, -1, L, hL, bk_X6_strike_0 hs ⟨f, g, L, E1, fun w => absurd w hp, fun _ => rfl⟩, Or.inl ⟨hp, rfl, rfl, rfl⟩, fun _ _ => rfl, Fr.rfl'⟩
