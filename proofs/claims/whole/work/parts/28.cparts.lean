/-! parts, within, quarrel, breaks, joined -/
def A_X11_parts_38 (σ : St) (f : FI) (g : FL) (x3 : Int) (x4 : Nat) (x5 : Nat) (x6 : Int) (r : St × List Vl) : Prop := ∀ (y0 : Option Nat) (y1 : Int) (y2 : Int) (y7 : Option Vl), Gx mt 3 cd_X11_parts (il σ f g) (cd_X11_parts 38) [some (vR 11 y0), some (vI y1), some (vI y2), some (vI x3), some (vR 10 (some x4)), some (vR 10 (some x5)), some (vI x6), y7] [] r
theorem bk_X11_parts_0 {σ : St} {f : FI} {g : FL} {a : Nat} {x1 : Int} {x2 : Int} {x3 : Int} {r : St × List Vl} (hs : Sh11 σ a) (h : ((∃ (f1 : FI) (g2 : FL), Ex mt 0 188 (il σ f g) [vR 11 (some a), vI x1] ((il σ f1 g2), [vR 10 none]) ∧ ((∃ (f17 : FI) (g18 : FL), Ex mt 0 188 (il σ f1 g2) [vR 11 (some a), vI x2] ((il σ f17 g18), [vR 10 none]) ∧ (r = ((il σ f17 g18), [vI (-2)]))) ∨ (∃ (f17 : FI) (g18 : FL) (q20 : Nat), Ex mt 0 188 (il σ f1 g2) [vR 11 (some a), vI x2] ((il σ f17 g18), [vR 10 (some q20)]) ∧ (r = ((il σ f17 g18), [vI (-2)]))))) ∨ (∃ (f1 : FI) (g2 : FL) (q4 : Nat), Ex mt 0 188 (il σ f g) [vR 11 (some a), vI x1] ((il σ f1 g2), [vR 10 (some q4)]) ∧ ((∃ (f5 : FI) (g6 : FL), Ex mt 0 188 (il σ f1 g2) [vR 11 (some a), vI x2] ((il σ f5 g6), [vR 10 none]) ∧ (r = ((il σ f5 g6), [vI (-2)]))) ∨ (∃ (f5 : FI) (g6 : FL) (q8 : Nat), Ex mt 0 188 (il σ f1 g2) [vR 11 (some a), vI x2] ((il σ f5 g6), [vR 10 (some q8)]) ∧ ((((0 ≤ x3 ∧ x3 ≤ 2)) → (A_X11_parts_38 σ f5 g6 x3 q4 q8 0 r)) ∧ (¬ ((0 ≤ x3 ∧ x3 ≤ 2)) → (r = ((il σ f5 g6), [vI (-2)]))))))))) : Ex mt 3 147 (il σ f g) [vR 11 (some a), vI x1, vI x2, vI x3] r := Ex.mk mt_147 (show Gx mt 3 cd_X11_parts (il σ f g) b_X11_parts_0 [some (vR 11 (some a)), some (vI x1), some (vI x2), some (vI x3), none, none, none, none] [] r from (go_loadA rfl (go_loadI rfl (Or.elim h (fun h16q => (Exists.elim h16q fun f1 w25 => Exists.elim w25 fun g2 h16 => (go_callV rfl rfl rfl h16.1 (go_stoA rfl rfl (go_loadA rfl (go_loadI rfl (Or.elim h16.2 (fun h21q => (Exists.elim h21q fun f17 w22 => Exists.elim w22 fun g18 h21 => (go_callV rfl rfl rfl h21.1 (go_stoA rfl rfl (go_loadA rfl (go_nullN (go_pushI rfl (h21.2 ▸ gq_retI)))))))) (fun h19q => (Exists.elim h19q fun f17 w23 => Exists.elim w23 fun g18 w24 => Exists.elim w24 fun q20 h19 => (go_callV rfl rfl rfl h19.1 (go_stoA rfl rfl (go_loadA rfl (go_nullN (go_pushI rfl (h19.2 ▸ gq_retI))))))))))))))) (fun h3q => (Exists.elim h3q fun f1 w26 => Exists.elim w26 fun g2 w27 => Exists.elim w27 fun q4 h3 => (go_callV rfl rfl rfl h3.1 (go_stoA rfl rfl (go_loadA rfl (go_loadI rfl (Or.elim h3.2 (fun h12q => (Exists.elim h12q fun f5 w13 => Exists.elim w13 fun g6 h12 => (go_callV rfl rfl rfl h12.1 (go_stoA rfl rfl (go_loadA rfl (go_nullS (go_loadA rfl (go_nullN (go_pushI rfl (h12.2 ▸ gq_retI)))))))))) (fun h7q => (Exists.elim h7q fun f5 w14 => Exists.elim w14 fun g6 w15 => Exists.elim w15 fun q8 h7 => (go_callV rfl rfl rfl h7.1 (go_stoA rfl rfl (go_loadA rfl (go_nullS (go_loadA rfl (go_nullS (go_loadI rfl (go_pushI rfl (go_callS rfl rfl rfl (pu_upTo) (go_ifb_ne (fun e11 => have h9 := h7.2.1 e11; (go_pushI rfl (go_stoI rfl rfl (go_fall (h9 _ _ _ _))))) (fun e11 => have h10 := h7.2.2 e11; (go_fall (go_pushI rfl (h10 ▸ gq_retI)))))))))))))))))))))))))))
theorem bk_X11_parts_38 {σ : St} {f : FI} {g : FL} {x3 : Int} {x4 : Nat} {x5 : Nat} {x6 : Int} {r : St × List Vl}  (h : ((512 ≤ x6 → (r = ((il σ f g), [vI (-1)]))) ∧ (¬ 512 ≤ x6 → (∃ (f4 : FI) (g5 : FL) (v7 : Int), Ex mt 2 138 (il σ f g) [vR 10 (some x4), vR 10 (some x5), vI x6] ((il σ f4 g5), [vI v7]) ∧ ((v7 = (-1) → ((-2147483648 ≤ (x6 + 1) ∧ (x6 + 1) ≤ 2147483647)) ∧ (A_X11_parts_38 σ f4 g5 x3 x4 x5 (x6 + 1) r)) ∧ (¬ v7 = (-1) → ((¬ x3 = 0 → ((¬ x3 = 1 → (∃ (f17 : FI) (g18 : FL) (v20 : Int), Ex mt 0 135 (il σ f4 g5) [vR 10 (some x4), vI x6, vI v7] ((il σ f17 g18), [vI v20]) ∧ ((v20 = 0 → (r = ((il σ f17 g18), [vI 1]))) ∧ (¬ v20 = 0 → (r = ((il σ f17 g18), [vI 0])))))) ∧ (x3 = 1 → (r = ((il σ f4 g5), [vI v7]))))) ∧ (x3 = 0 → (r = ((il σ f4 g5), [vI x6])))))))))) : A_X11_parts_38 σ f g x3 x4 x5 x6 r := fun y0 y1 y2 y7 => (show Gx mt 3 cd_X11_parts (il σ f g) b_X11_parts_38 [some (vR 11 y0), some (vI y1), some (vI y2), some (vI x3), some (vR 10 (some x4)), some (vR 10 (some x5)), some (vI x6), y7] [] r from (go_loadI rfl (go_pushI rfl (gq_icmp_ge (fun e3 => have h1 := h.1 e3; (go_pushI rfl (h1 ▸ gq_retI))) (fun e3 => have h2 := h.2 e3; (go_loadA rfl (go_loadA rfl (go_loadI rfl (Exists.elim h2 fun f4 w26 => Exists.elim w26 fun g5 w27 => Exists.elim w27 fun v7 h6 => (go_callV rfl rfl rfl h6.1 (go_stoI rfl rfl (go_loadI rfl (go_pushI rfl (gq_icmp_eq (fun e10 => have h8 := h6.2.1 e10; (go_iinc rfl h8.1 rfl (go_goto (h8.2 _ _ _ _)))) (fun e10 => have h9 := h6.2.2 e10; (go_loadI rfl (gq_if_ne (fun e13 => have h11 := h9.1 e13; (go_loadI rfl (go_pushI rfl (gq_icmp_ne (fun e16 => have h14 := h11.1 e16; (go_loadA rfl (go_loadI rfl (go_loadI rfl (Exists.elim h14 fun f17 w24 => Exists.elim w24 fun g18 w25 => Exists.elim w25 fun v20 h19 => (go_callV rfl rfl rfl h19.1 (gq_if_eq (fun e23 => have h21 := h19.2.1 e23; (go_pushI rfl (go_fall (h21 ▸ gq_retI)))) (fun e23 => have h22 := h19.2.2 e23; (go_pushI rfl (go_goto (h22 ▸ gq_retI))))))))))) (fun e16 => have h15 := h11.2 e16; (go_loadI rfl (go_goto (h15 ▸ gq_retI)))))))) (fun e13 => have h12 := h9.2 e13; (go_loadI rfl (go_goto (h12 ▸ gq_retI)))))))))))))))))))))
def A_X12_parts_34 (σ : St) (f : FI) (g : FL) (a : Nat) (x1 : Int) (x2 : Int) (x3 : Int) (x4 : Int) (r : St × List Vl) : Prop := ∀ (y5 : Option Vl) (y6 : Option Vl), Gx mt 2 cd_X12_parts (il σ f g) (cd_X12_parts 34) [some (vR 12 (some a)), some (vI x1), some (vI x2), some (vI x3), some (vI x4), y5, y6] [] r
def A_X12_parts_66 (σ : St) (f : FI) (g : FL) (a : Nat) (x1 : Int) (x2 : Int) (x3 : Int) (x4 : Int) (x6 : Int) (r : St × List Vl) : Prop := ∀ (y5 : Int), Gx mt 2 cd_X12_parts (il σ f g) (cd_X12_parts 66) [some (vR 12 (some a)), some (vI x1), some (vI x2), some (vI x3), some (vI x4), some (vI y5), some (vI x6)] [] r
theorem bk_X12_parts_0 {σ : St} {f : FI} {g : FL} {a : Nat} {x1 : Int} {x2 : Int} {x3 : Int} {r : St × List Vl} (hs : Sh12 σ a) (h : ((-2147483648 ≤ f a 4 - 1 ∧ f a 4 - 1 ≤ 2147483647) ∧ (-2147483648 ≤ x1 ∧ x1 ≤ 2147483647)) ∧ ((¬ ((0 ≤ x1 ∧ x1 ≤ f a 4 - 1)) → (r = ((il σ f g), [vI (-2)]))) ∧ (((0 ≤ x1 ∧ x1 ≤ f a 4 - 1)) → ((-2147483648 ≤ f a 4 - 1 ∧ f a 4 - 1 ≤ 2147483647) ∧ (-2147483648 ≤ x2 ∧ x2 ≤ 2147483647)) ∧ ((¬ ((0 ≤ x2 ∧ x2 ≤ f a 4 - 1)) → (r = ((il σ f g), [vI (-2)]))) ∧ (((0 ≤ x2 ∧ x2 ≤ f a 4 - 1)) → ((-2147483648 ≤ x3 ∧ x3 ≤ 2147483647)) ∧ ((((0 ≤ x3 ∧ x3 ≤ 2)) → (A_X12_parts_34 σ f g a x1 x2 x3 0 r)) ∧ (¬ ((0 ≤ x3 ∧ x3 ≤ 2)) → (r = ((il σ f g), [vI (-2)]))))))))) : Ex mt 2 234 (il σ f g) [vR 12 (some a), vI x1, vI x2, vI x3] r := Ex.mk mt_234 (show Gx mt 2 cd_X12_parts (il σ f g) b_X12_parts_0 [some (vR 12 (some a)), some (vI x1), some (vI x2), some (vI x3), none, none, none] [] r from (go_loadA rfl (go_loadI rfl (go_callV rfl rfl rfl (pu_isWish hs h.1.1 h.1.2) (go_ifb_eq (fun e3 => have h1 := h.2.1 e3; (go_pushI rfl (h1 ▸ gq_retI))) (fun e3 => have h2 := h.2.2 e3; (go_loadA rfl (go_loadI rfl (go_callV rfl rfl rfl (pu_isWish hs h2.1.1 h2.1.2) (go_ifb_eq (fun e6 => have h4 := h2.2.1 e6; (go_pushI rfl (h4 ▸ gq_retI))) (fun e6 => have h5 := h2.2.2 e6; (go_loadI rfl (go_i2l (go_pushL rfl (go_pushL rfl (go_callS rfl rfl rfl (pu_in h5.1 ⟨by decide, by decide⟩ ⟨by decide, by decide⟩ (v := x3) (lo := 0) (hi := 2)) (go_ifb_ne (fun e9 => have h7 := h5.2.1 e9; (go_pushI rfl (go_stoI rfl rfl (go_fall (h7 _ _))))) (fun e9 => have h8 := h5.2.2 e9; (go_fall (go_pushI rfl (h8 ▸ gq_retI)))))))))))))))))))))
theorem bk_X12_parts_34 {σ : St} {f : FI} {g : FL} {a : Nat} {x1 : Int} {x2 : Int} {x3 : Int} {x4 : Int} {r : St × List Vl} (hs : Sh12 σ a) (h : ((512 ≤ x4 → (r = ((il σ f g), [vI (-1)]))) ∧ (¬ 512 ≤ x4 → (∃ (f4 : FI) (g5 : FL) (v7 : Int), Ex mt 0 233 (il σ f g) [vR 12 (some a), vI x1, vI x2, vI x4] ((il σ f4 g5), [vI v7]) ∧ ((8 ≤ v7 → ((-2147483648 ≤ (x4 + 1) ∧ (x4 + 1) ≤ 2147483647)) ∧ (A_X12_parts_34 σ f4 g5 a x1 x2 x3 (x4 + 1) r)) ∧ (¬ 8 ≤ v7 → ((-2147483648 ≤ (64 * v7) ∧ (64 * v7) ≤ 2147483647)) ∧ (A_X12_parts_66 σ f4 g5 a x1 x2 x3 x4 (64 * v7) r))))))) : A_X12_parts_34 σ f g a x1 x2 x3 x4 r := fun y5 y6 => (show Gx mt 2 cd_X12_parts (il σ f g) b_X12_parts_34 [some (vR 12 (some a)), some (vI x1), some (vI x2), some (vI x3), some (vI x4), y5, y6] [] r from (go_loadI rfl (go_pushI rfl (gq_icmp_ge (fun e3 => have h1 := h.1 e3; (go_pushI rfl (h1 ▸ gq_retI))) (fun e3 => have h2 := h.2 e3; (go_loadA rfl (go_loadI rfl (go_loadI rfl (go_loadI rfl (Exists.elim h2 fun f4 w11 => Exists.elim w11 fun g5 w12 => Exists.elim w12 fun v7 h6 => (go_callV rfl rfl rfl h6.1 (go_stoI rfl rfl (go_loadI rfl (go_pushI rfl (gq_icmp_ge (fun e10 => have h8 := h6.2.1 e10; (go_iinc rfl h8.1 rfl (go_goto (h8.2 _ _)))) (fun e10 => have h9 := h6.2.2 e10; (go_pushI rfl (go_loadI rfl (go_imul h9.1 (go_stoI rfl rfl (go_fall (h9.2 _))))))))))))))))))))))
theorem bk_X12_parts_66 {σ : St} {f : FI} {g : FL} {a : Nat} {x1 : Int} {x2 : Int} {x3 : Int} {x4 : Int} {x6 : Int} {r : St × List Vl} (hs : Sh12 σ a) (h : ((0 ≤ x1 ∧ x1 < 12) ∧ (0 ≤ x4 ∧ x4 < 512) ∧ (0 ≤ x6 ∧ x6 < 512) ∧ (0 ≤ x2 ∧ x2 < 12)) ∧ ((¬ (bI (rb (rwM g a x1 x4) (x6).toNat = true)) = (bI (rb (rwM g a x2 x4) (x6).toNat = true)) → ((¬ x3 = 0 → ((¬ x3 = 1 → ((0 ≤ x1 ∧ x1 < 12) ∧ (0 ≤ x4 ∧ x4 < 512) ∧ (0 ≤ x6 ∧ x6 < 512)) ∧ ((¬ ((rb (rwM g a x1 x4) (x6).toNat = true)) → (r = ((il σ f g), [vI 1]))) ∧ (((rb (rwM g a x1 x4) (x6).toNat = true)) → (r = ((il σ f g), [vI 0]))))) ∧ (x3 = 1 → (r = ((il σ f g), [vI x6]))))) ∧ (x3 = 0 → (r = ((il σ f g), [vI x4]))))) ∧ ((bI (rb (rwM g a x1 x4) (x6).toNat = true)) = (bI (rb (rwM g a x2 x4) (x6).toNat = true)) → ((-2147483648 ≤ (x6 + 1) ∧ (x6 + 1) ≤ 2147483647)) ∧ (A_X12_parts_66 σ f g a x1 x2 x3 x4 (x6 + 1) r)))) : A_X12_parts_66 σ f g a x1 x2 x3 x4 x6 r := fun y5 => (show Gx mt 2 cd_X12_parts (il σ f g) b_X12_parts_66 [some (vR 12 (some a)), some (vI x1), some (vI x2), some (vI x3), some (vI x4), some (vI y5), some (vI x6)] [] r from (go_loadA rfl (go_loadI rfl (go_loadI rfl (go_loadI rfl (go_callV rfl rfl rfl (pu_makesOf hs h.1.1 h.1.2.1 h.1.2.2.1) (go_loadA rfl (go_loadI rfl (go_loadI rfl (go_loadI rfl (go_callV rfl rfl rfl (pu_makesOf hs h.1.2.2.2 h.1.2.1 h.1.2.2.1) (gq_icmp_ne (fun e3 => have h1 := h.2.1 e3; (go_loadI rfl (gq_if_ne (fun e6 => have h4 := h1.1 e6; (go_loadI rfl (go_pushI rfl (gq_icmp_ne (fun e9 => have h7 := h4.1 e9; (go_loadA rfl (go_loadI rfl (go_loadI rfl (go_loadI rfl (go_callV rfl rfl rfl (pu_makesOf hs h7.1.1 h7.1.2.1 h7.1.2.2) (go_ifb_eq (fun e12 => have h10 := h7.2.1 e12; (go_pushI rfl (go_fall (h10 ▸ gq_retI)))) (fun e12 => have h11 := h7.2.2 e12; (go_pushI rfl (go_goto (h11 ▸ gq_retI))))))))))) (fun e9 => have h8 := h4.2 e9; (go_loadI rfl (go_goto (h8 ▸ gq_retI)))))))) (fun e6 => have h5 := h1.2 e6; (go_loadI rfl (go_goto (h5 ▸ gq_retI))))))) (fun e3 => have h2 := h.2.2 e3; (go_iinc rfl h2.1 rfl (go_goto (h2.2 _))))))))))))))))
theorem c_parts {σ : St} {f : FI} {g : FL} {B w : Nat} {q md : Nat → Nat} (hs : Sh11 σ B) (hm : Sh12 σ (B + 165)) (h : IW σ f g B w q md) {x y z : Int} (rx : -2147483648 ≤ x ∧ x ≤ 2147483647) (ry : -2147483648 ≤ y ∧ y ≤ 2147483647) (rz : -2147483648 ≤ z ∧ z ≤ 2147483647) : ∃ v : Int, Ex mt 3 147 (il σ f g) [vR 11 (some B), vI x, vI y, vI z] (il σ f g, [vI v]) ∧ Ex mt 2 234 (il σ f g) [vR 12 (some (B + 165)), vI x, vI y, vI z] (il σ f g, [vI v]) := by
  have h1 := h.1
  by_cases hx : 0 ≤ x ∧ x < w
  · obtain ⟨i, rfl⟩ := Int.eq_ofNat_of_zero_le hx.1
    have hi : i < w := by omega
    have hw := (h.2 i hi).2.1
    by_cases hy : 0 ≤ y ∧ y < w
    · obtain ⟨j, rfl⟩ := Int.eq_ofNat_of_zero_le hy.1
      have hj : j < w := by omega
      have hw2 := (h.2 j hj).2.1
      by_cases hz : 0 ≤ z ∧ z ≤ 2
      · have scan : ∀ n t : Nat, ∀ (p : Int) (T : Nat), 0 ≤ p → p < 512 → t + n = T → T < 512 → rb (rwM g (B + 165) (i : Int) p) T ≠ rb (rwM g (B + 165) (j : Int) p) T → (∀ k, t ≤ k → k < T → rb (rwM g (B + 165) (i : Int) p) k = rb (rwM g (B + 165) (j : Int) p) k) → A_X12_parts_66 σ f g (B + 165) (i : Int) (j : Int) z p (t : Int) (il σ f g, [vI (if z = 0 then p else if z = 1 then (T : Int) else if rb (rwM g (B + 165) (i : Int) p) T = true then 0 else 1)]) := by
          intro n
          induction n with
          | zero =>
            intro t p T hp hp2 ht hT hne hk
            obtain rfl : t = T := by omega
            have et : (t : Int).toNat = t := by omega
            refine bk_X12_parts_66 hm ⟨⟨by omega, by omega, by omega, by omega⟩, fun _ => ⟨fun z0 => ⟨fun z1 => ⟨⟨by omega, by omega, by omega⟩, fun e => ?_, fun e => ?_⟩, fun z1 => ?_⟩, fun z0 => ?_⟩, fun e => ?_⟩
            · rw [if_neg z0, if_neg z1, if_neg (by rw [et] at e; exact e)]
            · rw [if_neg z0, if_neg z1, if_pos (by rw [et] at e; exact e)]
            · rw [if_neg z0, if_pos z1]
            · rw [if_pos z0]
            · rw [et] at e
              exfalso
              revert e hne
              unfold bI
              cases rb (rwM g (B + 165) (i : Int) p) t <;> cases rb (rwM g (B + 165) (j : Int) p) t <;> simp
          | succ n ih =>
            intro t p T hp hp2 ht hT hne hk
            have et : (t : Int).toNat = t := by omega
            have e := hk t (Nat.le_refl _) (by omega)
            refine bk_X12_parts_66 hm ⟨⟨by omega, by omega, by omega, by omega⟩, fun q => ?_, fun _ => ⟨by omega, ih (t + 1) p T hp hp2 (by omega) hT hne fun k hk1 hk2 => hk k (by omega) hk2⟩⟩
            rw [et, e] at q
            exact absurd rfl q
        have loop : ∀ k p : Nat, p + k = 512 → ∃ v : Int, A_X11_parts_38 σ f g z (q i) (q j) (p : Int) (il σ f g, [vI v]) ∧ A_X12_parts_34 σ f g (B + 165) (i : Int) (j : Int) z (p : Int) (il σ f g, [vI v]) := by
          intro k
          induction k with
          | zero =>
            intro p hp
            obtain rfl : p = 512 := by omega
            exact ⟨-1, bk_X11_parts_38 ⟨fun _ => rfl, fun e => absurd (by decide) e⟩, bk_X12_parts_34 hm ⟨fun _ => rfl, fun e => absurd (by decide) e⟩⟩
          | succ k ih =>
            intro p hp
            have hr1 := h.row hi (p := (p : Int)) (by omega)
            have hr2 := h.row hj (p := (p : Int)) (by omega)
            obtain ⟨v, hv, hpb⟩ := x_partsBy (f := f) (g := g) hw hw2 (p := (p : Int)) (by omega)
            obtain ⟨m, m1, m2, m3, hu⟩ := x_unlike (f := f) (g := g) hm (w := (i : Int)) (u := (j : Int)) (p := (p : Int)) (by omega) (by omega) (by omega)
            rcases hv with ⟨rfl, hv⟩ | ⟨T, rfl, hT, hne, hlt⟩
            · have : m = 8 := by
                apply Decidable.byContradiction
                intro hm8
                exact m3 (by omega) (by rw [← hr1 m (by omega), ← hr2 m (by omega)]; exact hv m (by omega))
              subst this
              obtain ⟨v, c, m⟩ := ih (p + 1) (by omega)
              exact ⟨v, bk_X11_parts_38 ⟨fun e => absurd e (by omega), fun _ => ⟨f, g, _, hpb, fun _ => ⟨by omega, c⟩, fun e => absurd rfl e⟩⟩, bk_X12_parts_34 hm ⟨fun e => absurd e (by omega), fun _ => ⟨f, g, _, hu, fun _ => ⟨by omega, m⟩, fun e => absurd (by decide) e⟩⟩⟩
            · have hneM : rb (rwM g (B + 165) (i : Int) (p : Int)) T ≠ rb (rwM g (B + 165) (j : Int) (p : Int)) T := by rw [← rb_cong hr1 hT, ← rb_cong hr2 hT]; exact hne
              have hltM : ∀ k, k < T → rb (rwM g (B + 165) (i : Int) (p : Int)) k = rb (rwM g (B + 165) (j : Int) (p : Int)) k := fun k hk => by rw [← rb_cong hr1 (by omega), ← rb_cong hr2 (by omega)]; exact hlt k hk
              have hm8 : m < 8 := by
                apply Decidable.byContradiction
                intro hm8
                have := m2 (T / 64) (by omega)
                exact hneM (by unfold rb; rw [this])
              have hmT : 64 * m ≤ T := by
                apply Decidable.byContradiction
                intro hc
                have := m2 (T / 64) (by omega)
                exact hneM (by unfold rb; rw [this])
              have hs1 := scan (T - 64 * m) (64 * m) (p : Int) T (by omega) (by omega) (by omega) hT hneM fun k _ hk => hltM k hk
              rw [show ((64 * m : Nat) : Int) = 64 * (m : Int) by omega] at hs1
              have hH := x_holds (f := f) (g := g) hw (p := (p : Int)) (v := (T : Int)) (by omega) (by omega)
              rw [show (T : Int).toNat = T by omega, rb_cong hr1 hT] at hH
              refine ⟨_, bk_X11_parts_38 ⟨fun e => absurd e (by omega), fun _ => ⟨f, g, _, hpb, fun e => absurd e (by omega), fun _ => ⟨fun z0 => ⟨fun z1 => ⟨f, g, _, hH, fun e => ?_, fun e => ?_⟩, fun z1 => ?_⟩, fun z0 => ?_⟩⟩⟩, bk_X12_parts_34 hm ⟨fun e => absurd e (by omega), fun _ => ⟨f, g, _, hu, fun e => absurd e (by omega), fun _ => ⟨by omega, hs1⟩⟩⟩⟩
              · rw [if_neg z0, if_neg z1, if_neg ((bI_0 _).mp e)]
              · rw [if_neg z0, if_neg z1, if_pos (Decidable.not_not.mp fun q => e ((bI_0 _).mpr q))]
              · rw [if_neg z0, if_pos z1]
              · rw [if_pos z0]
        obtain ⟨v, hc, hM⟩ := loop 512 0 rfl
        exact ⟨v, bk_X11_parts_0 hs (Or.inr ⟨f, g, q i, x_wishAt1 hs h hi, Or.inr ⟨f, g, q j, x_wishAt1 hs h hj, fun _ => hc, fun e => absurd hz e⟩⟩), bk_X12_parts_0 hm ⟨by omega, fun e => absurd (by omega) e, fun _ => ⟨by omega, fun e => absurd (by omega) e, fun _ => ⟨by omega, fun _ => hM, fun e => absurd hz e⟩⟩⟩⟩
      · exact ⟨-2, bk_X11_parts_0 hs (Or.inr ⟨f, g, q i, x_wishAt1 hs h hi, Or.inr ⟨f, g, q j, x_wishAt1 hs h hj, fun e => absurd e hz, fun _ => rfl⟩⟩), bk_X12_parts_0 hm ⟨by omega, fun e => absurd (by omega) e, fun _ => ⟨by omega, fun e => absurd (by omega) e, fun _ => ⟨by omega, fun e => absurd e hz, fun _ => rfl⟩⟩⟩⟩
    · exact ⟨-2, bk_X11_parts_0 hs (Or.inr ⟨f, g, q i, x_wishAt1 hs h hi, Or.inl ⟨f, g, x_wishAt0 hs h hy, rfl⟩⟩), bk_X12_parts_0 hm ⟨by omega, fun e => absurd (by omega) e, fun _ => ⟨by omega, fun _ => rfl, fun e => absurd (by omega) hy⟩⟩⟩
  · have h2 : Ex mt 3 147 (il σ f g) [vR 11 (some B), vI x, vI y, vI z] (il σ f g, [vI (-2)]) := by
      refine bk_X11_parts_0 hs (Or.inl ⟨f, g, x_wishAt0 hs h hx, ?_⟩)
      by_cases hy : 0 ≤ y ∧ y < w
      · obtain ⟨j, rfl⟩ := Int.eq_ofNat_of_zero_le hy.1
        exact Or.inr ⟨f, g, _, x_wishAt1 hs h (by omega), rfl⟩
      · exact Or.inl ⟨f, g, x_wishAt0 hs h hy, rfl⟩
    exact ⟨-2, h2, bk_X12_parts_0 hm ⟨by omega, fun _ => rfl, fun e => absurd (by omega) hx⟩⟩
def A_X11_within_27 (σ : St) (f : FI) (g : FL) (x3 : Nat) (x4 : Nat) (x5 : Int) (r : St × List Vl) : Prop := ∀ (y0 : Option Nat) (y1 : Int) (y2 : Int), Gx mt 1 cd_X11_within (il σ f g) (cd_X11_within 27) [some (vR 11 y0), some (vI y1), some (vI y2), some (vR 10 (some x3)), some (vR 10 (some x4)), some (vI x5)] [] r
theorem bk_X11_within_0 {σ : St} {f : FI} {g : FL} {a : Nat} {x1 : Int} {x2 : Int} {r : St × List Vl} (hs : Sh11 σ a) (h : ((∃ (f1 : FI) (g2 : FL), Ex mt 0 188 (il σ f g) [vR 11 (some a), vI x1] ((il σ f1 g2), [vR 10 none]) ∧ ((∃ (f14 : FI) (g15 : FL), Ex mt 0 188 (il σ f1 g2) [vR 11 (some a), vI x2] ((il σ f14 g15), [vR 10 none]) ∧ (r = ((il σ f14 g15), [vI (-1)]))) ∨ (∃ (f14 : FI) (g15 : FL) (q17 : Nat), Ex mt 0 188 (il σ f1 g2) [vR 11 (some a), vI x2] ((il σ f14 g15), [vR 10 (some q17)]) ∧ (r = ((il σ f14 g15), [vI (-1)]))))) ∨ (∃ (f1 : FI) (g2 : FL) (q4 : Nat), Ex mt 0 188 (il σ f g) [vR 11 (some a), vI x1] ((il σ f1 g2), [vR 10 (some q4)]) ∧ ((∃ (f5 : FI) (g6 : FL), Ex mt 0 188 (il σ f1 g2) [vR 11 (some a), vI x2] ((il σ f5 g6), [vR 10 none]) ∧ (r = ((il σ f5 g6), [vI (-1)]))) ∨ (∃ (f5 : FI) (g6 : FL) (q8 : Nat), Ex mt 0 188 (il σ f1 g2) [vR 11 (some a), vI x2] ((il σ f5 g6), [vR 10 (some q8)]) ∧ (A_X11_within_27 σ f5 g6 q4 q8 0 r)))))) : Ex mt 1 148 (il σ f g) [vR 11 (some a), vI x1, vI x2] r := Ex.mk mt_148 (show Gx mt 1 cd_X11_within (il σ f g) b_X11_within_0 [some (vR 11 (some a)), some (vI x1), some (vI x2), none, none, none] [] r from (go_loadA rfl (go_loadI rfl (Or.elim h (fun h13q => (Exists.elim h13q fun f1 w22 => Exists.elim w22 fun g2 h13 => (go_callV rfl rfl rfl h13.1 (go_stoA rfl rfl (go_loadA rfl (go_loadI rfl (Or.elim h13.2 (fun h18q => (Exists.elim h18q fun f14 w19 => Exists.elim w19 fun g15 h18 => (go_callV rfl rfl rfl h18.1 (go_stoA rfl rfl (go_loadA rfl (go_nullN (go_pushI rfl (h18.2 ▸ gq_retI)))))))) (fun h16q => (Exists.elim h16q fun f14 w20 => Exists.elim w20 fun g15 w21 => Exists.elim w21 fun q17 h16 => (go_callV rfl rfl rfl h16.1 (go_stoA rfl rfl (go_loadA rfl (go_nullN (go_pushI rfl (h16.2 ▸ gq_retI))))))))))))))) (fun h3q => (Exists.elim h3q fun f1 w23 => Exists.elim w23 fun g2 w24 => Exists.elim w24 fun q4 h3 => (go_callV rfl rfl rfl h3.1 (go_stoA rfl rfl (go_loadA rfl (go_loadI rfl (Or.elim h3.2 (fun h9q => (Exists.elim h9q fun f5 w10 => Exists.elim w10 fun g6 h9 => (go_callV rfl rfl rfl h9.1 (go_stoA rfl rfl (go_loadA rfl (go_nullS (go_loadA rfl (go_nnullN (go_fall (go_pushI rfl (h9.2 ▸ gq_retI))))))))))) (fun h7q => (Exists.elim h7q fun f5 w11 => Exists.elim w11 fun g6 w12 => Exists.elim w12 fun q8 h7 => (go_callV rfl rfl rfl h7.1 (go_stoA rfl rfl (go_loadA rfl (go_nullS (go_loadA rfl (go_nnullS (go_pushI rfl (go_stoI rfl rfl (go_fall (h7.2 _ _ _)))))))))))))))))))))))
theorem bk_X11_within_27 {σ : St} {f : FI} {g : FL} {x3 : Nat} {x4 : Nat} {x5 : Int} {r : St × List Vl}  (h : ((512 ≤ x5 → (r = ((il σ f g), [vI 1]))) ∧ (¬ 512 ≤ x5 → (∃ (f4 : FI) (g5 : FL) (v7 : Int), Ex mt 0 139 (il σ f g) [vR 10 (some x3), vR 10 (some x4), vI x5] ((il σ f4 g5), [vI v7]) ∧ ((¬ v7 = 0 → ((-2147483648 ≤ (x5 + 1) ∧ (x5 + 1) ≤ 2147483647)) ∧ (A_X11_within_27 σ f4 g5 x3 x4 (x5 + 1) r)) ∧ (v7 = 0 → (r = ((il σ f4 g5), [vI 0])))))))) : A_X11_within_27 σ f g x3 x4 x5 r := fun y0 y1 y2 => (show Gx mt 1 cd_X11_within (il σ f g) b_X11_within_27 [some (vR 11 y0), some (vI y1), some (vI y2), some (vR 10 (some x3)), some (vR 10 (some x4)), some (vI x5)] [] r from (go_loadI rfl (go_pushI rfl (gq_icmp_ge (fun e3 => have h1 := h.1 e3; (go_pushI rfl (h1 ▸ gq_retI))) (fun e3 => have h2 := h.2 e3; (go_loadA rfl (go_loadA rfl (go_loadI rfl (Exists.elim h2 fun f4 w11 => Exists.elim w11 fun g5 w12 => Exists.elim w12 fun v7 h6 => (go_callV rfl rfl rfl h6.1 (gq_if_ne (fun e10 => have h8 := h6.2.1 e10; (go_iinc rfl h8.1 rfl (go_goto (h8.2 _ _ _)))) (fun e10 => have h9 := h6.2.2 e10; (go_pushI rfl (h9 ▸ gq_retI))))))))))))))
def A_X12_within_23 (σ : St) (f : FI) (g : FL) (a : Nat) (x1 : Int) (x2 : Int) (x3 : Int) (x4 : Int) (r : St × List Vl) : Prop := Gx mt 2 cd_X12_within (il σ f g) (cd_X12_within 23) [some (vR 12 (some a)), some (vI x1), some (vI x2), some (vI x3), some (vI x4)] [] r
theorem bk_X12_within_0 {σ : St} {f : FI} {g : FL} {a : Nat} {x1 : Int} {x2 : Int} {r : St × List Vl} (hs : Sh12 σ a) (h : ((-2147483648 ≤ f a 4 - 1 ∧ f a 4 - 1 ≤ 2147483647) ∧ (-2147483648 ≤ x1 ∧ x1 ≤ 2147483647)) ∧ ((¬ ((0 ≤ x1 ∧ x1 ≤ f a 4 - 1)) → (r = ((il σ f g), [vI (-1)]))) ∧ (((0 ≤ x1 ∧ x1 ≤ f a 4 - 1)) → ((-2147483648 ≤ f a 4 - 1 ∧ f a 4 - 1 ≤ 2147483647) ∧ (-2147483648 ≤ x2 ∧ x2 ≤ 2147483647)) ∧ ((((0 ≤ x2 ∧ x2 ≤ f a 4 - 1)) → (A_X12_within_23 σ f g a x1 x2 1 0 r)) ∧ (¬ ((0 ≤ x2 ∧ x2 ≤ f a 4 - 1)) → (r = ((il σ f g), [vI (-1)]))))))) : Ex mt 2 235 (il σ f g) [vR 12 (some a), vI x1, vI x2] r := Ex.mk mt_235 (show Gx mt 2 cd_X12_within (il σ f g) b_X12_within_0 [some (vR 12 (some a)), some (vI x1), some (vI x2), none, none] [] r from (go_loadA rfl (go_loadI rfl (go_callV rfl rfl rfl (pu_isWish hs h.1.1 h.1.2) (go_ifb_eq (fun e3 => have h1 := h.2.1 e3; (go_pushI rfl (h1 ▸ gq_retI))) (fun e3 => have h2 := h.2.2 e3; (go_loadA rfl (go_loadI rfl (go_callV rfl rfl rfl (pu_isWish hs h2.1.1 h2.1.2) (go_ifb_ne (fun e6 => have h4 := h2.2.1 e6; (go_pushI rfl (go_stoI rfl rfl (go_pushI rfl (go_stoI rfl rfl (go_fall (h4))))))) (fun e6 => have h5 := h2.2.2 e6; (go_fall (go_pushI rfl (h5 ▸ gq_retI))))))))))))))
theorem bk_X12_within_23 {σ : St} {f : FI} {g : FL} {a : Nat} {x1 : Int} {x2 : Int} {x3 : Int} {x4 : Int} {r : St × List Vl} (hs : Sh12 σ a) (h : ((4096 ≤ x4 → ((x3 = 0 → (r = ((il σ f g), [vI 0]))) ∧ (¬ x3 = 0 → (r = ((il σ f g), [vI 1]))))) ∧ (¬ 4096 ≤ x4 → ((x3 = 0 → ((x3 = 0 → (r = ((il σ f g), [vI 0]))) ∧ (¬ x3 = 0 → (r = ((il σ f g), [vI 1]))))) ∧ (¬ x3 = 0 → ((-2147483648 ≤ (4096 * x1) ∧ (4096 * x1) ≤ 2147483647) ∧ (-2147483648 ≤ ((4096 * x1) + x4) ∧ ((4096 * x1) + x4) ≤ 2147483647) ∧ (0 ≤ ((4096 * x1) + x4) ∧ ((4096 * x1) + x4) < 49152) ∧ (-2147483648 ≤ (4096 * x2) ∧ (4096 * x2) ≤ 2147483647) ∧ (-2147483648 ≤ ((4096 * x2) + x4) ∧ ((4096 * x2) + x4) ≤ 2147483647) ∧ (0 ≤ ((4096 * x2) + x4) ∧ ((4096 * x2) + x4) < 49152)) ∧ ((¬ ((g (a + 10) ((((4096 * x1) + x4)).toNat)) &&& ((g (a + 10) ((((4096 * x2) + x4)).toNat)) ^^^ (18446744073709551615#64))) = (0#64) → ((-2147483648 ≤ (x4 + 1) ∧ (x4 + 1) ≤ 2147483647)) ∧ (A_X12_within_23 σ f g a x1 x2 0 (x4 + 1) r)) ∧ (((g (a + 10) ((((4096 * x1) + x4)).toNat)) &&& ((g (a + 10) ((((4096 * x2) + x4)).toNat)) ^^^ (18446744073709551615#64))) = (0#64) → ((-2147483648 ≤ (x4 + 1) ∧ (x4 + 1) ≤ 2147483647)) ∧ (A_X12_within_23 σ f g a x1 x2 1 (x4 + 1) r)))))))) : A_X12_within_23 σ f g a x1 x2 x3 x4 r := (show Gx mt 2 cd_X12_within (il σ f g) b_X12_within_23 [some (vR 12 (some a)), some (vI x1), some (vI x2), some (vI x3), some (vI x4)] [] r from (go_loadI rfl (go_pushI rfl (gq_icmp_ge (fun e3 => have h1 := h.1 e3; (go_loadI rfl (gq_if_eq (fun e6 => have h4 := h1.1 e6; (go_pushI rfl (go_fall (h4 ▸ gq_retI)))) (fun e6 => have h5 := h1.2 e6; (go_pushI rfl (go_goto (h5 ▸ gq_retI))))))) (fun e3 => have h2 := h.2 e3; (go_loadI rfl (gq_if_eq (fun e9 => have h7 := h2.1 e9; (go_loadI rfl (gq_if_eq (fun e12 => have h10 := h7.1 e12; (go_pushI rfl (go_fall (h10 ▸ gq_retI)))) (fun e12 => have h11 := h7.2 e12; (go_pushI rfl (go_goto (h11 ▸ gq_retI))))))) (fun e9 => have h8 := h2.2 e9; (go_loadA rfl (gi_getR (Sh12.r20 hs) (go_pushI rfl (go_loadI rfl (go_imul h8.1.1 (go_loadI rfl (go_iadd h8.1.2.1 (gi_lald (inl_ (Sh12.l20 hs) h8.1.2.2.1) (go_loadA rfl (gi_getR (Sh12.r20 hs) (go_pushI rfl (go_loadI rfl (go_imul h8.1.2.2.2.1 (go_loadI rfl (go_iadd h8.1.2.2.2.2.1 (gi_lald (inl_ (Sh12.l20 hs) h8.1.2.2.2.2.2) (go_pushL rfl (go_lxor (go_land (go_pushL rfl (go_lcmp rfl (go_lif_ne (fun e15 => have h13 := h8.2.1 e15; (go_pushI rfl (go_fall (go_stoI rfl rfl (go_iinc rfl h13.1 rfl (go_goto (h13.2))))))) (fun e15 => have h14 := h8.2.2 e15; (go_pushI rfl (go_goto (go_stoI rfl rfl (go_iinc rfl h14.1 rfl (go_goto (h14.2)))))))))))))))))))))))))))))))))))))
theorem c_within {σ : St} {f : FI} {g : FL} {B w : Nat} {q md : Nat → Nat} (hs : Sh11 σ B) (hm : Sh12 σ (B + 165)) (h : IW σ f g B w q md) {x y : Int} (rx : -2147483648 ≤ x ∧ x ≤ 2147483647) (ry : -2147483648 ≤ y ∧ y ≤ 2147483647) : ∃ v : Int, Ex mt 1 148 (il σ f g) [vR 11 (some B), vI x, vI y] (il σ f g, [vI v]) ∧ Ex mt 2 235 (il σ f g) [vR 12 (some (B + 165)), vI x, vI y] (il σ f g, [vI v]) := by
  have h1 := h.1
  by_cases hx : 0 ≤ x ∧ x < w
  · obtain ⟨i, rfl⟩ := Int.eq_ofNat_of_zero_le hx.1
    have hi : i < w := by omega
    have hw := (h.2 i hi).2.1
    by_cases hy : 0 ≤ y ∧ y < w
    · obtain ⟨j, rfl⟩ := Int.eq_ofNat_of_zero_le hy.1
      have hj : j < w := by omega
      have hw2 := (h.2 j hj).2.1
      have e3 : ∀ y : BitVec 64, y ^^^ 18446744073709551615#64 = ~~~y := fun y => by
        rw [show (18446744073709551615#64) = BitVec.allOnes 64 from by decide, BitVec.xor_allOnes]
      -- the model's loop
      have mloop0 : ∀ k c : Nat, c + k = 4096 → A_X12_within_23 σ f g (B + 165) (i : Int) (j : Int) 0 (c : Int) (il σ f g, [vI 0]) := by
        intro k c hc
        by_cases hc2 : (4096 : Int) ≤ c
        · exact bk_X12_within_23 hm ⟨fun _ => ⟨fun _ => rfl, fun e => absurd rfl e⟩, fun e => absurd hc2 e⟩
        · exact bk_X12_within_23 hm ⟨fun e => absurd e hc2, fun _ => ⟨fun _ => ⟨fun _ => rfl, fun e => absurd rfl e⟩, fun e => absurd rfl e⟩⟩
      have mloop : ∀ k c : Nat, c + k = 4096 → (∀ d, c ≤ d → d < 4096 → g (B + 165 + 10) (4096 * i + d) &&& ~~~ g (B + 165 + 10) (4096 * j + d) = 0#64) → A_X12_within_23 σ f g (B + 165) (i : Int) (j : Int) 1 (c : Int) (il σ f g, [vI 1]) := by
        intro k
        induction k with
        | zero =>
          intro c hc hd
          exact bk_X12_within_23 hm ⟨fun _ => ⟨fun e => absurd e (by decide), fun _ => rfl⟩, fun e => absurd (by omega) e⟩
        | succ k ih =>
          intro c hc hd
          refine bk_X12_within_23 hm ⟨fun e => absurd e (by omega), fun _ => ⟨fun e => absurd e (by decide), fun _ => ⟨by omega, fun e => absurd ?_ e, fun _ => ⟨by omega, ih (c + 1) (by omega) fun d hd1 hd2 => hd d (by omega) hd2⟩⟩⟩⟩
          rw [e3, show (4096 * (i : Int) + (c : Int)).toNat = 4096 * i + c by omega, show (4096 * (j : Int) + (c : Int)).toNat = 4096 * j + c by omega]
          exact hd c (Nat.le_refl _) (by omega)
      have mloopN : ∀ k c : Nat, c + k = 4096 → (∃ d, c ≤ d ∧ d < 4096 ∧ ¬ g (B + 165 + 10) (4096 * i + d) &&& ~~~ g (B + 165 + 10) (4096 * j + d) = 0#64) → A_X12_within_23 σ f g (B + 165) (i : Int) (j : Int) 1 (c : Int) (il σ f g, [vI 0]) := by
        intro k
        induction k with
        | zero => rintro c hc ⟨d, d1, d2, d3⟩; omega
        | succ k ih =>
          rintro c hc ⟨d, d1, d2, d3⟩
          have ec : g (B + 165 + 10) (4096 * (i : Int) + (c : Int)).toNat &&& (g (B + 165 + 10) (4096 * (j : Int) + (c : Int)).toNat ^^^ 18446744073709551615#64) = g (B + 165 + 10) (4096 * i + c) &&& ~~~ g (B + 165 + 10) (4096 * j + c) := by
            rw [e3, show (4096 * (i : Int) + (c : Int)).toNat = 4096 * i + c by omega, show (4096 * (j : Int) + (c : Int)).toNat = 4096 * j + c by omega]
          refine bk_X12_within_23 hm ⟨fun e => absurd e (by omega), fun _ => ⟨fun e => absurd e (by decide), fun _ => ⟨by omega, fun _ => ⟨by omega, mloop0 k (c + 1) (by omega)⟩, fun e => ⟨by omega, ih (c + 1) (by omega) ⟨d, ?_, d2, d3⟩⟩⟩⟩⟩
          rw [ec] at e
          rcases Nat.lt_or_ge c d with q | q
          · omega
          · obtain rfl : c = d := by omega
            exact absurd e d3
      -- the class's loop
      have cloop : ∀ k p : Nat, p + k = 512 → (∀ d, 8 * p ≤ d → d < 4096 → g (B + 165 + 10) (4096 * i + d) &&& ~~~ g (B + 165 + 10) (4096 * j + d) = 0#64) ∧ A_X11_within_27 σ f g (q i) (q j) (p : Int) (il σ f g, [vI 1]) ∨ (∃ d, 8 * p ≤ d ∧ d < 4096 ∧ ¬ g (B + 165 + 10) (4096 * i + d) &&& ~~~ g (B + 165 + 10) (4096 * j + d) = 0#64) ∧ A_X11_within_27 σ f g (q i) (q j) (p : Int) (il σ f g, [vI 0]) := by
        intro k
        induction k with
        | zero =>
          intro p hp
          obtain rfl : p = 512 := by omega
          exact Or.inl ⟨fun d h1 h2 => absurd h2 (by omega), bk_X11_within_27 ⟨fun _ => rfl, fun e => absurd (by decide) e⟩⟩
        | succ k ih =>
          intro p hp
          have hr1 := h.row hi (p := (p : Int)) (by omega)
          have hr2 := h.row hj (p := (p : Int)) (by omega)
          have eM : ∀ (u n : Nat), rwM g (B + 165) (u : Int) (p : Int) n = g (B + 165 + 10) (4096 * u + (8 * p + n)) := fun u n => by unfold rwM; congr 1; omega
          obtain ⟨v, v0, hv, hin⟩ := x_isInside (f := f) (g := g) hw hw2 (p := (p : Int)) (by omega)
          rcases v0 with rfl | rfl
          · right
            have : ∃ n, n < 8 ∧ ¬ rwC g (md i) (p : Int) n &&& ~~~(rwC g (md j) (p : Int) n) = 0#64 := by
              apply Decidable.byContradiction
              intro hn
              have := hv.mpr fun n hn2 => Decidable.byContradiction fun q => hn ⟨n, hn2, q⟩
              exact absurd this (by decide)
            obtain ⟨n, hn, hne⟩ := this
            rw [hr1 n hn, hr2 n hn, eM, eM] at hne
            exact ⟨⟨8 * p + n, by omega, by omega, hne⟩, bk_X11_within_27 ⟨fun e => absurd e (by omega), fun _ => ⟨f, g, _, hin, fun e => absurd rfl e, fun _ => rfl⟩⟩⟩
          · have hall := hv.mp rfl
            have here : ∀ d, 8 * p ≤ d → d < 8 * (p + 1) → g (B + 165 + 10) (4096 * i + d) &&& ~~~ g (B + 165 + 10) (4096 * j + d) = 0#64 := fun d d1 d2 => by
              have := hall (d - 8 * p) (by omega)
              rw [hr1 _ (by omega), hr2 _ (by omega), eM, eM, show 8 * p + (d - 8 * p) = d by omega] at this
              exact this
            rcases ih (p + 1) (by omega) with ⟨ha, hb⟩ | ⟨⟨d, d1, d2, d3⟩, hb⟩
            · refine Or.inl ⟨fun d d1 d2 => ?_, bk_X11_within_27 ⟨fun e => absurd e (by omega), fun _ => ⟨f, g, _, hin, fun _ => ⟨by omega, hb⟩, fun e => absurd e (by decide)⟩⟩⟩
              rcases Nat.lt_or_ge d (8 * (p + 1)) with z | z
              · exact here d d1 z
              · exact ha d z d2
            · exact Or.inr ⟨⟨d, by omega, d2, d3⟩, bk_X11_within_27 ⟨fun e => absurd e (by omega), fun _ => ⟨f, g, _, hin, fun _ => ⟨by omega, hb⟩, fun e => absurd e (by decide)⟩⟩⟩
      rcases cloop 512 0 rfl with ⟨ha, hb⟩ | ⟨ha, hb⟩
      · exact ⟨1, bk_X11_within_0 hs (Or.inr ⟨f, g, q i, x_wishAt1 hs h hi, Or.inr ⟨f, g, q j, x_wishAt1 hs h hj, hb⟩⟩), bk_X12_within_0 hm ⟨by omega, fun e => absurd (by omega) e, fun _ => ⟨by omega, fun _ => mloop 4096 0 rfl ha, fun e => absurd (by omega) e⟩⟩⟩
      · exact ⟨0, bk_X11_within_0 hs (Or.inr ⟨f, g, q i, x_wishAt1 hs h hi, Or.inr ⟨f, g, q j, x_wishAt1 hs h hj, hb⟩⟩), bk_X12_within_0 hm ⟨by omega, fun e => absurd (by omega) e, fun _ => ⟨by omega, fun _ => mloopN 4096 0 rfl ha, fun e => absurd (by omega) e⟩⟩⟩
    · exact ⟨-1, bk_X11_within_0 hs (Or.inr ⟨f, g, q i, x_wishAt1 hs h hi, Or.inl ⟨f, g, x_wishAt0 hs h hy, rfl⟩⟩), bk_X12_within_0 hm ⟨by omega, fun e => absurd (by omega) e, fun _ => ⟨by omega, fun e => absurd (by omega) hy, fun _ => rfl⟩⟩⟩
  · have h2 : Ex mt 1 148 (il σ f g) [vR 11 (some B), vI x, vI y] (il σ f g, [vI (-1)]) := by
      refine bk_X11_within_0 hs (Or.inl ⟨f, g, x_wishAt0 hs h hx, ?_⟩)
      by_cases hy : 0 ≤ y ∧ y < w
      · obtain ⟨j, rfl⟩ := Int.eq_ofNat_of_zero_le hy.1
        exact Or.inr ⟨f, g, _, x_wishAt1 hs h (by omega), rfl⟩
      · exact Or.inl ⟨f, g, x_wishAt0 hs h hy, rfl⟩
    exact ⟨-1, h2, bk_X12_within_0 hm ⟨by omega, fun _ => rfl, fun e => absurd (by omega) hx⟩⟩
def A_X11_quarrel_28 (σ : St) (f : FI) (g : FL) (x3 : Nat) (x4 : Nat) (x5 : Int) (r : St × List Vl) : Prop := ∀ (y0 : Option Nat) (y1 : Int) (y2 : Int), Gx mt 3 cd_X11_quarrel (il σ f g) (cd_X11_quarrel 28) [some (vR 11 y0), some (vI y1), some (vI y2), some (vR 10 (some x3)), some (vR 10 (some x4)), some (vI x5)] [] r
theorem bk_X11_quarrel_0 {σ : St} {f : FI} {g : FL} {a : Nat} {x1 : Int} {x2 : Int} {r : St × List Vl} (hs : Sh11 σ a) (h : ((∃ (f1 : FI) (g2 : FL), Ex mt 0 188 (il σ f g) [vR 11 (some a), vI x1] ((il σ f1 g2), [vR 10 none]) ∧ ((∃ (f14 : FI) (g15 : FL), Ex mt 0 188 (il σ f1 g2) [vR 11 (some a), vI x2] ((il σ f14 g15), [vR 10 none]) ∧ (r = ((il σ f14 g15), [vI (-2)]))) ∨ (∃ (f14 : FI) (g15 : FL) (q17 : Nat), Ex mt 0 188 (il σ f1 g2) [vR 11 (some a), vI x2] ((il σ f14 g15), [vR 10 (some q17)]) ∧ (r = ((il σ f14 g15), [vI (-2)]))))) ∨ (∃ (f1 : FI) (g2 : FL) (q4 : Nat), Ex mt 0 188 (il σ f g) [vR 11 (some a), vI x1] ((il σ f1 g2), [vR 10 (some q4)]) ∧ ((∃ (f5 : FI) (g6 : FL), Ex mt 0 188 (il σ f1 g2) [vR 11 (some a), vI x2] ((il σ f5 g6), [vR 10 none]) ∧ (r = ((il σ f5 g6), [vI (-2)]))) ∨ (∃ (f5 : FI) (g6 : FL) (q8 : Nat), Ex mt 0 188 (il σ f1 g2) [vR 11 (some a), vI x2] ((il σ f5 g6), [vR 10 (some q8)]) ∧ (A_X11_quarrel_28 σ f5 g6 q4 q8 0 r)))))) : Ex mt 3 152 (il σ f g) [vR 11 (some a), vI x1, vI x2] r := Ex.mk mt_152 (show Gx mt 3 cd_X11_quarrel (il σ f g) b_X11_quarrel_0 [some (vR 11 (some a)), some (vI x1), some (vI x2), none, none, none] [] r from (go_loadA rfl (go_loadI rfl (Or.elim h (fun h13q => (Exists.elim h13q fun f1 w22 => Exists.elim w22 fun g2 h13 => (go_callV rfl rfl rfl h13.1 (go_stoA rfl rfl (go_loadA rfl (go_loadI rfl (Or.elim h13.2 (fun h18q => (Exists.elim h18q fun f14 w19 => Exists.elim w19 fun g15 h18 => (go_callV rfl rfl rfl h18.1 (go_stoA rfl rfl (go_loadA rfl (go_nullN (go_pushI rfl (h18.2 ▸ gq_retI)))))))) (fun h16q => (Exists.elim h16q fun f14 w20 => Exists.elim w20 fun g15 w21 => Exists.elim w21 fun q17 h16 => (go_callV rfl rfl rfl h16.1 (go_stoA rfl rfl (go_loadA rfl (go_nullN (go_pushI rfl (h16.2 ▸ gq_retI))))))))))))))) (fun h3q => (Exists.elim h3q fun f1 w23 => Exists.elim w23 fun g2 w24 => Exists.elim w24 fun q4 h3 => (go_callV rfl rfl rfl h3.1 (go_stoA rfl rfl (go_loadA rfl (go_loadI rfl (Or.elim h3.2 (fun h9q => (Exists.elim h9q fun f5 w10 => Exists.elim w10 fun g6 h9 => (go_callV rfl rfl rfl h9.1 (go_stoA rfl rfl (go_loadA rfl (go_nullS (go_loadA rfl (go_nnullN (go_fall (go_pushI rfl (h9.2 ▸ gq_retI))))))))))) (fun h7q => (Exists.elim h7q fun f5 w11 => Exists.elim w11 fun g6 w12 => Exists.elim w12 fun q8 h7 => (go_callV rfl rfl rfl h7.1 (go_stoA rfl rfl (go_loadA rfl (go_nullS (go_loadA rfl (go_nnullS (go_pushI rfl (go_stoI rfl rfl (go_fall (h7.2 _ _ _)))))))))))))))))))))))
theorem bk_X11_quarrel_28 {σ : St} {f : FI} {g : FL} {x3 : Nat} {x4 : Nat} {x5 : Int} {r : St × List Vl}  (h : ((512 ≤ x5 → (r = ((il σ f g), [vI (-1)]))) ∧ (¬ 512 ≤ x5 → (∃ (f4 : FI) (g5 : FL) (v7 : Int), Ex mt 1 136 (il σ f g) [vR 10 (some x3), vI x5] ((il σ f4 g5), [vI v7]) ∧ ((¬ v7 = 0 → ((-2147483648 ≤ (x5 + 1) ∧ (x5 + 1) ≤ 2147483647)) ∧ (A_X11_quarrel_28 σ f4 g5 x3 x4 (x5 + 1) r)) ∧ (v7 = 0 → (∃ (f11 : FI) (g12 : FL) (v14 : Int), Ex mt 1 136 (il σ f4 g5) [vR 10 (some x4), vI x5] ((il σ f11 g12), [vI v14]) ∧ ((¬ v14 = 0 → ((-2147483648 ≤ (x5 + 1) ∧ (x5 + 1) ≤ 2147483647)) ∧ (A_X11_quarrel_28 σ f11 g12 x3 x4 (x5 + 1) r)) ∧ (v14 = 0 → (∃ (f18 : FI) (g19 : FL) (v21 : Int), Ex mt 2 138 (il σ f11 g12) [vR 10 (some x3), vR 10 (some x4), vI x5] ((il σ f18 g19), [vI v21]) ∧ ((v21 = (-1) → ((-2147483648 ≤ (x5 + 1) ∧ (x5 + 1) ≤ 2147483647)) ∧ (A_X11_quarrel_28 σ f18 g19 x3 x4 (x5 + 1) r)) ∧ (¬ v21 = (-1) → (r = ((il σ f18 g19), [vI x5])))))))))))))) : A_X11_quarrel_28 σ f g x3 x4 x5 r := fun y0 y1 y2 => (show Gx mt 3 cd_X11_quarrel (il σ f g) b_X11_quarrel_28 [some (vR 11 y0), some (vI y1), some (vI y2), some (vR 10 (some x3)), some (vR 10 (some x4)), some (vI x5)] [] r from (go_loadI rfl (go_pushI rfl (gq_icmp_ge (fun e3 => have h1 := h.1 e3; (go_pushI rfl (h1 ▸ gq_retI))) (fun e3 => have h2 := h.2 e3; (go_loadA rfl (go_loadI rfl (Exists.elim h2 fun f4 w29 => Exists.elim w29 fun g5 w30 => Exists.elim w30 fun v7 h6 => (go_callV rfl rfl rfl h6.1 (gq_if_ne (fun e10 => have h8 := h6.2.1 e10; (go_iinc rfl h8.1 rfl (go_goto (h8.2 _ _ _)))) (fun e10 => have h9 := h6.2.2 e10; (go_loadA rfl (go_loadI rfl (Exists.elim h9 fun f11 w27 => Exists.elim w27 fun g12 w28 => Exists.elim w28 fun v14 h13 => (go_callV rfl rfl rfl h13.1 (gq_if_ne (fun e17 => have h15 := h13.2.1 e17; (go_iinc rfl h15.1 rfl (go_goto (h15.2 _ _ _)))) (fun e17 => have h16 := h13.2.2 e17; (go_loadA rfl (go_loadA rfl (go_loadI rfl (Exists.elim h16 fun f18 w25 => Exists.elim w25 fun g19 w26 => Exists.elim w26 fun v21 h20 => (go_callV rfl rfl rfl h20.1 (go_pushI rfl (gq_icmp_eq (fun e24 => have h22 := h20.2.1 e24; (go_iinc rfl h22.1 rfl (go_goto (h22.2 _ _ _)))) (fun e24 => have h23 := h20.2.2 e24; (go_loadI rfl (h23 ▸ gq_retI)))))))))))))))))))))))))))
def A_X12_quarrel_21 (σ : St) (f : FI) (g : FL) (a : Nat) (x1 : Int) (x2 : Int) (x3 : Int) (r : St × List Vl) : Prop := Gx mt 2 cd_X12_quarrel (il σ f g) (cd_X12_quarrel 21) [some (vR 12 (some a)), some (vI x1), some (vI x2), some (vI x3)] [] r
theorem bk_X12_quarrel_0 {σ : St} {f : FI} {g : FL} {a : Nat} {x1 : Int} {x2 : Int} {r : St × List Vl} (hs : Sh12 σ a) (h : ((-2147483648 ≤ f a 4 - 1 ∧ f a 4 - 1 ≤ 2147483647) ∧ (-2147483648 ≤ x1 ∧ x1 ≤ 2147483647)) ∧ ((¬ ((0 ≤ x1 ∧ x1 ≤ f a 4 - 1)) → (r = ((il σ f g), [vI (-2)]))) ∧ (((0 ≤ x1 ∧ x1 ≤ f a 4 - 1)) → ((-2147483648 ≤ f a 4 - 1 ∧ f a 4 - 1 ≤ 2147483647) ∧ (-2147483648 ≤ x2 ∧ x2 ≤ 2147483647)) ∧ ((((0 ≤ x2 ∧ x2 ≤ f a 4 - 1)) → (A_X12_quarrel_21 σ f g a x1 x2 0 r)) ∧ (¬ ((0 ≤ x2 ∧ x2 ≤ f a 4 - 1)) → (r = ((il σ f g), [vI (-2)]))))))) : Ex mt 2 239 (il σ f g) [vR 12 (some a), vI x1, vI x2] r := Ex.mk mt_239 (show Gx mt 2 cd_X12_quarrel (il σ f g) b_X12_quarrel_0 [some (vR 12 (some a)), some (vI x1), some (vI x2), none] [] r from (go_loadA rfl (go_loadI rfl (go_callV rfl rfl rfl (pu_isWish hs h.1.1 h.1.2) (go_ifb_eq (fun e3 => have h1 := h.2.1 e3; (go_pushI rfl (h1 ▸ gq_retI))) (fun e3 => have h2 := h.2.2 e3; (go_loadA rfl (go_loadI rfl (go_callV rfl rfl rfl (pu_isWish hs h2.1.1 h2.1.2) (go_ifb_ne (fun e6 => have h4 := h2.2.1 e6; (go_pushI rfl (go_stoI rfl rfl (go_fall (h4))))) (fun e6 => have h5 := h2.2.2 e6; (go_fall (go_pushI rfl (h5 ▸ gq_retI))))))))))))))
theorem bk_X12_quarrel_21 {σ : St} {f : FI} {g : FL} {a : Nat} {x1 : Int} {x2 : Int} {x3 : Int} {r : St × List Vl} (hs : Sh12 σ a) (h : ((512 ≤ x3 → (r = ((il σ f g), [vI (-1)]))) ∧ (¬ 512 ≤ x3 → (∃ (f4 : FI) (g5 : FL) (v7 : Int), Ex mt 0 233 (il σ f g) [vR 12 (some a), vI x1, vI x2, vI x3] ((il σ f4 g5), [vI v7]) ∧ ((8 ≤ v7 → ((-2147483648 ≤ (x3 + 1) ∧ (x3 + 1) ≤ 2147483647)) ∧ (A_X12_quarrel_21 σ f4 g5 a x1 x2 (x3 + 1) r)) ∧ (¬ 8 ≤ v7 → ((0 ≤ x1 ∧ x1 < 12) ∧ (0 ≤ x3 ∧ x3 < 512)) ∧ (((many (rwM g5 a x1 x3) : Int) ≤ 0 → ((-2147483648 ≤ (x3 + 1) ∧ (x3 + 1) ≤ 2147483647)) ∧ (A_X12_quarrel_21 σ f4 g5 a x1 x2 (x3 + 1) r)) ∧ (¬ (many (rwM g5 a x1 x3) : Int) ≤ 0 → ((0 ≤ x2 ∧ x2 < 12) ∧ (0 ≤ x3 ∧ x3 < 512)) ∧ (((many (rwM g5 a x2 x3) : Int) ≤ 0 → ((-2147483648 ≤ (x3 + 1) ∧ (x3 + 1) ≤ 2147483647)) ∧ (A_X12_quarrel_21 σ f4 g5 a x1 x2 (x3 + 1) r)) ∧ (¬ (many (rwM g5 a x2 x3) : Int) ≤ 0 → (r = ((il σ f4 g5), [vI x3])))))))))))) : A_X12_quarrel_21 σ f g a x1 x2 x3 r := (show Gx mt 2 cd_X12_quarrel (il σ f g) b_X12_quarrel_21 [some (vR 12 (some a)), some (vI x1), some (vI x2), some (vI x3)] [] r from (go_loadI rfl (go_pushI rfl (gq_icmp_ge (fun e3 => have h1 := h.1 e3; (go_pushI rfl (h1 ▸ gq_retI))) (fun e3 => have h2 := h.2 e3; (go_loadA rfl (go_loadI rfl (go_loadI rfl (go_loadI rfl (Exists.elim h2 fun f4 w17 => Exists.elim w17 fun g5 w18 => Exists.elim w18 fun v7 h6 => (go_callV rfl rfl rfl h6.1 (go_pushI rfl (gq_icmp_ge (fun e10 => have h8 := h6.2.1 e10; (go_iinc rfl h8.1 rfl (go_goto (h8.2)))) (fun e10 => have h9 := h6.2.2 e10; (go_loadA rfl (go_loadI rfl (go_loadI rfl (go_callV rfl rfl rfl (pu_many hs h9.1.1 h9.1.2) (gq_if_le (fun e13 => have h11 := h9.2.1 e13; (go_iinc rfl h11.1 rfl (go_goto (h11.2)))) (fun e13 => have h12 := h9.2.2 e13; (go_loadA rfl (go_loadI rfl (go_loadI rfl (go_callV rfl rfl rfl (pu_many hs h12.1.1 h12.1.2) (gq_if_le (fun e16 => have h14 := h12.2.1 e16; (go_iinc rfl h14.1 rfl (go_goto (h14.2)))) (fun e16 => have h15 := h12.2.2 e16; (go_loadI rfl (h15 ▸ gq_retI))))))))))))))))))))))))))))
theorem c_quarrel {σ : St} {f : FI} {g : FL} {B w : Nat} {q md : Nat → Nat} (hs : Sh11 σ B) (hm : Sh12 σ (B + 165)) (h : IW σ f g B w q md) {x y : Int} (rx : -2147483648 ≤ x ∧ x ≤ 2147483647) (ry : -2147483648 ≤ y ∧ y ≤ 2147483647) : ∃ v : Int, Ex mt 3 152 (il σ f g) [vR 11 (some B), vI x, vI y] (il σ f g, [vI v]) ∧ Ex mt 2 239 (il σ f g) [vR 12 (some (B + 165)), vI x, vI y] (il σ f g, [vI v]) := by
  have h1 := h.1
  by_cases hx : 0 ≤ x ∧ x < w
  · obtain ⟨i, rfl⟩ := Int.eq_ofNat_of_zero_le hx.1
    have hi : i < w := by omega
    have hw := (h.2 i hi).2.1
    by_cases hy : 0 ≤ y ∧ y < w
    · obtain ⟨j, rfl⟩ := Int.eq_ofNat_of_zero_le hy.1
      have hj : j < w := by omega
      have hw2 := (h.2 j hj).2.1
      have loop : ∀ k p : Nat, p + k = 512 → ∃ v : Int, A_X11_quarrel_28 σ f g (q i) (q j) (p : Int) (il σ f g, [vI v]) ∧ A_X12_quarrel_21 σ f g (B + 165) (i : Int) (j : Int) (p : Int) (il σ f g, [vI v]) := by
        intro k
        induction k with
        | zero =>
          intro p hp
          obtain rfl : p = 512 := by omega
          exact ⟨-1, bk_X11_quarrel_28 ⟨fun _ => rfl, fun e => absurd (by decide) e⟩, bk_X12_quarrel_21 hm ⟨fun _ => rfl, fun e => absurd (by decide) e⟩⟩
        | succ k ih =>
          intro p hp
          have hr1 := h.row hi (p := (p : Int)) (by omega)
          have hr2 := h.row hj (p := (p : Int)) (by omega)
          have em1 := many_cong hr1
          have em2 := many_cong hr2
          obtain ⟨v, hv, hpb⟩ := x_partsBy (f := f) (g := g) hw hw2 (p := (p : Int)) (by omega)
          obtain ⟨m, m1, m2, m3, hu⟩ := x_unlike (f := f) (g := g) hm (w := (i : Int)) (u := (j : Int)) (p := (p : Int)) (by omega) (by omega) (by omega)
          have n1 := x_makesNone (f := f) (g := g) hw (p := (p : Int)) (by omega)
          have n2 := x_makesNone (f := f) (g := g) hw2 (p := (p : Int)) (by omega)
          rw [em1] at n1
          rw [em2] at n2
          obtain ⟨u, c, mm⟩ := ih (p + 1) (by omega)
          have hvm : v = -1 ↔ m = 8 := by
            rcases hv with ⟨rfl, hv⟩ | ⟨T, rfl, hT, hne, hlt⟩
            · refine ⟨fun _ => ?_, fun _ => rfl⟩
              apply Decidable.byContradiction
              intro hm8
              exact m3 (by omega) (by rw [← hr1 m (by omega), ← hr2 m (by omega)]; exact hv m (by omega))
            · refine ⟨fun e => by omega, fun e => ?_⟩
              subst e
              exfalso
              have := m2 (T / 64) (by omega)
              exact hne (by rw [rb_cong hr1 hT, rb_cong hr2 hT]; unfold rb; rw [this])
          by_cases z1 : many (rwM g (B + 165) (i : Int) (p : Int)) = 0
          · refine ⟨u, bk_X11_quarrel_28 ⟨fun e => absurd e (by omega), fun _ => ⟨f, g, _, n1, fun _ => ⟨by omega, c⟩, fun e => absurd z1 ((bI_0 _).mp e)⟩⟩, bk_X12_quarrel_21 hm ⟨fun e => absurd e (by omega), fun _ => ⟨f, g, _, hu, fun _ => ⟨by omega, mm⟩, fun _ => ⟨⟨by omega, by omega⟩, fun _ => ⟨by omega, mm⟩, fun e => absurd (by omega) e⟩⟩⟩⟩
          · by_cases z2 : many (rwM g (B + 165) (j : Int) (p : Int)) = 0
            · refine ⟨u, bk_X11_quarrel_28 ⟨fun e => absurd e (by omega), fun _ => ⟨f, g, _, n1, fun e => absurd ((bI_0 _).mpr z1) e, fun _ => ⟨f, g, _, n2, fun _ => ⟨by omega, c⟩, fun e => absurd z2 ((bI_0 _).mp e)⟩⟩⟩, bk_X12_quarrel_21 hm ⟨fun e => absurd e (by omega), fun _ => ⟨f, g, _, hu, fun _ => ⟨by omega, mm⟩, fun _ => ⟨⟨by omega, by omega⟩, fun e => absurd e (by omega), fun _ => ⟨⟨by omega, by omega⟩, fun _ => ⟨by omega, mm⟩, fun e => absurd (by omega) e⟩⟩⟩⟩⟩
            · by_cases z3 : v = -1
              · have hm8 := hvm.mp z3
                refine ⟨u, bk_X11_quarrel_28 ⟨fun e => absurd e (by omega), fun _ => ⟨f, g, _, n1, fun e => absurd ((bI_0 _).mpr z1) e, fun _ => ⟨f, g, _, n2, fun e => absurd ((bI_0 _).mpr z2) e, fun _ => ⟨f, g, _, hpb, fun _ => ⟨by omega, c⟩, fun e => absurd z3 e⟩⟩⟩⟩, bk_X12_quarrel_21 hm ⟨fun e => absurd e (by omega), fun _ => ⟨f, g, _, hu, fun _ => ⟨by omega, mm⟩, fun e => absurd (by omega) e⟩⟩⟩
              · have hm8 : ¬ m = 8 := fun e => z3 (hvm.mpr e)
                refine ⟨p, bk_X11_quarrel_28 ⟨fun e => absurd e (by omega), fun _ => ⟨f, g, _, n1, fun e => absurd ((bI_0 _).mpr z1) e, fun _ => ⟨f, g, _, n2, fun e => absurd ((bI_0 _).mpr z2) e, fun _ => ⟨f, g, _, hpb, fun e => absurd e z3, fun _ => rfl⟩⟩⟩⟩, bk_X12_quarrel_21 hm ⟨fun e => absurd e (by omega), fun _ => ⟨f, g, _, hu, fun e => absurd e (by omega), fun _ => ⟨⟨by omega, by omega⟩, fun e => absurd e (by omega), fun _ => ⟨⟨by omega, by omega⟩, fun e => absurd e (by omega), fun _ => rfl⟩⟩⟩⟩⟩
      obtain ⟨v, hc, hM⟩ := loop 512 0 rfl
      exact ⟨v, bk_X11_quarrel_0 hs (Or.inr ⟨f, g, q i, x_wishAt1 hs h hi, Or.inr ⟨f, g, q j, x_wishAt1 hs h hj, hc⟩⟩), bk_X12_quarrel_0 hm ⟨by omega, fun e => absurd (by omega) e, fun _ => ⟨by omega, fun _ => hM, fun e => absurd (by omega) e⟩⟩⟩
    · exact ⟨-2, bk_X11_quarrel_0 hs (Or.inr ⟨f, g, q i, x_wishAt1 hs h hi, Or.inl ⟨f, g, x_wishAt0 hs h hy, rfl⟩⟩), bk_X12_quarrel_0 hm ⟨by omega, fun e => absurd (by omega) e, fun _ => ⟨by omega, fun e => absurd (by omega) hy, fun _ => rfl⟩⟩⟩
  · have h2 : Ex mt 3 152 (il σ f g) [vR 11 (some B), vI x, vI y] (il σ f g, [vI (-2)]) := by
      refine bk_X11_quarrel_0 hs (Or.inl ⟨f, g, x_wishAt0 hs h hx, ?_⟩)
      by_cases hy : 0 ≤ y ∧ y < w
      · obtain ⟨j, rfl⟩ := Int.eq_ofNat_of_zero_le hy.1
        exact Or.inr ⟨f, g, _, x_wishAt1 hs h (by omega), rfl⟩
      · exact Or.inl ⟨f, g, x_wishAt0 hs h hy, rfl⟩
    exact ⟨-2, h2, bk_X12_quarrel_0 hm ⟨by omega, fun _ => rfl, fun e => absurd (by omega) hx⟩⟩
