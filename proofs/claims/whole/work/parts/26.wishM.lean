/-! the model reads its wishes -/
theorem bk_X12_isWish_0 {σ : St} {f : FI} {g : FL} {a : Nat} {x1 : Int} {r : St × List Vl} (hs : Sh12 σ a) (h : ((-2147483648 ≤ ((f a 4) - 1) ∧ ((f a 4) - 1) ≤ 2147483647) ∧ (-2147483648 ≤ x1 ∧ x1 ≤ 2147483647)) ∧ (r = ((il σ f g), [vI (bI (0 ≤ x1 ∧ x1 ≤ ((f a 4) - 1)))]))) : Ex mt 1 227 (il σ f g) [vR 12 (some a), vI x1] r := Ex.mk mt_227 (show Gx mt 1 cd_X12_isWish (il σ f g) b_X12_isWish_0 [some (vR 12 (some a)), some (vI x1)] [] r from (go_loadI rfl (go_i2l (go_pushL rfl (go_loadA rfl (gi_getI (go_pushI rfl (go_isub h.1.1 (go_i2l (go_callS rfl rfl rfl (pu_in h.1.2 ⟨by decide, by decide⟩ h.1.1 (v := x1) (lo := 0) (hi := ((f a 4) - 1))) (h.2 ▸ (gq_retZ (bI_01 _)))))))))))))
theorem bk_X12_makesOf_0 {σ : St} {f : FI} {g : FL} {a : Nat} {x1 : Int} {x2 : Int} {x3 : Int} {r : St × List Vl} (hs : Sh12 σ a) (h : ((-2147483648 ≤ (4096 * x1) ∧ (4096 * x1) ≤ 2147483647) ∧ (-2147483648 ≤ (8 * x2) ∧ (8 * x2) ≤ 2147483647) ∧ (-2147483648 ≤ ((4096 * x1) + (8 * x2)) ∧ ((4096 * x1) + (8 * x2)) ≤ 2147483647) ∧ (-2147483648 ≤ x3 ∧ x3 ≤ 2147483647) ∧ (-2147483648 ≤ (((4096 * x1) + (8 * x2)) + (x3 / 64)) ∧ (((4096 * x1) + (8 * x2)) + (x3 / 64)) ≤ 2147483647) ∧ (0 ≤ (((4096 * x1) + (8 * x2)) + (x3 / 64)) ∧ (((4096 * x1) + (8 * x2)) + (x3 / 64)) < 49152) ∧ (0 ≤ (x3 % 64) ∧ (x3 % 64) < 64)) ∧ ((¬ ((BitVec.sshiftRight (g (a + 10) (((((4096 * x1) + (8 * x2)) + (x3 / 64))).toNat)) (((x3 % 64)).toNat)) &&& (1#64)) = (1#64) → (r = ((il σ f g), [vI 0]))) ∧ (((BitVec.sshiftRight (g (a + 10) (((((4096 * x1) + (8 * x2)) + (x3 / 64))).toNat)) (((x3 % 64)).toNat)) &&& (1#64)) = (1#64) → (r = ((il σ f g), [vI 1]))))) : Ex mt 0 228 (il σ f g) [vR 12 (some a), vI x1, vI x2, vI x3] r := Ex.mk mt_228 (show Gx mt 0 cd_X12_makesOf (il σ f g) b_X12_makesOf_0 [some (vR 12 (some a)), some (vI x1), some (vI x2), some (vI x3)] [] r from (go_loadA rfl (gi_getR (Sh12.r20 hs) (go_pushI rfl (go_loadI rfl (go_imul h.1.1 (go_pushI rfl (go_loadI rfl (go_imul h.1.2.1 (go_iadd h.1.2.2.1 (go_loadI rfl (go_pushI rfl (go_ishr (iShr_6 h.1.2.2.2.1) (go_iadd h.1.2.2.2.2.1 (gi_lald (inl_ (Sh12.l20 hs) h.1.2.2.2.2.2.1) (go_loadI rfl (go_pushI rfl (go_iand (iAnd_m63 _) (go_lshr (lShr_v h.1.2.2.2.2.2.2) (go_pushL rfl (go_land (go_pushL rfl (go_lcmp rfl (go_lif_ne (fun e3 => have h1 := h.2.1 e3; (go_pushI rfl (go_fall (h1 ▸ (gq_retZ ⟨by decide, by decide⟩))))) (fun e3 => have h2 := h.2.2 e3; (go_pushI rfl (go_goto (h2 ▸ (gq_retZ ⟨by decide, by decide⟩)))))))))))))))))))))))))))))
theorem pu_isWish {σ : St} {f : FI} {g : FL} {a : Nat} {w : Int} (hs : Sh12 σ a) (h1 : -2147483648 ≤ f a 4 - 1 ∧ f a 4 - 1 ≤ 2147483647) (h2 : -2147483648 ≤ w ∧ w ≤ 2147483647) : Ex mt 1 227 (il σ f g) [vR 12 (some a), vI w] (il σ f g, [vI (bI (0 ≤ w ∧ w ≤ f a 4 - 1))]) := bk_X12_isWish_0 hs ⟨⟨h1, h2⟩, rfl⟩
theorem pu_makesOf {σ : St} {f : FI} {g : FL} {a : Nat} {w p v : Int} (hs : Sh12 σ a) (h1 : 0 ≤ w ∧ w < 12) (h2 : 0 ≤ p ∧ p < 512) (h3 : 0 ≤ v ∧ v < 512) : Ex mt 0 228 (il σ f g) [vR 12 (some a), vI w, vI p, vI v] (il σ f g, [vI (bI (rb (rwM g a w p) v.toNat = true))]) := by
  have e : rb (rwM g a w p) v.toNat = (g (a + 10) (4096 * w + 8 * p + v / 64).toNat).getLsbD (v % 64).toNat := by
    unfold rb rwM
    rw [show (4096 * w + 8 * p).toNat + v.toNat / 64 = (4096 * w + 8 * p + v / 64).toNat by omega, show v.toNat % 64 = (v % 64).toNat by omega]
  refine bk_X12_makesOf_0 hs ⟨by omega, fun h => ?_, fun h => ?_⟩
  · rw [bI_f]
    rw [e]
    intro q
    exact h ((lB_ssh (by omega)).mpr q)
  · rw [bI_t]
    rw [e]
    exact (lB_ssh (by omega)).mp h
def A_X12_many_5 (σ : St) (f : FI) (g : FL) (a : Nat) (x1 : Int) (x2 : Int) (x3 : Int) (x4 : Int) (r : St × List Vl) : Prop := ∀ (y5 : Option Vl) (y6 : Option Vl), Gx mt 0 cd_X12_many (il σ f g) (cd_X12_many 5) [some (vR 12 (some a)), some (vI x1), some (vI x2), some (vI x3), some (vI x4), y5, y6] [] r
def A_X12_many_32 (σ : St) (f : FI) (g : FL) (a : Nat) (x1 : Int) (x2 : Int) (x3 : Int) (x4 : Int) (x5 : BitVec 64) (r : St × List Vl) : Prop := Gx mt 0 cd_X12_many (il σ f g) (cd_X12_many 32) [some (vR 12 (some a)), some (vI x1), some (vI x2), some (vI x3), some (vI x4), some (vL x5), none] [] r
theorem bk_X12_many_0 {σ : St} {f : FI} {g : FL} {a : Nat} {x1 : Int} {x2 : Int} {r : St × List Vl} (hs : Sh12 σ a) (h : (A_X12_many_5 σ f g a x1 x2 0 0 r)) : Ex mt 0 230 (il σ f g) [vR 12 (some a), vI x1, vI x2] r := Ex.mk mt_230 (show Gx mt 0 cd_X12_many (il σ f g) b_X12_many_0 [some (vR 12 (some a)), some (vI x1), some (vI x2), none, none, none, none] [] r from (go_pushI rfl (go_stoI rfl rfl (go_pushI rfl (go_stoI rfl rfl (go_fall (h _ _)))))))
theorem bk_X12_many_5 {σ : St} {f : FI} {g : FL} {a : Nat} {x1 : Int} {x2 : Int} {x3 : Int} {x4 : Int} {r : St × List Vl} (hs : Sh12 σ a) (h : ((8 ≤ x4 → (r = ((il σ f g), [vI x3]))) ∧ (¬ 8 ≤ x4 → ((-2147483648 ≤ (4096 * x1) ∧ (4096 * x1) ≤ 2147483647) ∧ (-2147483648 ≤ (8 * x2) ∧ (8 * x2) ≤ 2147483647) ∧ (-2147483648 ≤ ((4096 * x1) + (8 * x2)) ∧ ((4096 * x1) + (8 * x2)) ≤ 2147483647) ∧ (-2147483648 ≤ (((4096 * x1) + (8 * x2)) + x4) ∧ (((4096 * x1) + (8 * x2)) + x4) ≤ 2147483647) ∧ (0 ≤ (((4096 * x1) + (8 * x2)) + x4) ∧ (((4096 * x1) + (8 * x2)) + x4) < 49152)) ∧ (A_X12_many_32 σ f g a x1 x2 x3 x4 (g (a + 10) (((((4096 * x1) + (8 * x2)) + x4)).toNat)) r)))) : A_X12_many_5 σ f g a x1 x2 x3 x4 r := fun y5 y6 => (show Gx mt 0 cd_X12_many (il σ f g) b_X12_many_5 [some (vR 12 (some a)), some (vI x1), some (vI x2), some (vI x3), some (vI x4), y5, y6] [] r from (go_loadI rfl (go_pushI rfl (gq_icmp_ge (fun e3 => have h1 := h.1 e3; (go_loadI rfl (h1 ▸ gq_retI))) (fun e3 => have h2 := h.2 e3; (go_loadA rfl (gi_getR (Sh12.r20 hs) (go_pushI rfl (go_loadI rfl (go_imul h2.1.1 (go_pushI rfl (go_loadI rfl (go_imul h2.1.2.1 (go_iadd h2.1.2.2.1 (go_loadI rfl (go_iadd h2.1.2.2.2.1 (gi_lald (inl_ (Sh12.l20 hs) h2.1.2.2.2.2) (go_stoL rfl rfl (go_fall (h2.2))))))))))))))))))))
theorem bk_X12_many_32 {σ : St} {f : FI} {g : FL} {a : Nat} {x1 : Int} {x2 : Int} {x3 : Int} {x4 : Int} {x5 : BitVec 64} {r : St × List Vl} (hs : Sh12 σ a) (h : ((x5 = (0#64) → ((-2147483648 ≤ (x4 + 1) ∧ (x4 + 1) ≤ 2147483647)) ∧ (A_X12_many_5 σ f g a x1 x2 x3 (x4 + 1) r)) ∧ (¬ x5 = (0#64) → ((-2147483648 ≤ (x3 + 1) ∧ (x3 + 1) ≤ 2147483647)) ∧ (A_X12_many_32 σ f g a x1 x2 (x3 + 1) x4 (x5 &&& (x5 - (1#64))) r)))) : A_X12_many_32 σ f g a x1 x2 x3 x4 x5 r := (show Gx mt 0 cd_X12_many (il σ f g) b_X12_many_32 [some (vR 12 (some a)), some (vI x1), some (vI x2), some (vI x3), some (vI x4), some (vL x5), none] [] r from (go_loadL rfl (go_pushL rfl (go_lcmp rfl (go_lif_eq (fun e3 => have h1 := h.1 e3; (go_iinc rfl h1.1 rfl (go_goto (h1.2 _ _)))) (fun e3 => have h2 := h.2 e3; (go_loadL rfl (go_loadL rfl (go_pushL rfl (go_lsub (go_land (go_stoL rfl rfl (go_iinc rfl h2.1 rfl (go_goto (h2.2)))))))))))))))
theorem pu_many {σ : St} {f : FI} {g : FL} {a : Nat} {w p : Int} (hs : Sh12 σ a) (h1 : 0 ≤ w ∧ w < 12) (h2 : 0 ≤ p ∧ p < 512) : Ex mt 0 230 (il σ f g) [vR 12 (some a), vI w, vI p] (il σ f g, [vI (many (rwM g a w p) : Int)]) := by
  have inner : ∀ (n : Nat) (x : BitVec 64) (c i : Int) (r : St × List Vl), pc x = n → 0 ≤ c → c + n ≤ 1000 → 0 ≤ i → i < 8 → A_X12_many_5 σ f g a w p (c + n) (i + 1) r → A_X12_many_32 σ f g a w p c i x r := by
    intro n
    induction n with
    | zero =>
      intro x c i r hx h0 hc hi hi2 k
      have : x = 0#64 := by
        apply Decidable.byContradiction
        intro h
        have := pc_clr h
        omega
      rw [Int.natCast_zero, Int.add_zero] at k
      exact bk_X12_many_32 hs ⟨fun _ => ⟨by omega, k⟩, fun h => absurd this h⟩
    | succ n ih =>
      intro x c i r hx h0 hc hi hi2 k
      have hne : ¬ x = 0#64 := by
        rintro rfl
        have : pc 0#64 = 0 := by decide
        omega
      have := pc_clr hne
      refine bk_X12_many_32 hs ⟨fun h => absurd h hne, fun _ => ⟨by omega, ih _ (c + 1) i r (by omega) (by omega) (by omega) hi hi2 ?_⟩⟩
      rw [show c + 1 + (n : Int) = c + ((n + 1 : Nat) : Int) by omega]
      exact k
  have loop : ∀ k i : Nat, i + k = 8 → A_X12_many_5 σ f g a w p (fb_ct (rb (rwM g a w p)) (64 * i) : Int) (i : Int) (il σ f g, [vI (many (rwM g a w p) : Int)]) := by
    intro k
    induction k with
    | zero =>
      intro i hi
      obtain rfl : i = 8 := by omega
      exact bk_X12_many_5 hs ⟨fun _ => rfl, fun h => absurd (by decide) h⟩
    | succ k ih =>
      intro i hi
      have hle := fb_ct_le (rb (rwM g a w p)) (64 * i)
      have h64 := pc_le (g (a + 10) (4096 * w + 8 * p + (i : Int)).toNat)
      have e := rb_word (rwM g a w p) i
      have e2 : rwM g a w p i = g (a + 10) (4096 * w + 8 * p + (i : Int)).toNat := by
        unfold rwM
        congr 1
        omega
      rw [e2] at e
      refine bk_X12_many_5 hs ⟨fun h => absurd h (by omega), fun _ => ⟨by omega, inner _ _ _ _ _ rfl (by omega) (by omega) (by omega) (by omega) ?_⟩⟩
      have := ih (i + 1) (by omega)
      rw [e, Int.natCast_add] at this
      exact this
  exact bk_X12_many_0 hs (loop 8 0 rfl)
def A_X12_kth_6 (σ : St) (f : FI) (g : FL) (a : Nat) (x1 : Int) (x2 : Int) (x3 : Int) (x4 : Int) (x5 : Int) (r : St × List Vl) : Prop := Gx mt 1 cd_X12_kth (il σ f g) (cd_X12_kth 6) [some (vR 12 (some a)), some (vI x1), some (vI x2), some (vI x3), some (vI x4), some (vI x5)] [] r
theorem bk_X12_kth_0 {σ : St} {f : FI} {g : FL} {a : Nat} {x1 : Int} {x2 : Int} {x3 : Int} {r : St × List Vl} (hs : Sh12 σ a) (h : (A_X12_kth_6 σ f g a x1 x2 x3 0 0 r)) : Ex mt 1 229 (il σ f g) [vR 12 (some a), vI x1, vI x2, vI x3] r := Ex.mk mt_229 (show Gx mt 1 cd_X12_kth (il σ f g) b_X12_kth_0 [some (vR 12 (some a)), some (vI x1), some (vI x2), some (vI x3), none, none] [] r from (go_pushI rfl (go_stoI rfl rfl (go_pushI rfl (go_stoI rfl rfl (go_fall (h)))))))
theorem bk_X12_kth_6 {σ : St} {f : FI} {g : FL} {a : Nat} {x1 : Int} {x2 : Int} {x3 : Int} {x4 : Int} {x5 : Int} {r : St × List Vl} (hs : Sh12 σ a) (h : ((512 ≤ x5 → (r = ((il σ f g), [vI (-1)]))) ∧ (¬ 512 ≤ x5 → ((0 ≤ x1 ∧ x1 < 12) ∧ (0 ≤ x2 ∧ x2 < 512) ∧ (0 ≤ x5 ∧ x5 < 512)) ∧ ((¬ ((rb (rwM g a x1 x2) (x5).toNat = true)) → ((-2147483648 ≤ (x5 + 1) ∧ (x5 + 1) ≤ 2147483647)) ∧ (A_X12_kth_6 σ f g a x1 x2 x3 x4 (x5 + 1) r)) ∧ (((rb (rwM g a x1 x2) (x5).toNat = true)) → ((¬ x4 = x3 → ((-2147483648 ≤ (x4 + 1) ∧ (x4 + 1) ≤ 2147483647)) ∧ ((-2147483648 ≤ (x5 + 1) ∧ (x5 + 1) ≤ 2147483647)) ∧ (A_X12_kth_6 σ f g a x1 x2 x3 (x4 + 1) (x5 + 1) r)) ∧ (x4 = x3 → (r = ((il σ f g), [vI x5]))))))))) : A_X12_kth_6 σ f g a x1 x2 x3 x4 x5 r := (show Gx mt 1 cd_X12_kth (il σ f g) b_X12_kth_6 [some (vR 12 (some a)), some (vI x1), some (vI x2), some (vI x3), some (vI x4), some (vI x5)] [] r from (go_loadI rfl (go_pushI rfl (gq_icmp_ge (fun e3 => have h1 := h.1 e3; (go_pushI rfl (h1 ▸ gq_retI))) (fun e3 => have h2 := h.2 e3; (go_loadA rfl (go_loadI rfl (go_loadI rfl (go_loadI rfl (go_callV rfl rfl rfl (pu_makesOf hs h2.1.1 h2.1.2.1 h2.1.2.2) (go_ifb_eq (fun e6 => have h4 := h2.2.1 e6; (go_iinc rfl h4.1 rfl (go_goto (h4.2)))) (fun e6 => have h5 := h2.2.2 e6; (go_loadI rfl (go_loadI rfl (gq_icmp_ne (fun e9 => have h7 := h5.1 e9; (go_iinc rfl h7.1 rfl (go_fall (go_iinc rfl h7.2.1 rfl (go_goto (h7.2.2)))))) (fun e9 => have h8 := h5.2 e9; (go_loadI rfl (h8 ▸ gq_retI))))))))))))))))))
def A_X12_unlike_3 (σ : St) (f : FI) (g : FL) (a : Nat) (x1 : Int) (x2 : Int) (x3 : Int) (x4 : Int) (r : St × List Vl) : Prop := Gx mt 0 cd_X12_unlike (il σ f g) (cd_X12_unlike 3) [some (vR 12 (some a)), some (vI x1), some (vI x2), some (vI x3), some (vI x4)] [] r
theorem bk_X12_unlike_0 {σ : St} {f : FI} {g : FL} {a : Nat} {x1 : Int} {x2 : Int} {x3 : Int} {r : St × List Vl} (hs : Sh12 σ a) (h : (A_X12_unlike_3 σ f g a x1 x2 x3 0 r)) : Ex mt 0 233 (il σ f g) [vR 12 (some a), vI x1, vI x2, vI x3] r := Ex.mk mt_233 (show Gx mt 0 cd_X12_unlike (il σ f g) b_X12_unlike_0 [some (vR 12 (some a)), some (vI x1), some (vI x2), some (vI x3), none] [] r from (go_pushI rfl (go_stoI rfl rfl (go_fall (h)))))
theorem bk_X12_unlike_3 {σ : St} {f : FI} {g : FL} {a : Nat} {x1 : Int} {x2 : Int} {x3 : Int} {x4 : Int} {r : St × List Vl} (hs : Sh12 σ a) (h : ((8 ≤ x4 → (r = ((il σ f g), [vI x4]))) ∧ (¬ 8 ≤ x4 → ((-2147483648 ≤ (4096 * x1) ∧ (4096 * x1) ≤ 2147483647) ∧ (-2147483648 ≤ (8 * x3) ∧ (8 * x3) ≤ 2147483647) ∧ (-2147483648 ≤ ((4096 * x1) + (8 * x3)) ∧ ((4096 * x1) + (8 * x3)) ≤ 2147483647) ∧ (-2147483648 ≤ (((4096 * x1) + (8 * x3)) + x4) ∧ (((4096 * x1) + (8 * x3)) + x4) ≤ 2147483647) ∧ (0 ≤ (((4096 * x1) + (8 * x3)) + x4) ∧ (((4096 * x1) + (8 * x3)) + x4) < 49152) ∧ (-2147483648 ≤ (4096 * x2) ∧ (4096 * x2) ≤ 2147483647) ∧ (-2147483648 ≤ ((4096 * x2) + (8 * x3)) ∧ ((4096 * x2) + (8 * x3)) ≤ 2147483647) ∧ (-2147483648 ≤ (((4096 * x2) + (8 * x3)) + x4) ∧ (((4096 * x2) + (8 * x3)) + x4) ≤ 2147483647) ∧ (0 ≤ (((4096 * x2) + (8 * x3)) + x4) ∧ (((4096 * x2) + (8 * x3)) + x4) < 49152)) ∧ ((¬ (g (a + 10) (((((4096 * x1) + (8 * x3)) + x4)).toNat)) = (g (a + 10) (((((4096 * x2) + (8 * x3)) + x4)).toNat)) → (r = ((il σ f g), [vI x4]))) ∧ ((g (a + 10) (((((4096 * x1) + (8 * x3)) + x4)).toNat)) = (g (a + 10) (((((4096 * x2) + (8 * x3)) + x4)).toNat)) → ((-2147483648 ≤ (x4 + 1) ∧ (x4 + 1) ≤ 2147483647)) ∧ (A_X12_unlike_3 σ f g a x1 x2 x3 (x4 + 1) r)))))) : A_X12_unlike_3 σ f g a x1 x2 x3 x4 r := (show Gx mt 0 cd_X12_unlike (il σ f g) b_X12_unlike_3 [some (vR 12 (some a)), some (vI x1), some (vI x2), some (vI x3), some (vI x4)] [] r from (go_loadI rfl (go_pushI rfl (gq_icmp_ge (fun e3 => have h1 := h.1 e3; (go_loadI rfl (h1 ▸ gq_retI))) (fun e3 => have h2 := h.2 e3; (go_loadA rfl (gi_getR (Sh12.r20 hs) (go_pushI rfl (go_loadI rfl (go_imul h2.1.1 (go_pushI rfl (go_loadI rfl (go_imul h2.1.2.1 (go_iadd h2.1.2.2.1 (go_loadI rfl (go_iadd h2.1.2.2.2.1 (gi_lald (inl_ (Sh12.l20 hs) h2.1.2.2.2.2.1) (go_loadA rfl (gi_getR (Sh12.r20 hs) (go_pushI rfl (go_loadI rfl (go_imul h2.1.2.2.2.2.2.1 (go_pushI rfl (go_loadI rfl (go_imul h2.1.2.1 (go_iadd h2.1.2.2.2.2.2.2.1 (go_loadI rfl (go_iadd h2.1.2.2.2.2.2.2.2.1 (gi_lald (inl_ (Sh12.l20 hs) h2.1.2.2.2.2.2.2.2.2) (go_lcmp rfl (go_lif_ne (fun e6 => have h4 := h2.2.1 e6; (go_loadI rfl (h4 ▸ gq_retI))) (fun e6 => have h5 := h2.2.2 e6; (go_iinc rfl h5.1 rfl (go_goto (h5.2)))))))))))))))))))))))))))))))))))
theorem x_kth {σ : St} {f : FI} {g : FL} {a : Nat} {w p k : Int} (hs : Sh12 σ a) (h1 : 0 ≤ w ∧ w < 12) (h2 : 0 ≤ p ∧ p < 512) (hk : 0 ≤ k) : ∃ v : Int, Kth (rwM g a w p) k v ∧ Ex mt 1 229 (il σ f g) [vR 12 (some a), vI w, vI p, vI k] (il σ f g, [vI v]) := by
  have loop : ∀ n t : Nat, t + n = 512 → (fb_ct (rb (rwM g a w p)) t : Int) ≤ k → ∃ v : Int, Kth (rwM g a w p) k v ∧ A_X12_kth_6 σ f g a w p k (fb_ct (rb (rwM g a w p)) t : Int) (t : Int) (il σ f g, [vI v]) := by
    intro n
    induction n with
    | zero =>
      intro t ht hc
      obtain rfl : t = 512 := by omega
      refine ⟨-1, Or.inl ⟨rfl, fun h => ?_⟩, bk_X12_kth_6 hs ⟨fun _ => rfl, fun h => absurd (by decide) h⟩⟩
      have e : fb_ct (rb (rwM g a w p)) 512 = many (rwM g a w p) := rfl
      omega
    | succ n ih =>
      intro t ht hc
      have hle := fb_ct_le (rb (rwM g a w p)) t
      have es := fb_ct_succ (rb (rwM g a w p)) t
      have et : (t : Int).toNat = t := by omega
      cases hb : rb (rwM g a w p) t with
      | false =>
        rw [hb] at es
        obtain ⟨v, hv, ha⟩ := ih (t + 1) (by omega) (by rw [es]; simpa using hc)
        rw [es] at ha
        refine ⟨v, hv, bk_X12_kth_6 hs ⟨fun h => absurd h (by omega), fun _ => ⟨⟨h1, h2, by omega⟩, fun _ => ⟨by omega, ha⟩, fun h => ?_⟩⟩⟩
        rw [et, hb] at h
        exact absurd h (by decide)
      | true =>
        rw [hb] at es
        by_cases hck : (fb_ct (rb (rwM g a w p)) t : Int) = k
        · refine ⟨t, Or.inr ⟨t, rfl, by omega, hb, hck⟩, bk_X12_kth_6 hs ⟨fun h => absurd h (by omega), fun _ => ⟨⟨h1, h2, by omega⟩, fun h => ?_, fun _ => ⟨fun h => absurd hck h, fun _ => rfl⟩⟩⟩⟩
          rw [et, hb] at h
          exact absurd rfl h
        · obtain ⟨v, hv, ha⟩ := ih (t + 1) (by omega) (by rw [es]; simp; omega)
          rw [es] at ha
          refine ⟨v, hv, bk_X12_kth_6 hs ⟨fun h => absurd h (by omega), fun _ => ⟨⟨h1, h2, by omega⟩, fun h => ?_, fun _ => ⟨fun _ => ⟨by omega, by omega, ha⟩, fun h => absurd h hck⟩⟩⟩⟩
          rw [et, hb] at h
          exact absurd rfl h
  obtain ⟨v, hv, ha⟩ := loop 512 0 rfl hk
  exact ⟨v, hv, bk_X12_kth_0 hs ha⟩
theorem x_unlike {σ : St} {f : FI} {g : FL} {a : Nat} {w u p : Int} (hs : Sh12 σ a) (h1 : 0 ≤ w ∧ w < 12) (h1u : 0 ≤ u ∧ u < 12) (h2 : 0 ≤ p ∧ p < 512) : ∃ i : Nat, i ≤ 8 ∧ (∀ j, j < i → rwM g a w p j = rwM g a u p j) ∧ (i < 8 → ¬ rwM g a w p i = rwM g a u p i) ∧ Ex mt 0 233 (il σ f g) [vR 12 (some a), vI w, vI u, vI p] (il σ f g, [vI (i : Int)]) := by
  have loop : ∀ k i : Nat, i + k = 8 → (∀ j, j < i → rwM g a w p j = rwM g a u p j) → ∃ m : Nat, m ≤ 8 ∧ (∀ j, j < m → rwM g a w p j = rwM g a u p j) ∧ (m < 8 → ¬ rwM g a w p m = rwM g a u p m) ∧ A_X12_unlike_3 σ f g a w u p (i : Int) (il σ f g, [vI (m : Int)]) := by
    intro k
    induction k with
    | zero =>
      intro i hi hj
      obtain rfl : i = 8 := by omega
      exact ⟨8, Nat.le_refl _, hj, fun h => absurd h (Nat.lt_irrefl _), bk_X12_unlike_3 hs ⟨fun _ => rfl, fun h => absurd (by decide) h⟩⟩
    | succ k ih =>
      intro i hi hj
      have e1 : rwM g a w p i = g (a + 10) (4096 * w + 8 * p + (i : Int)).toNat := by unfold rwM; congr 1; omega
      have e2 : rwM g a u p i = g (a + 10) (4096 * u + 8 * p + (i : Int)).toNat := by unfold rwM; congr 1; omega
      by_cases hx : rwM g a w p i = rwM g a u p i
      · obtain ⟨m, m1, m2, m3, ha⟩ := ih (i + 1) (by omega) fun j hj2 => by
          by_cases z : j = i
          · subst z; exact hx
          · exact hj j (by omega)
        rw [e1, e2] at hx
        exact ⟨m, m1, m2, m3, bk_X12_unlike_3 hs ⟨fun h => absurd h (by omega), fun _ => ⟨by omega, fun h => absurd hx h, fun _ => ⟨by omega, ha⟩⟩⟩⟩
      · refine ⟨i, by omega, hj, fun _ => hx, ?_⟩
        rw [e1, e2] at hx
        exact bk_X12_unlike_3 hs ⟨fun h => absurd h (by omega), fun _ => ⟨by omega, fun _ => rfl, fun h => absurd h hx⟩⟩
  obtain ⟨m, m1, m2, m3, ha⟩ := loop 8 0 rfl fun j hj => absurd hj (Nat.not_lt_zero j)
  exact ⟨m, m1, m2, m3, bk_X12_unlike_0 hs ha⟩
