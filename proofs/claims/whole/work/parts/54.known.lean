/-! known -/
theorem bk_X12_isKnown_0 {σ : St} {f : FI} {g : FL} {a : Nat} {x1 : Int} {x2 : Int} {r : St × List Vl} (hs : Sh12 σ a) (h : ((-2147483648 ≤ x2 ∧ x2 ≤ 2147483647) ∧ (0 ≤ x1 ∧ x1 < 32)) ∧ ((¬ ((x2 / p2 x1) % 2) = 1 → ((0 ≤ (f a 69) ∧ (f a 69) < 31) ∧ (-2147483648 ≤ ((p2 (f a 69)) - 1) ∧ ((p2 (f a 69)) - 1) ≤ 2147483647) ∧ (-2147483648 ≤ x2 ∧ x2 ≤ 2147483647) ∧ (0 ≤ x1 ∧ x1 < 31) ∧ (-2147483648 ≤ (p2 x1) ∧ (p2 x1) ≤ 2147483647) ∧ (0 ≤ x1 ∧ x1 < 16)) ∧ (∃ (f4 : FI) (g5 : FL) (v7 : Int), Ex mt 0 294 (il σ f g) [vR 12 (some a), vI (f (a + 47) ((x1).toNat)), vI (iAnd (iAnd ((p2 (f a 69)) - 1) (-1 - x2)) (-1 - (p2 x1)))] ((il σ f4 g5), [vI v7]) ∧ ((0 ≤ x1 ∧ x1 < 16) ∧ (-2147483648 ≤ v7 ∧ v7 ≤ 2147483647) ∧ (0 ≤ (f4 (a + 48) ((x1).toNat)) ∧ (f4 (a + 48) ((x1).toNat)) < 32)) ∧ ((¬ ((v7 / p2 (f4 (a + 48) ((x1).toNat))) % 2) = 0 → (r = ((il σ f4 g5), [vI 0]))) ∧ (((v7 / p2 (f4 (a + 48) ((x1).toNat))) % 2) = 0 → (r = ((il σ f4 g5), [vI 1])))))) ∧ (((x2 / p2 x1) % 2) = 1 → (r = ((il σ f g), [vI 1]))))) : Ex mt 1 295 (il σ f g) [vR 12 (some a), vI x1, vI x2] r := Ex.mk mt_295 (show Gx mt 1 cd_X12_isKnown (il σ f g) b_X12_isKnown_0 [some (vR 12 (some a)), some (vI x1), some (vI x2), none] [] r from (go_loadI rfl (go_loadI rfl (go_ishr (iShr_v h.1.1 h.1.2) (go_pushI rfl (go_iand (iAnd_m1 _) (go_pushI rfl (gq_icmp_ne (fun e3 => have h1 := h.2.1 e3; (go_pushI rfl (go_loadA rfl (gi_getI (go_ishl (iShl_1 h1.1.1) (go_pushI rfl (go_isub h1.1.2.1 (go_loadI rfl (go_pushI rfl (go_ixor (iXor_m1 h1.1.2.2.1) (go_iand rfl (go_pushI rfl (go_loadI rfl (go_ishl (iShl_1 h1.1.2.2.2.1) (go_pushI rfl (go_ixor (iXor_m1 h1.1.2.2.2.2.1) (go_iand rfl (go_stoI rfl rfl (go_loadA rfl (go_loadA rfl (gi_getR (Sh12.r71 hs) (go_loadI rfl (gi_iald (inl_ (Sh12.l71 hs) h1.1.2.2.2.2.2) (go_loadI rfl (Exists.elim h1.2 fun f4 w11 => Exists.elim w11 fun g5 w12 => Exists.elim w12 fun v7 h6 => (go_callV rfl rfl rfl h6.1 (go_loadA rfl (gi_getR (Sh12.r72 hs) (go_loadI rfl (gi_iald (inl_ (Sh12.l72 hs) h6.2.1.1) (go_ishr (iShr_v h6.2.1.2.1 h6.2.1.2.2) (go_pushI rfl (go_iand (iAnd_m1 _) (gq_if_ne (fun e10 => have h8 := h6.2.2.1 e10; (go_pushI rfl (go_fall (h8 ▸ (gq_retZ ⟨by decide, by decide⟩))))) (fun e10 => have h9 := h6.2.2.2 e10; (go_pushI rfl (go_goto (h9 ▸ (gq_retZ ⟨by decide, by decide⟩))))))))))))))))))))))))))))))))))))))) (fun e3 => have h2 := h.2.2 e3; (go_pushI rfl (h2 ▸ (gq_retZ ⟨by decide, by decide⟩))))))))))))
theorem bk_X12_isCables_0 {σ : St} {f : FI} {g : FL} {a : Nat} {x1 : Int} {r : St × List Vl} (hs : Sh12 σ a) (h : ((x1 < 0 → (r = ((il σ f g), [vI 0]))) ∧ (¬ x1 < 0 → ((-2147483648 ≤ x1 ∧ x1 ≤ 2147483647) ∧ (0 ≤ (f a 69) ∧ (f a 69) < 32)) ∧ ((¬ (x1 / p2 (f a 69)) = 0 → (r = ((il σ f g), [vI 0]))) ∧ ((x1 / p2 (f a 69)) = 0 → (r = ((il σ f g), [vI 1]))))))) : Ex mt 0 296 (il σ f g) [vR 12 (some a), vI x1] r := Ex.mk mt_296 (show Gx mt 0 cd_X12_isCables (il σ f g) b_X12_isCables_0 [some (vR 12 (some a)), some (vI x1)] [] r from (go_loadI rfl (gq_if_lt (fun e3 => have h1 := h.1 e3; (go_pushI rfl (go_fall (h1 ▸ (gq_retZ ⟨by decide, by decide⟩))))) (fun e3 => have h2 := h.2 e3; (go_loadI rfl (go_loadA rfl (gi_getI (go_ishr (iShr_v h2.1.1 h2.1.2) (gq_if_ne (fun e6 => have h4 := h2.2.1 e6; (go_pushI rfl (go_fall (h4 ▸ (gq_retZ ⟨by decide, by decide⟩))))) (fun e6 => have h5 := h2.2.2 e6; (go_pushI rfl (go_goto (h5 ▸ (gq_retZ ⟨by decide, by decide⟩))))))))))))))
theorem bk_X0_areThere_0 {σ : St} {f : FI} {g : FL} {a : Nat} {x1 : Int} {r : St × List Vl} (hs : Sh0 σ a) (h : ((0 ≤ (f a 2) ∧ (f a 2) < 31) ∧ (-2147483648 ≤ ((p2 (f a 2)) - 1) ∧ ((p2 (f a 2)) - 1) ≤ 2147483647)) ∧ (r = ((il σ f g), [vI (bI (0 ≤ x1 ∧ x1 ≤ ((p2 (f a 2)) - 1)))]))) : Ex mt 1 2 (il σ f g) [vR 0 (some a), vI x1] r := Ex.mk mt_2 (show Gx mt 1 cd_X0_areThere (il σ f g) b_X0_areThere_0 [some (vR 0 (some a)), some (vI x1)] [] r from (go_loadI rfl (go_pushI rfl (go_loadA rfl (gi_getI (go_ishl (iShl_1 h.1.1) (go_pushI rfl (go_isub h.1.2 (go_callS rfl rfl rfl (pu_upTo) (h.2 ▸ (gq_retZ (bI_01 _))))))))))))
def A_X0_knownWith_4 (σ : St) (f : FI) (g : FL) (a : Nat) (x1 : Int) (x2 : Int) (x3 : Int) (r : St × List Vl) : Prop := Gx mt 3 cd_X0_knownWith (il σ f g) (cd_X0_knownWith 4) [some (vR 0 (some a)), some (vI x1), some (vI x2), some (vI x3)] [] r
theorem bk_X0_knownWith_0 {σ : St} {f : FI} {g : FL} {a : Nat} {x1 : Int} {r : St × List Vl} (hs : Sh0 σ a) (h : (A_X0_knownWith_4 σ f g a x1 x1 0 r)) : Ex mt 3 3 (il σ f g) [vR 0 (some a), vI x1] r := Ex.mk mt_3 (show Gx mt 3 cd_X0_knownWith (il σ f g) b_X0_knownWith_0 [some (vR 0 (some a)), some (vI x1), none, none] [] r from (go_loadI rfl (go_stoI rfl rfl (go_pushI rfl (go_stoI rfl rfl (go_fall (h)))))))
theorem bk_X0_knownWith_4 {σ : St} {f : FI} {g : FL} {a : Nat} {x1 : Int} {x2 : Int} {x3 : Int} {r : St × List Vl} (hs : Sh0 σ a) (h : (((f a 2) ≤ x3 → (r = ((il σ f g), [vI x2]))) ∧ (¬ (f a 2) ≤ x3 → ((-2147483648 ≤ x1 ∧ x1 ≤ 2147483647) ∧ (0 ≤ x3 ∧ x3 < 32)) ∧ ((((hB x1 x3)) → ((-2147483648 ≤ (x3 + 1) ∧ (x3 + 1) ≤ 2147483647)) ∧ (A_X0_knownWith_4 σ f g a x1 x2 (x3 + 1) r)) ∧ (¬ ((hB x1 x3)) → (∃ (f7 : FI) (g8 : FL) (v10 : Int), Ex mt 2 4 (il σ f g) [vR 0 (some a), vI x3, vI x1] ((il σ f7 g8), [vI v10]) ∧ ((¬ v10 = 0 → ((-2147483648 ≤ (x3 + 1) ∧ (x3 + 1) ≤ 2147483647)) ∧ (A_X0_knownWith_4 σ f7 g8 a x1 x2 (x3 + 1) r)) ∧ (v10 = 0 → ((0 ≤ x3 ∧ x3 < 31)) ∧ ((-2147483648 ≤ (x3 + 1) ∧ (x3 + 1) ≤ 2147483647)) ∧ (A_X0_knownWith_4 σ f7 g8 a x1 (iOr x2 (p2 x3)) (x3 + 1) r))))))))) : A_X0_knownWith_4 σ f g a x1 x2 x3 r := (show Gx mt 3 cd_X0_knownWith (il σ f g) b_X0_knownWith_4 [some (vR 0 (some a)), some (vI x1), some (vI x2), some (vI x3)] [] r from (go_loadI rfl (go_loadA rfl (gi_getI (gq_icmp_ge (fun e3 => have h1 := h.1 e3; (go_loadI rfl (h1 ▸ gq_retI))) (fun e3 => have h2 := h.2 e3; (go_loadI rfl (go_loadI rfl (go_callS rfl rfl rfl (pu_hasBit h2.1.1 h2.1.2) (go_ifb_ne (fun e6 => have h4 := h2.2.1 e6; (go_iinc rfl h4.1 rfl (go_goto (h4.2)))) (fun e6 => have h5 := h2.2.2 e6; (go_loadA rfl (go_loadI rfl (go_loadI rfl (Exists.elim h5 fun f7 w14 => Exists.elim w14 fun g8 w15 => Exists.elim w15 fun v10 h9 => (go_callV rfl rfl rfl h9.1 (gq_if_ne (fun e13 => have h11 := h9.2.1 e13; (go_iinc rfl h11.1 rfl (go_goto (h11.2)))) (fun e13 => have h12 := h9.2.2 e13; (go_loadI rfl (go_pushI rfl (go_loadI rfl (go_ishl (iShl_1 h12.1) (go_ior rfl (go_stoI rfl rfl (go_fall (go_iinc rfl h12.2.1 rfl (go_goto (h12.2.2))))))))))))))))))))))))))))
theorem bk_X11_known_0 {σ : St} {f : FI} {g : FL} {a : Nat} {x1 : Int} {r : St × List Vl} (hs : Sh11 σ a) (h : (∃ (f1 : FI) (g2 : FL) (v4 : Int), Ex mt 1 2 (il σ f g) [vR 0 (some (a + 162)), vI x1] ((il σ f1 g2), [vI v4]) ∧ ((v4 = 0 → (r = ((il σ f1 g2), [vI (-1)]))) ∧ (¬ v4 = 0 → (∃ (f8 : FI) (g9 : FL) (v11 : Int), Ex mt 3 3 (il σ f1 g2) [vR 0 (some (a + 162)), vI x1] ((il σ f8 g9), [vI v11]) ∧ (r = ((il σ f8 g9), [vI v11]))))))) : Ex mt 4 179 (il σ f g) [vR 11 (some a), vI x1] r := Ex.mk mt_179 (show Gx mt 4 cd_X11_known (il σ f g) b_X11_known_0 [some (vR 11 (some a)), some (vI x1)] [] r from (go_loadA rfl (gi_getR (Sh11.r13 hs) (go_loadI rfl (Exists.elim h fun f1 w14 => Exists.elim w14 fun g2 w15 => Exists.elim w15 fun v4 h3 => (go_callV rfl rfl rfl h3.1 (gq_if_eq (fun e7 => have h5 := h3.2.1 e7; (go_pushI rfl (go_fall (h5 ▸ gq_retI)))) (fun e7 => have h6 := h3.2.2 e7; (go_loadA rfl (gi_getR (Sh11.r13 hs) (go_loadI rfl (Exists.elim h6 fun f8 w12 => Exists.elim w12 fun g9 w13 => Exists.elim w13 fun v11 h10 => (go_callV rfl rfl rfl h10.1 (go_goto (h10.2 ▸ gq_retI)))))))))))))))
def A_X12_known_14 (σ : St) (f : FI) (g : FL) (a : Nat) (x1 : Int) (x2 : Int) (x3 : Int) (r : St × List Vl) : Prop := Gx mt 2 cd_X12_known (il σ f g) (cd_X12_known 14) [some (vR 12 (some a)), some (vI x1), some (vI x2), some (vI x3)] [] r
theorem bk_X12_known_0 {σ : St} {f : FI} {g : FL} {a : Nat} {x1 : Int} {r : St × List Vl} (hs : Sh12 σ a) (h : (∃ (f1 : FI) (g2 : FL) (v4 : Int), Ex mt 0 296 (il σ f g) [vR 12 (some a), vI x1] ((il σ f1 g2), [vI v4]) ∧ ((¬ v4 = 0 → (A_X12_known_14 σ f1 g2 a x1 0 0 r)) ∧ (v4 = 0 → (r = ((il σ f1 g2), [vI (-1)])))))) : Ex mt 2 297 (il σ f g) [vR 12 (some a), vI x1] r := Ex.mk mt_297 (show Gx mt 2 cd_X12_known (il σ f g) b_X12_known_0 [some (vR 12 (some a)), some (vI x1), none, none] [] r from (go_loadA rfl (go_loadI rfl (Exists.elim h fun f1 w8 => Exists.elim w8 fun g2 w9 => Exists.elim w9 fun v4 h3 => (go_callV rfl rfl rfl h3.1 (gq_if_ne (fun e7 => have h5 := h3.2.1 e7; (go_pushI rfl (go_stoI rfl rfl (go_pushI rfl (go_stoI rfl rfl (go_fall (h5))))))) (fun e7 => have h6 := h3.2.2 e7; (go_pushI rfl (h6 ▸ gq_retI)))))))))
theorem bk_X12_known_14 {σ : St} {f : FI} {g : FL} {a : Nat} {x1 : Int} {x2 : Int} {x3 : Int} {r : St × List Vl} (hs : Sh12 σ a) (h : (((f a 69) ≤ x3 → (r = ((il σ f g), [vI x2]))) ∧ (¬ (f a 69) ≤ x3 → (∃ (f4 : FI) (g5 : FL) (v7 : Int), Ex mt 1 295 (il σ f g) [vR 12 (some a), vI x3, vI x1] ((il σ f4 g5), [vI v7]) ∧ ((v7 = 0 → ((-2147483648 ≤ (x3 + 1) ∧ (x3 + 1) ≤ 2147483647)) ∧ (A_X12_known_14 σ f4 g5 a x1 (iOr x2 0) (x3 + 1) r)) ∧ (¬ v7 = 0 → ((0 ≤ x3 ∧ x3 < 31)) ∧ ((-2147483648 ≤ (x3 + 1) ∧ (x3 + 1) ≤ 2147483647)) ∧ (A_X12_known_14 σ f4 g5 a x1 (iOr x2 (p2 x3)) (x3 + 1) r))))))) : A_X12_known_14 σ f g a x1 x2 x3 r := (show Gx mt 2 cd_X12_known (il σ f g) b_X12_known_14 [some (vR 12 (some a)), some (vI x1), some (vI x2), some (vI x3)] [] r from (go_loadI rfl (go_loadA rfl (gi_getI (gq_icmp_ge (fun e3 => have h1 := h.1 e3; (go_loadI rfl (h1 ▸ gq_retI))) (fun e3 => have h2 := h.2 e3; (go_loadI rfl (go_loadA rfl (go_loadI rfl (go_loadI rfl (Exists.elim h2 fun f4 w11 => Exists.elim w11 fun g5 w12 => Exists.elim w12 fun v7 h6 => (go_callV rfl rfl rfl h6.1 (gq_if_eq (fun e10 => have h8 := h6.2.1 e10; (go_pushI rfl (go_fall (go_ior rfl (go_stoI rfl rfl (go_iinc rfl h8.1 rfl (go_goto (h8.2)))))))) (fun e10 => have h9 := h6.2.2 e10; (go_pushI rfl (go_loadI rfl (go_ishl (iShl_1 h9.1) (go_goto (go_ior rfl (go_stoI rfl rfl (go_iinc rfl h9.2.1 rfl (go_goto (h9.2.2)))))))))))))))))))))))
theorem div_or {T x y : Nat} : ((T / 2 ^ x ||| T / 2 ^ y) % 2 = 1) ↔ (T.testBit x = true ∨ T.testBit y = true) := by
  rw [Nat.or_mod_two_eq_one, Nat.testBit_eq_decide_div_mod_eq, Nat.testBit_eq_decide_div_mod_eq, decide_eq_true_iff, decide_eq_true_iff]
theorem idiv_p2 {T x : Nat} : (T : Int) / p2 (x : Int) = ((T / 2 ^ x : Nat) : Int) := by
  rw [p2_Nat, Int.natCast_ediv]
/-- the model walks until nothing more is reached -/
theorem x_reached {σ : St} {f : FI} {g : FL} {M n D a b0 : Nat} {e o : Nat → Nat} (hm : Sh12 σ M) (hc : Cab n e o D) (h2 : f M 69 = (n : Int)) (h3 : f M 70 = (D : Int)) (he : ∀ i, i < n → f (M + 47) i = (e i : Int) ∧ f (M + 48) i = (o i : Int)) (ha : a < 8) (hb0 : b0 < 65536) : ∃ T : Nat, Okr n e o D (fun i => b0.testBit i = true) a T ∧ Clo n e o D (fun i => b0.testBit i = true) T ∧ Ex mt 0 294 (il σ f g) [vR 12 (some M), vI (a : Int), vI (b0 : Int)] (il σ f g, [vI (T : Int)]) := by
  have n16 := hc.1
  have hD := hc.2.1
  have sweep : ∀ (w : Int) (k i : Nat), i + k = n → ∀ T : Nat, Okr n e o D (fun i => b0.testBit i = true) a T → ∃ T' : Nat, Okr n e o D (fun i => b0.testBit i = true) a T' ∧ Sub T T' ∧ (T' = T → ∀ j, i ≤ j → j < n → b0.testBit j = true → (T.testBit (e j) = true ↔ T.testBit (o j) = true)) ∧ (∀ r, A_X12_reached_7 σ f g M (b0 : Int) (T' : Int) w r → A_X12_reached_39 σ f g M (b0 : Int) (T : Int) w (i : Int) r) := by
    intro w k
    induction k with
    | zero =>
      intro i hi T hT
      obtain rfl : i = n := by omega
      exact ⟨T, hT, Sub.rfl', fun _ j h1 h2 => by omega, fun r A => bk_X12_reached_39 hm ⟨fun _ => A, fun z => absurd (by rw [h2]; omega) z⟩⟩
    | succ k ih =>
      intro i hi T hT
      have hin : i < n := by omega
      have hei := hc.2.2 i hin
      have T8 := hT.1
      have nge : ¬ f M 69 ≤ (i : Int) := by rw [h2]; omega
      have fe : f (M + 47) (i : Int).toNat = (e i : Int) := (he i hin).1
      have fo : f (M + 48) (i : Int).toNat = (o i : Int) := (he i hin).2
      have dl : ∀ x, T / 2 ^ x < 2147483648 := fun x => Nat.lt_of_le_of_lt (Nat.div_le_self _ _) (by omega)
      have same : (b0.testBit i = true → ¬ T.testBit (e i) = true ∧ ¬ T.testBit (o i) = true) → ∃ T' : Nat, Okr n e o D (fun i => b0.testBit i = true) a T' ∧ Sub T T' ∧ (T' = T → ∀ j, i ≤ j → j < n → b0.testBit j = true → (T.testBit (e j) = true ↔ T.testBit (o j) = true)) ∧ (∀ r, A_X12_reached_7 σ f g M (b0 : Int) (T' : Int) w r → A_X12_reached_39 σ f g M (b0 : Int) (iOr (T : Int) 0) w ((i : Int) + 1) r) := fun q => by
        obtain ⟨T', a1, a3, a4, a5⟩ := ih (i + 1) (by omega) T hT
        refine ⟨T', a1, a3, fun z j h1 h2 h3 => ?_, fun r A => by rw [iOr_0 (by omega)]; exact a5 r A⟩
        by_cases y : j = i
        · subst y
          exact ⟨fun x => absurd x (q h3).1, fun x => absurd x (q h3).2⟩
        · exact a4 z j (by omega) h2 h3
      have ob : ((-2147483648 : Int) ≤ (b0 : Int) ∧ (b0 : Int) ≤ 2147483647) ∧ ((0 : Int) ≤ (i : Int) ∧ (i : Int) < 32) := ⟨by omega, by omega⟩
      by_cases hon : b0.testBit i = true
      · have hb : (b0 : Int) / p2 (i : Int) % 2 = 1 := hB_nat.mpr hon
        have ob2 : ((0 : Int) ≤ (i : Int) ∧ (i : Int) < 16) ∧ ((-2147483648 : Int) ≤ (T : Int) ∧ (T : Int) ≤ 2147483647) ∧ ((0 : Int) ≤ f (M + 47) (i : Int).toNat ∧ f (M + 47) (i : Int).toNat < 32) ∧ ((0 : Int) ≤ f (M + 48) (i : Int).toNat ∧ f (M + 48) (i : Int).toNat < 32) := by rw [fe, fo]; exact ⟨by omega, by omega, by omega, by omega⟩
        have cond : iOr ((T : Int) / p2 (f (M + 47) (i : Int).toNat)) ((T : Int) / p2 (f (M + 48) (i : Int).toNat)) % 2 = 1 ↔ (T.testBit (e i) = true ∨ T.testBit (o i) = true) := by
          rw [fe, fo, idiv_p2, idiv_p2, iOr_nat (dl _) (dl _), ← div_or]
          omega
        by_cases hit : T.testBit (e i) = true ∨ T.testBit (o i) = true
        · have p1 : 2 ^ e i < 2 ^ 8 := p2_lt hei.1
          have p2' : 2 ^ o i < 2 ^ 8 := p2_lt hei.2
          have bl : 2 ^ e i ||| 2 ^ o i < 2 ^ 8 := Nat.or_lt_two_pow p1 p2'
          have s1 : ∀ x R : Nat, R.testBit x = true → Sub (2 ^ x) R := fun x R h i hi z => by
            rw [Nat.testBit_two_pow] at z
            have : x = i := by simpa using z
            rw [← this]; exact h
          have T1 : Okr n e o D (fun i => b0.testBit i = true) a (T ||| (2 ^ e i ||| 2 ^ o i)) := by
            refine ⟨Nat.or_lt_two_pow (n := 8) T8 bl, by rw [Nat.testBit_or, hT.2.1]; rfl, fun R hR hRa => or_subs.mpr ⟨hT.2.2 R hR hRa, ?_⟩⟩
            have sT := hT.2.2 R hR hRa
            have both : R.testBit (e i) = true ∧ R.testBit (o i) = true := by
              rcases hit with z | z
              · have q := sT _ hei.1 z
                exact ⟨q, (hR.2 i hin hon).mp q⟩
              · have q := sT _ hei.2 z
                exact ⟨(hR.2 i hin hon).mpr q, q⟩
            exact or_subs.mpr ⟨s1 _ _ both.1, s1 _ _ both.2⟩
          obtain ⟨T', a1, a3, a4, a5⟩ := ih (i + 1) (by omega) _ T1
          have sT := (or_subs.mp a3).1
          refine ⟨T', a1, sT, fun z j h1 h2 h3 => ?_, fun r A => bk_X12_reached_39 hm ⟨fun z => absurd z nge, fun _ => ⟨ob, fun z => absurd hb z, fun _ => ⟨ob2, fun z => absurd (cond.mpr hit) z, fun _ => ⟨⟨by omega, by rw [fe]; omega, by rw [fo]; omega⟩, by omega, ?_⟩⟩⟩⟩⟩
          · subst z
            have e1 : T' = T' ||| (2 ^ e i ||| 2 ^ o i) := Sub.eq T8 T1.1 (fun i hi z => by rw [Nat.testBit_or, z]; rfl) a3
            by_cases y : j = i
            · subst y
              have q := (or_subs.mp (or_subs.mp a3).2)
              exact ⟨fun _ => q.2 _ hei.2 (by rw [Nat.testBit_two_pow]; simp), fun _ => q.1 _ hei.1 (by rw [Nat.testBit_two_pow]; simp)⟩
            · rw [← e1] at a4
              exact a4 rfl j (by omega) h2 h3
          · rw [fe, fo, p2_Nat, p2_Nat, iOr_nat (by omega) (by omega), iOr_nat (by omega) (by omega)]
            exact a5 r A
        · obtain ⟨T', a1, a3, a4, a5⟩ := same fun _ => ⟨fun z => hit (Or.inl z), fun z => hit (Or.inr z)⟩
          exact ⟨T', a1, a3, a4, fun r A => bk_X12_reached_39 hm ⟨fun z => absurd z nge, fun _ => ⟨ob, fun z => absurd hb z, fun _ => ⟨ob2, fun _ => ⟨by omega, a5 r A⟩, fun z => absurd (cond.mp z) hit⟩⟩⟩⟩
      · obtain ⟨T', a1, a3, a4, a5⟩ := same fun z => absurd z hon
        exact ⟨T', a1, a3, a4, fun r A => bk_X12_reached_39 hm ⟨fun z => absurd z nge, fun _ => ⟨ob, fun _ => ⟨by omega, a5 r A⟩, fun z => absurd (hB_nat.mp z) hon⟩⟩⟩
  have walks : ∀ k T : Nat, 8 ≤ cb 8 T + k → Okr n e o D (fun i => b0.testBit i = true) a T → ∀ w : Int, (w = T → Clo n e o D (fun i => b0.testBit i = true) T) → ∃ T' : Nat, Okr n e o D (fun i => b0.testBit i = true) a T' ∧ Clo n e o D (fun i => b0.testBit i = true) T' ∧ A_X12_reached_7 σ f g M (b0 : Int) (T : Int) w (il σ f g, [vI (T' : Int)]) := by
    intro k
    induction k with
    | zero =>
      intro T hk hT w hw
      have T8 := hT.1
      by_cases z : w = T
      · exact ⟨T, hT, hw z, bk_X12_reached_7 hm ⟨fun _ => rfl, fun y => absurd z y⟩⟩
      · have full : ∀ x, x < 8 → T.testBit x = true := fun x hx => cb_full (by have := cb_le 8 T; omega) hx
        have cl : Clo n e o D (fun i => b0.testBit i = true) T := ⟨fun x y _ hy _ _ _ => full y hy, fun i hi _ => ⟨fun _ => full _ (hc.2.2 i hi).2, fun _ => full _ (hc.2.2 i hi).1⟩⟩
        have top : ∀ R, R < 256 → Sub T R → R = T := fun R hR h => Sub.eq hR T8 (fun x hx _ => full x hx) h
        obtain ⟨T1, a1, a3, a4, a5⟩ := sweep T n 0 (by omega) T hT
        have e1 := top T1 a1.1 a3
        rw [e1] at a5
        have A39 := a5 _ (bk_X12_reached_7 hm ⟨fun _ => rfl, fun y => absurd rfl y⟩)
        refine ⟨T, hT, cl, bk_X12_reached_7 hm ⟨fun y => absurd y z, fun _ => ⟨fun _ => ?_, fun _ => ?_⟩⟩⟩
        · rw [iOr_0 (by omega)]; exact A39
        · rw [h3, iOr_nat (by omega) (by omega), top (T ||| D) (Nat.or_lt_two_pow (n := 8) T8 hD) (fun i hi z => by rw [Nat.testBit_or, z]; rfl)]
          exact A39
    | succ k ih =>
      intro T hk hT w hw
      have T8 := hT.1
      by_cases z : w = T
      · exact ⟨T, hT, hw z, bk_X12_reached_7 hm ⟨fun _ => rfl, fun y => absurd z y⟩⟩
      · -- after the edges
        have T1 : ∃ T1 : Nat, Okr n e o D (fun i => b0.testBit i = true) a T1 ∧ Sub T T1 ∧ (T1 = T → Dcl D T) ∧ ∀ r, A_X12_reached_39 σ f g M (b0 : Int) (T1 : Int) (T : Int) 0 r → A_X12_reached_7 σ f g M (b0 : Int) (T : Int) w r := by
          by_cases hit : iAnd (T : Int) (D : Int) = 0
          · have no := (and_0 T8 hD).mp hit
            exact ⟨T, hT, Sub.rfl', fun _ x y hx hy h1 h2 h4 => absurd ⟨h4, h1⟩ (no x hx), fun r A => bk_X12_reached_7 hm ⟨fun y => absurd y z, fun _ => ⟨fun _ => by rw [iOr_0 (by omega)]; exact A, fun y => absurd (by rw [h3]; exact hit) y⟩⟩⟩
          · refine ⟨T ||| D, ⟨Nat.or_lt_two_pow (n := 8) T8 hD, by rw [Nat.testBit_or, hT.2.1]; rfl, fun R hR hRa => or_subs.mpr ⟨hT.2.2 R hR hRa, ?_⟩⟩, fun i hi z => by rw [Nat.testBit_or, z]; rfl, fun y x1 x2 hx1 hx2 h1 h2 h4 => by rw [← y, Nat.testBit_or, h2, Bool.or_true], fun r A => bk_X12_reached_7 hm ⟨fun y => absurd y z, fun _ => ⟨fun y => absurd (by rw [h3] at y; exact y) hit, fun _ => by rw [h3, iOr_nat (by omega) (by omega)]; exact A⟩⟩⟩
            have : ∃ x, x < 8 ∧ T.testBit x = true ∧ D.testBit x = true := Classical.byContradiction fun z => hit ((and_0 T8 hD).mpr fun x hx y => z ⟨x, hx, y.1, y.2⟩)
            obtain ⟨x, hx, x1, x2⟩ := this
            exact fun i hi y => hR.1 x i hx hi x2 y (hT.2.2 R hR hRa x hx x1)
        obtain ⟨T1, b1, b2, b3, b4⟩ := T1
        obtain ⟨T2, a1, a3, a4, a5⟩ := sweep T n 0 (by omega) T1 b1
        by_cases y : T2 = T
        · have e1 : T1 = T := Sub.eq b1.1 T8 (by rw [← y]; exact a3) b2
          have cl : Clo n e o D (fun i => b0.testBit i = true) T := ⟨b3 e1, fun j hj hon => by
            have := a4 (by rw [y, e1]) j (by omega) hj hon
            rw [e1] at this
            exact this⟩
          refine ⟨T, hT, cl, b4 _ (a5 _ ?_)⟩
          rw [y]
          exact bk_X12_reached_7 hm ⟨fun _ => rfl, fun x => absurd rfl x⟩
        · have up := cb_sub T8 a1.1 (b2.tr a3) (fun x => y x.symm)
          obtain ⟨T', c1, c2, A⟩ := ih T2 (by omega) a1 (T : Int) (fun x => absurd (by omega) y)
          exact ⟨T', c1, c2, b4 _ (a5 _ A)⟩
  have pa : 2 ^ a < 2 ^ 8 := p2_lt ha
  have pos : 0 < 2 ^ a := Nat.two_pow_pos a
  obtain ⟨T, t1, t2, A⟩ := walks 8 (2 ^ a) (by omega) ⟨pa, by rw [Nat.testBit_two_pow]; simp, fun R _ h i hi z => by
    rw [Nat.testBit_two_pow] at z
    have : a = i := by simpa using z
    rw [← this]; exact h⟩ 0 (fun z => absurd z (by omega))
  exact ⟨T, t1, t2, bk_X12_reached_0 hm ⟨by omega, by rw [p2_Nat]; exact A⟩⟩
/-- a flow is known -/
def Kn (n : Nat) (e o : Nat → Nat) (D : Nat) (tp c : Nat) : Prop := tp.testBit c = true ∨ ∃ R, Clo n e o D (fun i => ¬ i = c ∧ tp.testBit i = false) R ∧ R.testBit (e c) = true ∧ R.testBit (o c) = false
theorem Kn_of {n : Nat} {e o : Nat → Nat} {D tp c T : Nat} (hc : Cab n e o D) (hcn : c < n) (h : Okr n e o D (fun i => ¬ i = c ∧ tp.testBit i = false) (e c) T) (h1 : Clo n e o D (fun i => ¬ i = c ∧ tp.testBit i = false) T) : (∃ R, Clo n e o D (fun i => ¬ i = c ∧ tp.testBit i = false) R ∧ R.testBit (e c) = true ∧ R.testBit (o c) = false) ↔ ¬ T.testBit (o c) = true := by
  constructor
  · rintro ⟨R, r1, r2, r3⟩ z
    rw [h.2.2 R r1 r2 _ (hc.2.2 c hcn).2 z] at r3
    exact absurd r3 (by decide)
  · intro z
    exact ⟨T, h1, h.2.1, by simpa using z⟩
