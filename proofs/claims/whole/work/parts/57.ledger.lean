/-! kept: the choice, in the class -/
def A_X1_hasRoomFor_2 (σ : St) (f : FI) (g : FL) (a : Nat) (x1 : Nat) (x2 : Int) (r : St × List Vl) : Prop := Gx mt 0 cd_X1_hasRoomFor (il σ f g) (cd_X1_hasRoomFor 2) [some (vR 1 (some a)), some (vR 10 (some x1)), some (vI x2)] [] r
theorem bk_X1_hasRoomFor_0 {σ : St} {f : FI} {g : FL} {a : Nat} {x1 : Nat} {r : St × List Vl} (hs : Sh1 σ a) (h : (A_X1_hasRoomFor_2 σ f g a x1 0 r)) : Ex mt 0 11 (il σ f g) [vR 1 (some a), vR 10 (some x1)] r := Ex.mk mt_11 (show Gx mt 0 cd_X1_hasRoomFor (il σ f g) b_X1_hasRoomFor_0 [some (vR 1 (some a)), some (vR 10 (some x1)), none] [] r from (go_pushI rfl (go_stoI rfl rfl (go_fall (h)))))
theorem bk_X1_hasRoomFor_2 {σ : St} {f : FI} {g : FL} {a : Nat} {x1 : Nat} {x2 : Int} {r : St × List Vl} (hs : Sh1 σ a) (h : ((8 ≤ x2 → (r = ((il σ f g), [vI 1]))) ∧ (¬ 8 ≤ x2 → (∃ q4, gR σ x1 3 = some q4 ∧ ((0 ≤ x2 ∧ x2 < (ln σ q4 : Int)) ∧ (0 ≤ x2 ∧ x2 < 8)) ∧ (((f q4 ((x2).toNat)) ≤ (f (a + 2) ((x2).toNat)) → ((-2147483648 ≤ (x2 + 1) ∧ (x2 + 1) ≤ 2147483647)) ∧ (A_X1_hasRoomFor_2 σ f g a x1 (x2 + 1) r)) ∧ (¬ (f q4 ((x2).toNat)) ≤ (f (a + 2) ((x2).toNat)) → (r = ((il σ f g), [vI 0])))))))) : A_X1_hasRoomFor_2 σ f g a x1 x2 r := (show Gx mt 0 cd_X1_hasRoomFor (il σ f g) b_X1_hasRoomFor_2 [some (vR 1 (some a)), some (vR 10 (some x1)), some (vI x2)] [] r from (go_loadI rfl (go_pushI rfl (gq_icmp_ge (fun e3 => have h1 := h.1 e3; (go_pushI rfl (h1 ▸ (gq_retZ ⟨by decide, by decide⟩)))) (fun e3 => have h2 := h.2 e3; (go_loadA rfl (Exists.elim h2 fun q4 h5 => (gi_getR h5.1 (go_loadI rfl (gi_iald h5.2.1.1 (go_loadA rfl (gi_getR (Sh1.r1 hs) (go_loadI rfl (gi_iald (inl_ (Sh1.l1 hs) h5.2.1.2) (gq_icmp_le (fun e8 => have h6 := h5.2.2.1 e8; (go_iinc rfl h6.1 rfl (go_goto (h6.2)))) (fun e8 => have h7 := h5.2.2.2 e8; (go_pushI rfl (h7 ▸ (gq_retZ ⟨by decide, by decide⟩)))))))))))))))))))
def A_X1_changeRoom_2 (σ : St) (f : FI) (g : FL) (a : Nat) (x1 : Nat) (x2 : Int) (x3 : Int) (r : St × List Vl) : Prop := Gx mt 0 cd_X1_changeRoom (il σ f g) (cd_X1_changeRoom 2) [some (vR 1 (some a)), some (vR 10 (some x1)), some (vI x2), some (vI x3)] [] r
theorem bk_X1_changeRoom_0 {σ : St} {f : FI} {g : FL} {a : Nat} {x1 : Nat} {x2 : Int} {r : St × List Vl} (hs : Sh1 σ a) (h : (A_X1_changeRoom_2 σ f g a x1 x2 0 r)) : Ex mt 0 12 (il σ f g) [vR 1 (some a), vR 10 (some x1), vI x2] r := Ex.mk mt_12 (show Gx mt 0 cd_X1_changeRoom (il σ f g) b_X1_changeRoom_0 [some (vR 1 (some a)), some (vR 10 (some x1)), some (vI x2), none] [] r from (go_pushI rfl (go_stoI rfl rfl (go_fall (h)))))
theorem bk_X1_changeRoom_2 {σ : St} {f : FI} {g : FL} {a : Nat} {x1 : Nat} {x2 : Int} {x3 : Int} {r : St × List Vl} (hs : Sh1 σ a) (h : ((8 ≤ x3 → (r = ((il σ f g), []))) ∧ (¬ 8 ≤ x3 → ((0 ≤ x3 ∧ x3 < 8)) ∧ (∃ q4, gR σ x1 3 = some q4 ∧ ((0 ≤ x3 ∧ x3 < (ln σ q4 : Int)) ∧ (-2147483648 ≤ (x2 * (f q4 ((x3).toNat))) ∧ (x2 * (f q4 ((x3).toNat))) ≤ 2147483647) ∧ (-2147483648 ≤ ((f (a + 2) ((x3).toNat)) + (x2 * (f q4 ((x3).toNat)))) ∧ ((f (a + 2) ((x3).toNat)) + (x2 * (f q4 ((x3).toNat)))) ≤ 2147483647) ∧ (0 ≤ x3 ∧ x3 < 8) ∧ (-2147483648 ≤ (x3 + 1) ∧ (x3 + 1) ≤ 2147483647)) ∧ (A_X1_changeRoom_2 σ (up2 f (a + 2) ((x3).toNat) ((f (a + 2) ((x3).toNat)) + (x2 * (f q4 ((x3).toNat))))) g a x1 x2 (x3 + 1) r))))) : A_X1_changeRoom_2 σ f g a x1 x2 x3 r := (show Gx mt 0 cd_X1_changeRoom (il σ f g) b_X1_changeRoom_2 [some (vR 1 (some a)), some (vR 10 (some x1)), some (vI x2), some (vI x3)] [] r from (go_loadI rfl (go_pushI rfl (gq_icmp_ge (fun e3 => have h1 := h.1 e3; (h1 ▸ gq_retV)) (fun e3 => have h2 := h.2 e3; (go_loadA rfl (gi_getR (Sh1.r1 hs) (go_loadI rfl (go_dup2 (gi_iald (inl_ (Sh1.l1 hs) h2.1) (go_loadI rfl (go_loadA rfl (Exists.elim h2.2 fun q4 h5 => (gi_getR h5.1 (go_loadI rfl (gi_iald h5.2.1.1 (go_imul h5.2.1.2.1 (go_iadd h5.2.1.2.2.1 (gi_iast (inl_ (Sh1.l1 hs) h5.2.1.2.2.2.1) (go_iinc rfl h5.2.1.2.2.2.2 rfl (go_goto (h5.2.2))))))))))))))))))))))
theorem bk_X1_consider_0 {σ : St} {f : FI} {g : FL} {a : Nat} {x1 : Int} {x2 : Int} {r : St × List Vl} (hs : Sh1 σ a) (h : ((0 ≤ (f a 3) ∧ (f a 3) < 4096) ∧ (0 ≤ x1 ∧ x1 < 4096) ∧ (-2147483648 ≤ ((pcI (f a 3)) - (pcI x1)) ∧ ((pcI (f a 3)) - (pcI x1)) ≤ 2147483647)) ∧ (((f a 4) < x2 → (r = ((il σ (up2 (up2 f a 3 x1) a 4 x2) g), []))) ∧ (¬ (f a 4) < x2 → ((¬ x2 = (f a 4) → (r = ((il σ f g), []))) ∧ (x2 = (f a 4) → ((0 < ((pcI (f a 3)) - (pcI x1)) → (r = ((il σ (up2 (up2 f a 3 x1) a 4 x2) g), []))) ∧ (¬ 0 < ((pcI (f a 3)) - (pcI x1)) → ((¬ ((pcI (f a 3)) - (pcI x1)) = 0 → (r = ((il σ f g), []))) ∧ (((pcI (f a 3)) - (pcI x1)) = 0 → (((f a 3) ≤ x1 → (r = ((il σ f g), []))) ∧ (¬ (f a 3) ≤ x1 → (r = ((il σ (up2 (up2 f a 3 x1) a 4 x2) g), []))))))))))))) : Ex mt 1 13 (il σ f g) [vR 1 (some a), vI x1, vI x2] r := Ex.mk mt_13 (show Gx mt 1 cd_X1_consider (il σ f g) b_X1_consider_0 [some (vR 1 (some a)), some (vI x1), some (vI x2), none] [] r from (go_loadA rfl (gi_getI (go_callS rfl rfl rfl (pu_bitCountI h.1.1) (go_loadI rfl (go_callS rfl rfl rfl (pu_bitCountI h.1.2.1) (go_isub h.1.2.2 (go_stoI rfl rfl (go_loadI rfl (go_loadA rfl (gi_getI (gq_icmp_gt (fun e3 => have h1 := h.2.1 e3; (go_loadA rfl (go_loadI rfl (gi_putI (go_loadA rfl (go_loadI rfl (gi_putI (go_fall (h1 ▸ gq_retV))))))))) (fun e3 => have h2 := h.2.2 e3; (go_loadI rfl (go_loadA rfl (gi_getI (gq_icmp_ne (fun e6 => have h4 := h2.1 e6; (h4 ▸ gq_retV)) (fun e6 => have h5 := h2.2 e6; (go_loadI rfl (gq_if_gt (fun e9 => have h7 := h5.1 e9; (go_loadA rfl (go_loadI rfl (gi_putI (go_loadA rfl (go_loadI rfl (gi_putI (go_fall (h7 ▸ gq_retV))))))))) (fun e9 => have h8 := h5.2 e9; (go_loadI rfl (gq_if_ne (fun e12 => have h10 := h8.1 e12; (h10 ▸ gq_retV)) (fun e12 => have h11 := h8.2 e12; (go_loadI rfl (go_loadA rfl (gi_getI (gq_icmp_ge (fun e15 => have h13 := h11.1 e15; (h13 ▸ gq_retV)) (fun e15 => have h14 := h11.2 e15; (go_fall (go_loadA rfl (go_loadI rfl (gi_putI (go_loadA rfl (go_loadI rfl (gi_putI (go_fall (h14 ▸ gq_retV))))))))))))))))))))))))))))))))))))))
theorem bk_X1_chooseFrom_0 {σ : St} {f : FI} {g : FL} {a : Nat} {x1 : Nat} {x2 : Int} {x3 : Int} {x4 : Int} {x5 : Int} {r : St × List Vl} {d : Nat} (hs : Sh1 σ a) (h : ((x3 < x2 → ((0 ≤ x3 ∧ x3 < 13) ∧ (-2147483648 ≤ (x5 + (f (a + 3) ((x3).toNat))) ∧ (x5 + (f (a + 3) ((x3).toNat))) ≤ 2147483647)) ∧ (((f a 4) ≤ (x5 + (f (a + 3) ((x3).toNat))) → ((0 ≤ x3 ∧ x3 < (ln σ x1 : Int))) ∧ (∃ q7, gR σ x1 ((x3).toNat) = some q7 ∧ (((f q7 4) ≤ 0 → ((-2147483648 ≤ (x3 + 1) ∧ (x3 + 1) ≤ 2147483647)) ∧ (∃ (f12 : FI) (g13 : FL), Ex mt (d + 29) 10 (il σ f g) [vR 1 (some a), vR 18 (some x1), vI x2, vI (x3 + 1), vI x4, vI x5] ((il σ f12 g13), []) ∧ (r = ((il σ f12 g13), [])))) ∧ (¬ (f q7 4) ≤ 0 → (∃ (f16 : FI) (g17 : FL) (v19 : Int), Ex mt 0 11 (il σ f g) [vR 1 (some a), vR 10 (some q7)] ((il σ f16 g17), [vI v19]) ∧ ((v19 = 0 → ((-2147483648 ≤ (x3 + 1) ∧ (x3 + 1) ≤ 2147483647)) ∧ (∃ (f23 : FI) (g24 : FL), Ex mt (d + 29) 10 (il σ f16 g17) [vR 1 (some a), vR 18 (some x1), vI x2, vI (x3 + 1), vI x4, vI x5] ((il σ f23 g24), []) ∧ (r = ((il σ f23 g24), [])))) ∧ (¬ v19 = 0 → (∃ (f27 : FI) (g28 : FL), Ex mt 0 12 (il σ f16 g17) [vR 1 (some a), vR 10 (some q7), vI (-1)] ((il σ f27 g28), []) ∧ ((-2147483648 ≤ (x3 + 1) ∧ (x3 + 1) ≤ 2147483647) ∧ (0 ≤ x3 ∧ x3 < 31) ∧ (-2147483648 ≤ (x5 + (f27 q7 4)) ∧ (x5 + (f27 q7 4)) ≤ 2147483647)) ∧ (∃ (f30 : FI) (g31 : FL), Ex mt (d + 29) 10 (il σ f27 g28) [vR 1 (some a), vR 18 (some x1), vI x2, vI (x3 + 1), vI (iOr x4 (p2 x3)), vI (x5 + (f27 q7 4))] ((il σ f30 g31), []) ∧ (∃ (f33 : FI) (g34 : FL), Ex mt 0 12 (il σ f30 g31) [vR 1 (some a), vR 10 (some q7), vI 1] ((il σ f33 g34), []) ∧ ((-2147483648 ≤ (x3 + 1) ∧ (x3 + 1) ≤ 2147483647)) ∧ (∃ (f36 : FI) (g37 : FL), Ex mt (d + 29) 10 (il σ f33 g34) [vR 1 (some a), vR 18 (some x1), vI x2, vI (x3 + 1), vI x4, vI x5] ((il σ f36 g37), []) ∧ (r = ((il σ f36 g37), []))))))))))))) ∧ (¬ (f a 4) ≤ (x5 + (f (a + 3) ((x3).toNat))) → (r = ((il σ f g), []))))) ∧ (¬ x3 < x2 → (∃ (f45 : FI) (g46 : FL), Ex mt 1 13 (il σ f g) [vR 1 (some a), vI x4, vI x5] ((il σ f45 g46), []) ∧ (r = ((il σ f45 g46), [])))))) : Ex mt (d + 30) 10 (il σ f g) [vR 1 (some a), vR 18 (some x1), vI x2, vI x3, vI x4, vI x5] r := Ex.mk mt_10 (show Gx mt (d + 30) cd_X1_chooseFrom (il σ f g) b_X1_chooseFrom_0 [some (vR 1 (some a)), some (vR 18 (some x1)), some (vI x2), some (vI x3), some (vI x4), some (vI x5), none] [] r from (go_loadI rfl (go_loadI rfl (gq_icmp_lt (fun e3 => have h1 := h.1 e3; (go_loadI rfl (go_loadA rfl (gi_getR (Sh1.r2 hs) (go_loadI rfl (gi_iald (inl_ (Sh1.l2 hs) h1.1.1) (go_iadd h1.1.2 (go_loadA rfl (gi_getI (gq_icmp_ge (fun e6 => have h4 := h1.2.1 e6; (go_loadA rfl (go_loadI rfl (Exists.elim h4.2 fun q7 h8 => (gi_aald h4.1 h8.1 (go_stoA rfl rfl (go_loadA rfl (gi_getI (gq_if_le (fun e11 => have h9 := h8.2.1 e11; (go_loadA rfl (go_loadA rfl (go_loadI rfl (go_loadI rfl (go_pushI rfl (go_iadd h9.1 (go_loadI rfl (go_loadI rfl (Exists.elim h9.2 fun f12 w15 => Exists.elim w15 fun g13 h14 => (go_callV rfl rfl (decide_eq_true (by omega)) h14.1 (h14.2 ▸ gq_retV)))))))))))) (fun e11 => have h10 := h8.2.2 e11; (go_loadA rfl (go_loadA rfl (Exists.elim h10 fun f16 w43 => Exists.elim w43 fun g17 w44 => Exists.elim w44 fun v19 h18 => (go_callV rfl rfl (decide_eq_true (by omega)) h18.1 (gq_if_eq (fun e22 => have h20 := h18.2.1 e22; (go_loadA rfl (go_loadA rfl (go_loadI rfl (go_loadI rfl (go_pushI rfl (go_iadd h20.1 (go_loadI rfl (go_loadI rfl (Exists.elim h20.2 fun f23 w26 => Exists.elim w26 fun g24 h25 => (go_callV rfl rfl (decide_eq_true (by omega)) h25.1 (h25.2 ▸ gq_retV)))))))))))) (fun e22 => have h21 := h18.2.2 e22; (go_loadA rfl (go_loadA rfl (go_pushI rfl (Exists.elim h21 fun f27 w42 => Exists.elim w42 fun g28 h29 => (go_callV rfl rfl (decide_eq_true (by omega)) h29.1 (go_loadA rfl (go_loadA rfl (go_loadI rfl (go_loadI rfl (go_pushI rfl (go_iadd h29.2.1.1 (go_loadI rfl (go_pushI rfl (go_loadI rfl (go_ishl (iShl_1 h29.2.1.2.1) (go_ior rfl (go_loadI rfl (go_loadA rfl (gi_getI (go_iadd h29.2.1.2.2 (Exists.elim h29.2.2 fun f30 w41 => Exists.elim w41 fun g31 h32 => (go_callV rfl rfl (decide_eq_true (by omega)) h32.1 (go_loadA rfl (go_loadA rfl (go_pushI rfl (Exists.elim h32.2 fun f33 w40 => Exists.elim w40 fun g34 h35 => (go_callV rfl rfl (decide_eq_true (by omega)) h35.1 (go_fall (go_loadA rfl (go_loadA rfl (go_loadI rfl (go_loadI rfl (go_pushI rfl (go_iadd h35.2.1 (go_loadI rfl (go_loadI rfl (Exists.elim h35.2.2 fun f36 w39 => Exists.elim w39 fun g37 h38 => (go_callV rfl rfl (decide_eq_true (by omega)) h38.1 (h38.2 ▸ gq_retV))))))))))))))))))))))))))))))))))))))))))))))))))))))) (fun e6 => have h5 := h1.2.2 e6; (h5 ▸ gq_retV)))))))))))) (fun e3 => have h2 := h.2 e3; (go_loadA rfl (go_loadI rfl (go_loadI rfl (Exists.elim h2 fun f45 w48 => Exists.elim w48 fun g46 h47 => (go_callV rfl rfl (decide_eq_true (by omega)) h47.1 (h47.2 ▸ gq_retV)))))))))))
/-- the sum over a set -/
def sm (X : Nat → Int) (S : Nat) : Nat → Int
  | 0 => 0
  | i + 1 => sm X S i + (if S.testBit i = true then X i else 0)
theorem sm_cong {X : Nat → Int} {S T : Nat} : ∀ {i : Nat}, (∀ j, j < i → S.testBit j = T.testBit j) → sm X S i = sm X T i
  | 0, _ => rfl
  | i + 1, h => by
    unfold sm
    rw [h i (by omega), sm_cong fun j hj => h j (by omega)]
theorem sm_le {X : Nat → Int} {S : Nat} (i : Nat) (h : ∀ j, 0 ≤ X j) : ∀ k, sm X S i ≤ sm X S (i + k)
  | 0 => Int.le_refl _
  | k + 1 => by
    have := sm_le (S := S) i h k
    have h2 := h (i + k)
    show _ ≤ sm X S (i + k) + (if S.testBit (i + k) = true then X (i + k) else 0)
    split <;> omega
theorem sm_0 {X : Nat → Int} : ∀ i, sm X 0 i = 0
  | 0 => rfl
  | i + 1 => by
    unfold sm
    rw [sm_0 i, Nat.zero_testBit]
    rfl
theorem sm_out {X : Nat → Int} {T i : Nat} (h : T < 2 ^ i) : sm X T (i + 1) = sm X T i := by
  show sm X T i + _ = _
  rw [big_bit h (Nat.le_refl _)]
  simp
theorem sm_in {X : Nat → Int} {T i : Nat} (h : T < 2 ^ i) : sm X (T ||| 2 ^ i) (i + 1) = sm X T i + X i := by
  have e : sm X (T ||| 2 ^ i) i = sm X T i := sm_cong fun j hj => by
    rw [or_bit]
    have : ¬ i = j := by omega
    simp [this]
  show sm X (T ||| 2 ^ i) i + _ = _
  rw [e, or_bit]
  simp
def Fit (N : Nat → Nat → Int) (R : Nat → Int) (w S : Nat) : Prop := ∀ b, b < 8 → sm (fun j => N j b) S w ≤ R b
/-- at least as good -/
def Bt (W : Nat → Int) (w A S : Nat) : Prop := sm W S w < sm W A w ∨ (sm W S w = sm W A w ∧ (cb 12 A < cb 12 S ∨ (cb 12 A = cb 12 S ∧ A ≤ S)))
theorem Bt.rfl' {W : Nat → Int} {w A : Nat} : Bt W w A A := Or.inr ⟨rfl, Or.inr ⟨rfl, Nat.le_refl _⟩⟩
theorem Bt.tr {W : Nat → Int} {w A S T : Nat} (h : Bt W w A S) (k : Bt W w S T) : Bt W w A T := by
  unfold Bt at *
  omega
theorem Bt.anti {W : Nat → Int} {w A S : Nat} (h : Bt W w A S) (k : Bt W w S A) : A = S := by
  unfold Bt at *
  omega
/-- the wishes as the ledger finds them -/
def KC (σ : St) (f : FI) (ar w : Nat) (q rn : Nat → Nat) (W : Nat → Int) (N : Nat → Nat → Int) : Prop := w ≤ 12 ∧ ln σ ar = 12 ∧ ∀ j, j < w → (gR σ ar j = some (q j) ∧ gR σ (q j) 3 = some (rn j) ∧ ln σ (rn j) = 8) ∧ (f (q j) 4 = W j ∧ 0 ≤ W j ∧ W j ≤ 999) ∧ ∀ b, b < 8 → f (rn j) b = N j b ∧ 0 ≤ N j b ∧ N j b ≤ 99
theorem x_hasRoomFor {σ : St} {f : FI} {g : FL} {a ar w j : Nat} {q rn : Nat → Nat} {W : Nat → Int} {N : Nat → Nat → Int} (hs : Sh1 σ a) (hk : KC σ f ar w q rn W N) (hj : j < w) : ∃ v : Int, (v = 0 ∨ v = 1) ∧ (v = 1 ↔ ∀ b, b < 8 → N j b ≤ f (a + 2) b) ∧ Ex mt 0 11 (il σ f g) [vR 1 (some a), vR 10 (some (q j))] (il σ f g, [vI v]) := by
  have kj := hk.2.2 j hj
  have loop : ∀ k i : Nat, i + k = 8 → (∀ b, b < i → N j b ≤ f (a + 2) b) → ∃ v : Int, (v = 0 ∨ v = 1) ∧ (v = 1 ↔ ∀ b, b < 8 → N j b ≤ f (a + 2) b) ∧ A_X1_hasRoomFor_2 σ f g a (q j) (i : Int) (il σ f g, [vI v]) := by
    intro k
    induction k with
    | zero =>
      intro i hi h
      obtain rfl : i = 8 := by omega
      exact ⟨1, Or.inr rfl, ⟨fun _ => h, fun _ => rfl⟩, bk_X1_hasRoomFor_2 hs ⟨fun _ => rfl, fun z => absurd (by decide) z⟩⟩
    | succ k ih =>
      intro i hi h
      have kb : f (rn j) (i : Int).toNat = N j i := (kj.2.2 i (by omega)).1
      have l8 : ((0 : Int) ≤ (i : Int) ∧ (i : Int) < (ln σ (rn j) : Int)) ∧ ((0 : Int) ≤ (i : Int) ∧ (i : Int) < 8) := by rw [kj.1.2.2]; omega
      by_cases z : N j i ≤ f (a + 2) i
      · obtain ⟨v, v1, v2, A⟩ := ih (i + 1) (by omega) fun b hb => by
          by_cases y : b = i
          · rw [y]; exact z
          · exact h b (by omega)
        exact ⟨v, v1, v2, bk_X1_hasRoomFor_2 hs ⟨fun y => absurd y (by omega), fun _ => ⟨rn j, kj.1.2.1, l8, fun _ => ⟨by omega, A⟩, fun y => absurd (by rw [kb]; exact z) y⟩⟩⟩
      · exact ⟨0, Or.inl rfl, ⟨fun y => absurd y (by decide), fun y => absurd (y i (by omega)) z⟩, bk_X1_hasRoomFor_2 hs ⟨fun y => absurd y (by omega), fun _ => ⟨rn j, kj.1.2.1, l8, fun y => absurd (by rw [kb] at y; exact y) z, fun _ => rfl⟩⟩⟩
  obtain ⟨v, v1, v2, A⟩ := loop 8 0 rfl fun b hb => absurd hb (Nat.not_lt_zero b)
  exact ⟨v, v1, v2, bk_X1_hasRoomFor_0 hs A⟩
theorem x_changeRoom {σ : St} {f : FI} {g : FL} {a ar w j : Nat} {q rn : Nat → Nat} {W : Nat → Int} {N : Nat → Nat → Int} {s : Int} (hs : Sh1 σ a) (hk : KC σ f ar w q rn W N) (hj : j < w) (hrn : rn j ≠ a + 2) (hsg : s = 1 ∨ s = -1) (hl : ∀ b, b < 8 → -1000000 ≤ f (a + 2) b ∧ f (a + 2) b ≤ 1000000) : ∃ f' : FI, Ex mt 0 12 (il σ f g) [vR 1 (some a), vR 10 (some (q j)), vI s] (il σ f' g, []) ∧ (∀ b, b < 8 → f' (a + 2) b = f (a + 2) b + s * N j b) ∧ ∀ c, c ≠ a + 2 → f' c = f c := by
  have kj := hk.2.2 j hj
  have loop : ∀ k i : Nat, i + k = 8 → ∀ fi : FI, (∀ b, b < i → fi (a + 2) b = f (a + 2) b + s * N j b) → (∀ b, i ≤ b → fi (a + 2) b = f (a + 2) b) → (∀ c, c ≠ a + 2 → fi c = f c) → ∃ f' : FI, A_X1_changeRoom_2 σ fi g a (q j) s (i : Int) (il σ f' g, []) ∧ (∀ b, b < 8 → f' (a + 2) b = f (a + 2) b + s * N j b) ∧ ∀ c, c ≠ a + 2 → f' c = f c := by
    intro k
    induction k with
    | zero =>
      intro i hi fi h1 h2 h3
      obtain rfl : i = 8 := by omega
      exact ⟨fi, bk_X1_changeRoom_2 hs ⟨fun _ => rfl, fun z => absurd (by decide) z⟩, h1, h3⟩
    | succ k ih =>
      intro i hi fi h1 h2 h3
      have nb := kj.2.2 i (by omega)
      have kb : fi (rn j) (i : Int).toNat = N j i := by rw [h3 _ hrn]; exact nb.1
      have fb : fi (a + 2) (i : Int).toNat = f (a + 2) i := h2 i (Nat.le_refl _)
      have l8 : ((0 : Int) ≤ (i : Int) ∧ (i : Int) < (ln σ (rn j) : Int)) := by rw [kj.1.2.2]; omega
      have sb : -99 ≤ s * N j i ∧ s * N j i ≤ 99 := by
        rcases hsg with rfl | rfl <;> omega
      have lb := hl i (by omega)
      obtain ⟨f', A, r⟩ := ih (i + 1) (by omega) (up2 fi (a + 2) i (f (a + 2) i + s * N j i)) (fun b hb => by
        by_cases y : b = i
        · rw [y, u2_s]
        · rw [u2_i y]; exact h1 b (by omega)) (fun b hb => by rw [u2_i (by omega)]; exact h2 b (by omega)) (fun c hc => by rw [up2_ne hc]; exact h3 c hc)
      refine ⟨f', bk_X1_changeRoom_2 hs ⟨fun y => absurd y (by omega), fun _ => ⟨by omega, rn j, kj.1.2.1, ?_⟩⟩, r⟩
      rw [kb, fb]
      exact ⟨⟨l8, by omega, by omega, by omega, by omega⟩, A⟩
  obtain ⟨f', A, r⟩ := loop 8 0 rfl f (fun b hb => absurd hb (Nat.not_lt_zero b)) (fun _ _ => rfl) (fun _ _ => rfl)
  exact ⟨f', bk_X1_changeRoom_0 hs A, r⟩
theorem KC.fr {σ : St} {f f' : FI} {ar w : Nat} {q rn : Nat → Nat} {W : Nat → Int} {N : Nat → Nat → Int} (h : KC σ f ar w q rn W N) (e : ∀ j, j < w → f' (q j) = f (q j) ∧ f' (rn j) = f (rn j)) : KC σ f' ar w q rn W N := ⟨h.1, h.2.1, fun j hj => by
  have := h.2.2 j hj
  rw [(e j hj).1, (e j hj).2]
  exact this⟩
theorem sm_W {W : Nat → Int} {S : Nat} (h : ∀ j, 0 ≤ W j ∧ W j ≤ 999) : ∀ i, 0 ≤ sm W S i ∧ sm W S i ≤ 999 * i
  | 0 => ⟨Int.le_refl _, Int.le_refl _⟩
  | i + 1 => by
    have := sm_W (S := S) h i
    have h2 := h i
    show 0 ≤ sm W S i + (if S.testBit i = true then W i else 0) ∧ sm W S i + (if S.testBit i = true then W i else 0) ≤ _
    split <;> omega
/-- the chosen set as the ledger holds it -/
def Cho (f : FI) (a w : Nat) (W : Nat → Int) (N : Nat → Nat → Int) (R : Nat → Int) (C : Nat) : Prop := f a 3 = (C : Int) ∧ f a 4 = sm W C w ∧ C < 2 ^ w ∧ Fit N R w C
theorem x_consider {σ : St} {f : FI} {g : FL} {a w C T : Nat} {W : Nat → Int} {N : Nat → Nat → Int} {R : Nat → Int} (hs : Sh1 σ a) (hw : w ≤ 12) (hC : Cho f a w W N R C) (hT : T < 2 ^ w) (hF : Fit N R w T) : ∃ (f' : FI) (C' : Nat), Ex mt 1 13 (il σ f g) [vR 1 (some a), vI (T : Int), vI (sm W T w)] (il σ f' g, []) ∧ Cho f' a w W N R C' ∧ Bt W w C' C ∧ Bt W w C' T ∧ (∀ c, c ≠ a → f' c = f c) := by
  have pw : 2 ^ w ≤ 2 ^ 12 := Nat.pow_le_pow_right (by decide) hw
  have p12 : 2 ^ 12 = 4096 := rfl
  have c12 := cb_le 12 C
  have t12 := cb_le 12 T
  have hc := hC.2.2.1
  have ob : ((0 : Int) ≤ f a 3 ∧ f a 3 < 4096) ∧ ((0 : Int) ≤ (T : Int) ∧ (T : Int) < 4096) ∧ (-2147483648 ≤ pcI (f a 3) - pcI (T : Int) ∧ pcI (f a 3) - pcI (T : Int) ≤ 2147483647) := by
    rw [hC.1, pcI_cb, pcI_cb]
    omega
  have keep : Bt W w C T → ∃ (f' : FI) (C' : Nat), (f' = f) ∧ Cho f' a w W N R C' ∧ Bt W w C' C ∧ Bt W w C' T ∧ (∀ c, c ≠ a → f' c = f c) := fun h => ⟨f, C, rfl, hC, Bt.rfl', h, fun _ _ => rfl⟩
  have take : Bt W w T C → ∃ (f' : FI) (C' : Nat), (f' = up2 (up2 f a 3 (T : Int)) a 4 (sm W T w)) ∧ Cho f' a w W N R C' ∧ Bt W w C' C ∧ Bt W w C' T ∧ (∀ c, c ≠ a → f' c = f c) := fun h => ⟨_, T, rfl, ⟨by rw [u2_i (by decide), u2_s], u2_s, hT, hF⟩, h, Bt.rfl', fun c hc => by rw [up2_ne hc, up2_ne hc]⟩
  have e3 := hC.1
  have e4 := hC.2.1
  by_cases h1 : f a 4 < sm W T w
  · obtain ⟨f', C', e, r⟩ := take (Or.inl (by omega))
    exact ⟨f', C', bk_X1_consider_0 hs ⟨ob, fun _ => by rw [e], fun z => absurd h1 z⟩, r⟩
  · by_cases h2 : sm W T w = f a 4
    · have pcC : pcI (f a 3) = (cb 12 C : Int) := by rw [e3, pcI_cb]
      have pcT : pcI (T : Int) = (cb 12 T : Int) := pcI_cb
      by_cases h3 : 0 < pcI (f a 3) - pcI (T : Int)
      · obtain ⟨f', C', e, r⟩ := take (Or.inr ⟨by omega, Or.inl (by omega)⟩)
        exact ⟨f', C', bk_X1_consider_0 hs ⟨ob, fun z => absurd z h1, fun _ => ⟨fun z => absurd h2 z, fun _ => ⟨fun _ => by rw [e], fun z => absurd h3 z⟩⟩⟩, r⟩
      · by_cases h4 : pcI (f a 3) - pcI (T : Int) = 0
        · by_cases h5 : f a 3 ≤ (T : Int)
          · obtain ⟨f', C', e, r⟩ := keep (Or.inr ⟨by omega, Or.inr ⟨by omega, by omega⟩⟩)
            exact ⟨f', C', bk_X1_consider_0 hs ⟨ob, fun z => absurd z h1, fun _ => ⟨fun z => absurd h2 z, fun _ => ⟨fun z => absurd z h3, fun _ => ⟨fun z => absurd h4 z, fun _ => ⟨fun _ => by rw [e], fun z => absurd h5 z⟩⟩⟩⟩⟩, r⟩
          · obtain ⟨f', C', e, r⟩ := take (Or.inr ⟨by omega, Or.inr ⟨by omega, by omega⟩⟩)
            exact ⟨f', C', bk_X1_consider_0 hs ⟨ob, fun z => absurd z h1, fun _ => ⟨fun z => absurd h2 z, fun _ => ⟨fun z => absurd z h3, fun _ => ⟨fun z => absurd h4 z, fun _ => ⟨fun z => absurd z h5, fun _ => by rw [e]⟩⟩⟩⟩⟩, r⟩
        · obtain ⟨f', C', e, r⟩ := keep (Or.inr ⟨by omega, Or.inl (by omega)⟩)
          exact ⟨f', C', bk_X1_consider_0 hs ⟨ob, fun z => absurd z h1, fun _ => ⟨fun z => absurd h2 z, fun _ => ⟨fun z => absurd z h3, fun _ => ⟨fun _ => by rw [e], fun z => absurd z h4⟩⟩⟩⟩, r⟩
    · obtain ⟨f', C', e, r⟩ := keep (Or.inl (by omega))
      exact ⟨f', C', bk_X1_consider_0 hs ⟨ob, fun z => absurd z h1, fun _ => ⟨fun _ => by rw [e], fun z => absurd z h2⟩⟩, r⟩
