/-! kept: the choice, in the class -/
def A_X1_valueTogether_4 (σ : St) (f : FI) (g : FL) (x0 : Nat) (x1 : Int) (x2 : Int) (x3 : Int) (r : St × List Vl) : Prop := Gx mt 1 cd_X1_valueTogether (il σ f g) (cd_X1_valueTogether 4) [some (vR 18 (some x0)), some (vI x1), some (vI x2), some (vI x3)] [] r
theorem bk_X1_valueTogether_0 {σ : St} {f : FI} {g : FL} {x0 : Nat} {x1 : Int} {r : St × List Vl}  (h : (A_X1_valueTogether_4 σ f g x0 x1 0 0 r)) : Ex mt 1 10 (il σ f g) [vR 18 (some x0), vI x1] r := Ex.mk mt_10 (show Gx mt 1 cd_X1_valueTogether (il σ f g) b_X1_valueTogether_0 [some (vR 18 (some x0)), some (vI x1), none, none] [] r from (go_pushI rfl (go_stoI rfl rfl (go_pushI rfl (go_stoI rfl rfl (go_fall (h)))))))
theorem bk_X1_valueTogether_4 {σ : St} {f : FI} {g : FL} {x0 : Nat} {x1 : Int} {x2 : Int} {x3 : Int} {r : St × List Vl}  (h : ((12 ≤ x3 → (r = ((il σ f g), [vI x2]))) ∧ (¬ 12 ≤ x3 → ((-2147483648 ≤ x1 ∧ x1 ≤ 2147483647) ∧ (0 ≤ x3 ∧ x3 < 32)) ∧ ((¬ ((hB x1 x3)) → ((-2147483648 ≤ (x2 + 0) ∧ (x2 + 0) ≤ 2147483647) ∧ (-2147483648 ≤ (x3 + 1) ∧ (x3 + 1) ≤ 2147483647)) ∧ (A_X1_valueTogether_4 σ f g x0 x1 (x2 + 0) (x3 + 1) r)) ∧ (((hB x1 x3)) → ((0 ≤ x3 ∧ x3 < (ln σ x0 : Int))) ∧ (∃ q7, gR σ x0 ((x3).toNat) = some q7 ∧ ((-2147483648 ≤ (x2 + (f q7 4)) ∧ (x2 + (f q7 4)) ≤ 2147483647) ∧ (-2147483648 ≤ (x3 + 1) ∧ (x3 + 1) ≤ 2147483647)) ∧ (A_X1_valueTogether_4 σ f g x0 x1 (x2 + (f q7 4)) (x3 + 1) r))))))) : A_X1_valueTogether_4 σ f g x0 x1 x2 x3 r := (show Gx mt 1 cd_X1_valueTogether (il σ f g) b_X1_valueTogether_4 [some (vR 18 (some x0)), some (vI x1), some (vI x2), some (vI x3)] [] r from (go_loadI rfl (go_pushI rfl (gq_icmp_ge (fun e3 => have h1 := h.1 e3; (go_loadI rfl (h1 ▸ gq_retI))) (fun e3 => have h2 := h.2 e3; (go_loadI rfl (go_loadI rfl (go_loadI rfl (go_callS rfl rfl rfl (pu_hasBit h2.1.1 h2.1.2) (go_ifb_eq (fun e6 => have h4 := h2.2.1 e6; (go_pushI rfl (go_fall (go_iadd h4.1.1 (go_stoI rfl rfl (go_iinc rfl h4.1.2 rfl (go_goto (h4.2)))))))) (fun e6 => have h5 := h2.2.2 e6; (go_loadA rfl (go_loadI rfl (Exists.elim h5.2 fun q7 h8 => (gi_aald h5.1 h8.1 (gi_getI (go_goto (go_iadd h8.2.1.1 (go_stoI rfl rfl (go_iinc rfl h8.2.1.2 rfl (go_goto (h8.2.2))))))))))))))))))))))
def A_X1_hasRoomFor_2 (σ : St) (f : FI) (g : FL) (a : Nat) (x1 : Nat) (x2 : Int) (x3 : Int) (r : St × List Vl) : Prop := ∀ (y4 : Option Vl) (y5 : Option Vl), Gx mt 1 cd_X1_hasRoomFor (il σ f g) (cd_X1_hasRoomFor 2) [some (vR 1 (some a)), some (vR 18 (some x1)), some (vI x2), some (vI x3), y4, y5] [] r
def A_X1_hasRoomFor_14 (σ : St) (f : FI) (g : FL) (a : Nat) (x1 : Nat) (x2 : Int) (x3 : Int) (x4 : Int) (x5 : Int) (r : St × List Vl) : Prop := Gx mt 1 cd_X1_hasRoomFor (il σ f g) (cd_X1_hasRoomFor 14) [some (vR 1 (some a)), some (vR 18 (some x1)), some (vI x2), some (vI x3), some (vI x4), some (vI x5)] [] r
theorem bk_X1_hasRoomFor_0 {σ : St} {f : FI} {g : FL} {a : Nat} {x1 : Nat} {x2 : Int} {r : St × List Vl} (hs : Sh1 σ a) (h : (A_X1_hasRoomFor_2 σ f g a x1 x2 0 r)) : Ex mt 1 11 (il σ f g) [vR 1 (some a), vR 18 (some x1), vI x2] r := Ex.mk mt_11 (show Gx mt 1 cd_X1_hasRoomFor (il σ f g) b_X1_hasRoomFor_0 [some (vR 1 (some a)), some (vR 18 (some x1)), some (vI x2), none, none, none] [] r from (go_pushI rfl (go_stoI rfl rfl (go_fall (h _ _)))))
theorem bk_X1_hasRoomFor_2 {σ : St} {f : FI} {g : FL} {a : Nat} {x1 : Nat} {x2 : Int} {x3 : Int} {r : St × List Vl} (hs : Sh1 σ a) (h : ((8 ≤ x3 → (r = ((il σ f g), [vI 1]))) ∧ (¬ 8 ≤ x3 → (A_X1_hasRoomFor_14 σ f g a x1 x2 x3 0 0 r)))) : A_X1_hasRoomFor_2 σ f g a x1 x2 x3 r := fun y4 y5 => (show Gx mt 1 cd_X1_hasRoomFor (il σ f g) b_X1_hasRoomFor_2 [some (vR 1 (some a)), some (vR 18 (some x1)), some (vI x2), some (vI x3), y4, y5] [] r from (go_loadI rfl (go_pushI rfl (gq_icmp_ge (fun e3 => have h1 := h.1 e3; (go_pushI rfl (h1 ▸ (gq_retZ ⟨by decide, by decide⟩)))) (fun e3 => have h2 := h.2 e3; (go_pushI rfl (go_stoI rfl rfl (go_pushI rfl (go_stoI rfl rfl (go_fall (h2)))))))))))
theorem bk_X1_hasRoomFor_14 {σ : St} {f : FI} {g : FL} {a : Nat} {x1 : Nat} {x2 : Int} {x3 : Int} {x4 : Int} {x5 : Int} {r : St × List Vl} (hs : Sh1 σ a) (h : ((12 ≤ x5 → ((0 ≤ x3 ∧ x3 < 8)) ∧ ((x4 ≤ (f (a + 1) ((x3).toNat)) → ((-2147483648 ≤ (x3 + 1) ∧ (x3 + 1) ≤ 2147483647)) ∧ (A_X1_hasRoomFor_2 σ f g a x1 x2 (x3 + 1) r)) ∧ (¬ x4 ≤ (f (a + 1) ((x3).toNat)) → (r = ((il σ f g), [vI 0]))))) ∧ (¬ 12 ≤ x5 → ((-2147483648 ≤ x2 ∧ x2 ≤ 2147483647) ∧ (0 ≤ x5 ∧ x5 < 32)) ∧ ((¬ ((hB x2 x5)) → ((-2147483648 ≤ (x4 + 0) ∧ (x4 + 0) ≤ 2147483647) ∧ (-2147483648 ≤ (x5 + 1) ∧ (x5 + 1) ≤ 2147483647)) ∧ (A_X1_hasRoomFor_14 σ f g a x1 x2 x3 (x4 + 0) (x5 + 1) r)) ∧ (((hB x2 x5)) → ((0 ≤ x5 ∧ x5 < (ln σ x1 : Int))) ∧ (∃ q10, gR σ x1 ((x5).toNat) = some q10 ∧ (∃ q12, gR σ q10 3 = some q12 ∧ ((0 ≤ x3 ∧ x3 < (ln σ q12 : Int))) ∧ ((-2147483648 ≤ (x4 + (f q12 ((x3).toNat))) ∧ (x4 + (f q12 ((x3).toNat))) ≤ 2147483647) ∧ (-2147483648 ≤ (x5 + 1) ∧ (x5 + 1) ≤ 2147483647)) ∧ (A_X1_hasRoomFor_14 σ f g a x1 x2 x3 (x4 + (f q12 ((x3).toNat))) (x5 + 1) r)))))))) : A_X1_hasRoomFor_14 σ f g a x1 x2 x3 x4 x5 r := (show Gx mt 1 cd_X1_hasRoomFor (il σ f g) b_X1_hasRoomFor_14 [some (vR 1 (some a)), some (vR 18 (some x1)), some (vI x2), some (vI x3), some (vI x4), some (vI x5)] [] r from (go_loadI rfl (go_pushI rfl (gq_icmp_ge (fun e3 => have h1 := h.1 e3; (go_loadI rfl (go_loadA rfl (gi_getR (Sh1.r0 hs) (go_loadI rfl (gi_iald (inl_ (Sh1.l0 hs) h1.1) (gq_icmp_le (fun e6 => have h4 := h1.2.1 e6; (go_iinc rfl h4.1 rfl (go_goto (h4.2 _ _)))) (fun e6 => have h5 := h1.2.2 e6; (go_pushI rfl (h5 ▸ (gq_retZ ⟨by decide, by decide⟩))))))))))) (fun e3 => have h2 := h.2 e3; (go_loadI rfl (go_loadI rfl (go_loadI rfl (go_callS rfl rfl rfl (pu_hasBit h2.1.1 h2.1.2) (go_ifb_eq (fun e9 => have h7 := h2.2.1 e9; (go_pushI rfl (go_fall (go_iadd h7.1.1 (go_stoI rfl rfl (go_iinc rfl h7.1.2 rfl (go_goto (h7.2)))))))) (fun e9 => have h8 := h2.2.2 e9; (go_loadA rfl (go_loadI rfl (Exists.elim h8.2 fun q10 h11 => (gi_aald h8.1 h11.1 (Exists.elim h11.2 fun q12 h13 => (gi_getR h13.1 (go_loadI rfl (gi_iald h13.2.1 (go_goto (go_iadd h13.2.2.1.1 (go_stoI rfl rfl (go_iinc rfl h13.2.2.1.2 rfl (go_goto (h13.2.2.2)))))))))))))))))))))))))
/-- the sum over a set -/
def sm (X : Nat → Int) (S : Nat) : Nat → Int
  | 0 => 0
  | i + 1 => sm X S i + (if S.testBit i = true then X i else 0)
theorem sm_0 {X : Nat → Int} : ∀ i, sm X 0 i = 0
  | 0 => rfl
  | i + 1 => by
    unfold sm
    rw [sm_0 i, Nat.zero_testBit]
    rfl
theorem sm_out {X : Nat → Int} {T i : Nat} (h : T < 2 ^ i) : sm X T (i + 1) = sm X T i := by
  show sm X T i + _ = _
  rw [big_bit h (Nat.le_refl _)]
  simp
theorem sm_top {X : Nat → Int} {S w : Nat} (h : S < 2 ^ w) : ∀ k, sm X S (w + k) = sm X S w
  | 0 => rfl
  | k + 1 => by
    rw [← sm_top h k]
    exact sm_out (Nat.lt_of_lt_of_le h (Nat.pow_le_pow_right (by decide) (Nat.le_add_right w k)))
theorem sm_12 {X : Nat → Int} {S w : Nat} (h : S < 2 ^ w) (hw : w ≤ 12) : sm X S 12 = sm X S w := by
  have := sm_top (X := X) h (12 - w)
  rw [show w + (12 - w) = 12 by omega] at this
  exact this
theorem sm_W {W : Nat → Int} {S : Nat} (h : ∀ j, 0 ≤ W j ∧ W j ≤ 999) : ∀ i, 0 ≤ sm W S i ∧ sm W S i ≤ 999 * i
  | 0 => ⟨Int.le_refl _, Int.le_refl _⟩
  | i + 1 => by
    have := sm_W (S := S) h i
    have h2 := h i
    show 0 ≤ sm W S i + (if S.testBit i = true then W i else 0) ∧ sm W S i + (if S.testBit i = true then W i else 0) ≤ _
    split <;> omega
theorem sm_yes {X : Nat → Int} {S i : Nat} (h : hB (S : Int) (i : Int)) : sm X S (i + 1) = sm X S i + X i := by
  show sm X S i + _ = _
  rw [if_pos (hB_nat.mp h)]
theorem sm_no {X : Nat → Int} {S i : Nat} (h : ¬ hB (S : Int) (i : Int)) : sm X S (i + 1) = sm X S i + 0 := by
  show sm X S i + _ = _
  rw [if_neg fun y => h (hB_nat.mpr y)]
theorem bit_lt {S w i : Nat} (hS : S < 2 ^ w) (h : hB (S : Int) (i : Int)) : i < w := by
  by_cases z : i < w
  · exact z
  · have := hB_nat.mp h
    rw [big_bit hS (by omega)] at this
    exact absurd this (by decide)
def Fit (N : Nat → Nat → Int) (R : Nat → Int) (w S : Nat) : Prop := ∀ b, b < 8 → sm (fun j => N j b) S w ≤ R b
/-- at least as good -/
def Bt (W : Nat → Int) (w A S : Nat) : Prop := sm W S w < sm W A w ∨ (sm W S w = sm W A w ∧ (cb 12 A < cb 12 S ∨ (cb 12 A = cb 12 S ∧ A ≤ S)))
theorem Bt.rfl' {W : Nat → Int} {w A : Nat} : Bt W w A A := Or.inr ⟨rfl, Or.inr ⟨rfl, Nat.le_refl _⟩⟩
theorem Bt.tr {W : Nat → Int} {w A S T : Nat} (h : Bt W w A S) (k : Bt W w S T) : Bt W w A T := by
  unfold Bt at *
  omega
theorem Bt.anti {W : Nat → Int} {w A S : Nat} (h : Bt W w A S) (k : Bt W w S A) : A = S := by
  unfold Bt at *
  omega
/-- the wishes as the ledger finds them -/
def KC (σ : St) (f : FI) (ar w : Nat) (q rn : Nat → Nat) (W : Nat → Int) (N : Nat → Nat → Int) : Prop := w ≤ 12 ∧ ln σ ar = 12 ∧ ∀ j, j < w → (gR σ ar j = some (q j) ∧ gR σ (q j) 3 = some (rn j) ∧ ln σ (rn j) = 8) ∧ (f (q j) 4 = W j ∧ 0 ≤ W j ∧ W j ≤ 999) ∧ ∀ b, b < 8 → f (rn j) b = N j b ∧ 0 ≤ N j b ∧ N j b ≤ 99
theorem KC.fr {σ : St} {f f' : FI} {ar w : Nat} {q rn : Nat → Nat} {W : Nat → Int} {N : Nat → Nat → Int} (h : KC σ f ar w q rn W N) (e : ∀ j, j < w → f' (q j) = f (q j) ∧ f' (rn j) = f (rn j)) : KC σ f' ar w q rn W N := ⟨h.1, h.2.1, fun j hj => by
  have := h.2.2 j hj
  rw [(e j hj).1, (e j hj).2]
  exact this⟩
theorem x_together {σ : St} {f : FI} {g : FL} {ar w S : Nat} {q rn : Nat → Nat} {W : Nat → Int} {N : Nat → Nat → Int} (hk : KC σ f ar w q rn W N) (hW : ∀ j, 0 ≤ W j ∧ W j ≤ 999) (hS : S < 2 ^ w) : Ex mt 1 10 (il σ f g) [vR 18 (some ar), vI (S : Int)] (il σ f g, [vI (sm W S w)]) := by
  have w12 := hk.1
  have pw : 2 ^ w ≤ 2 ^ 12 := Nat.pow_le_pow_right (by decide) w12
  have p12 : 2 ^ 12 = 4096 := rfl
  have loop : ∀ k i : Nat, i + k = 12 → A_X1_valueTogether_4 σ f g ar (S : Int) (sm W S i) (i : Int) (il σ f g, [vI (sm W S w)]) := by
    intro k
    induction k with
    | zero =>
      intro i hi
      obtain rfl : i = 12 := by omega
      exact bk_X1_valueTogether_4 ⟨fun _ => by rw [sm_12 hS w12], fun z => absurd (by decide) z⟩
    | succ k ih =>
      intro i hi
      have A := ih (i + 1) (by omega)
      have s1 := sm_W (S := S) hW i
      have n1 := hW i
      by_cases z : hB (S : Int) (i : Int)
      · rw [sm_yes z] at A
        have ki := hk.2.2 i (bit_lt hS z)
        refine bk_X1_valueTogether_4 ⟨fun y => absurd y (by omega), fun _ => ⟨⟨by omega, by omega⟩, fun y => absurd z y, fun _ => ⟨by rw [hk.2.1]; omega, q i, ki.1.1, ?_⟩⟩⟩
        rw [ki.2.1.1]
        exact ⟨⟨by omega, by omega⟩, A⟩
      · rw [sm_no z] at A
        exact bk_X1_valueTogether_4 ⟨fun y => absurd y (by omega), fun _ => ⟨⟨by omega, by omega⟩, fun _ => ⟨⟨by omega, by omega⟩, A⟩, fun y => absurd y z⟩⟩
  exact bk_X1_valueTogether_0 (loop 12 0 rfl)
theorem x_hasRoomFor {σ : St} {f : FI} {g : FL} {ar w S : Nat} {q rn : Nat → Nat} {W : Nat → Int} {N : Nat → Nat → Int} {a : Nat} {R : Nat → Int} (hs : Sh1 σ a) (hk : KC σ f ar w q rn W N) (hN : ∀ j b, 0 ≤ N j b ∧ N j b ≤ 99) (hR : ∀ b, b < 8 → f (a + 1) b = R b) (hS : S < 2 ^ w) : ∃ v : Int, (v = 0 ∨ v = 1) ∧ (v = 1 ↔ Fit N R w S) ∧ Ex mt 1 11 (il σ f g) [vR 1 (some a), vR 18 (some ar), vI (S : Int)] (il σ f g, [vI v]) := by
  have w12 := hk.1
  have pw : 2 ^ w ≤ 2 ^ 12 := Nat.pow_le_pow_right (by decide) w12
  have p12 : 2 ^ 12 = 4096 := rfl
  have sb : ∀ b i, 0 ≤ sm (fun j => N j b) S i ∧ sm (fun j => N j b) S i ≤ 999 * i := fun b i => sm_W (fun j => ⟨(hN j b).1, by have := (hN j b).2; show N j b ≤ 999; omega⟩) i
  have inner : ∀ b : Nat, b < 8 → ∀ r, (sm (fun j => N j b) S w ≤ R b → A_X1_hasRoomFor_2 σ f g a ar (S : Int) ((b : Int) + 1) r) → (¬ sm (fun j => N j b) S w ≤ R b → r = (il σ f g, [vI 0])) → ∀ k i : Nat, i + k = 12 → A_X1_hasRoomFor_14 σ f g a ar (S : Int) (b : Int) (sm (fun j => N j b) S i) (i : Int) r := by
    intro b hb r h1 h0 k
    induction k with
    | zero =>
      intro i hi
      obtain rfl : i = 12 := by omega
      have fr : f (a + 1) (b : Int).toNat = R b := hR b hb
      rw [sm_12 hS w12]
      refine bk_X1_hasRoomFor_14 hs ⟨fun _ => ⟨by omega, fun y => ⟨by omega, h1 ?_⟩, fun y => h0 fun x => y ?_⟩, fun z => absurd (by decide) z⟩
      · rw [fr] at y
        exact y
      · rw [fr]
        exact x
    | succ k ih =>
      intro i hi
      have A := ih (i + 1) (by omega)
      have s1 := sb b i
      have n1 := hN i b
      by_cases z : hB (S : Int) (i : Int)
      · rw [sm_yes z] at A
        have ki := hk.2.2 i (bit_lt hS z)
        have kb : f (rn i) (b : Int).toNat = N i b := (ki.2.2 b hb).1
        refine bk_X1_hasRoomFor_14 hs ⟨fun y => absurd y (by omega), fun _ => ⟨⟨by omega, by omega⟩, fun y => absurd z y, fun _ => ⟨by rw [hk.2.1]; omega, q i, ki.1.1, rn i, ki.1.2.1, by rw [ki.1.2.2]; omega, ?_⟩⟩⟩
        rw [kb]
        exact ⟨⟨by omega, by omega⟩, A⟩
      · rw [sm_no z] at A
        exact bk_X1_hasRoomFor_14 hs ⟨fun y => absurd y (by omega), fun _ => ⟨⟨by omega, by omega⟩, fun _ => ⟨⟨by omega, by omega⟩, A⟩, fun y => absurd y z⟩⟩
  have loop : ∀ k b : Nat, b + k = 8 → (∀ c, c < b → sm (fun j => N j c) S w ≤ R c) → ∃ v : Int, (v = 0 ∨ v = 1) ∧ (v = 1 ↔ Fit N R w S) ∧ A_X1_hasRoomFor_2 σ f g a ar (S : Int) (b : Int) (il σ f g, [vI v]) := by
    intro k
    induction k with
    | zero =>
      intro b hb h1
      obtain rfl : b = 8 := by omega
      exact ⟨1, Or.inr rfl, ⟨fun _ => h1, fun _ => rfl⟩, bk_X1_hasRoomFor_2 hs ⟨fun _ => rfl, fun z => absurd (by decide) z⟩⟩
    | succ k ih =>
      intro b hb h1
      by_cases z : sm (fun j => N j b) S w ≤ R b
      · obtain ⟨v, v1, v2, A⟩ := ih (b + 1) (by omega) fun c hc => by
          by_cases y : c = b
          · rw [y]; exact z
          · exact h1 c (by omega)
        exact ⟨v, v1, v2, bk_X1_hasRoomFor_2 hs ⟨fun y => absurd y (by omega), fun _ => inner b (by omega) _ (fun _ => A) (fun y => absurd z y) 12 0 rfl⟩⟩
      · exact ⟨0, Or.inl rfl, ⟨fun y => absurd y (by decide), fun y => absurd (y b (by omega)) z⟩, bk_X1_hasRoomFor_2 hs ⟨fun y => absurd y (by omega), fun _ => inner b (by omega) _ (fun y => absurd y z) (fun _ => rfl) 12 0 rfl⟩⟩
  obtain ⟨v, v1, v2, A⟩ := loop 8 0 rfl fun c hc => absurd hc (Nat.not_lt_zero c)
  exact ⟨v, v1, v2, bk_X1_hasRoomFor_0 hs A⟩
