/-! writes: the order, in the class -/
theorem i32_neg {s : Nat} (h : s < 2147483648) : (Int32.ofInt (-1 - (s : Int))).toBitVec.toNat = 2 ^ 32 - (s + 1) := by
  show (BitVec.ofInt 32 (-1 - (s : Int))).toNat = _
  rw [BitVec.toNat_ofInt]
  omega
theorem iAnd_not {a s : Nat} (ha : a < 2147483648) (hs : s < 2147483648) : iAnd (a : Int) (-1 - (s : Int)) = ((a &&& (2 ^ 32 - (s + 1)) : Nat) : Int) := by
  unfold iAnd
  refine i32_int ?_ (Nat.lt_of_le_of_lt Nat.and_le_left ha)
  rw [Int32.toBitVec_and, BitVec.toNat_and, i32_nat ha, i32_neg hs]
theorem and_not_bit {a s i : Nat} (hs : s < 2147483648) (hi : i < 32) : (a &&& (2 ^ 32 - (s + 1))).testBit i = (a.testBit i && !s.testBit i) := by
  rw [Nat.testBit_and, Nat.testBit_two_pow_sub_succ (by omega)]
  simp [hi]
/-- from these boxes on, one by one through good sets, all are reached -/
def LdN (all : Nat) (G : Nat → Prop) : Nat → Nat → Prop
  | 0, S => S = all
  | n + 1, S => S = all ∨ ∃ b, b < 8 ∧ all.testBit b = true ∧ S.testBit b = false ∧ G (S ||| 2 ^ b) ∧ LdN all G n (S ||| 2 ^ b)
def Ld (all : Nat) (G : Nat → Prop) (S : Nat) : Prop := LdN all G (8 - cb 8 S) S
def Nx (all : Nat) (G : Nat → Prop) (S b : Nat) : Prop := b < 8 ∧ all.testBit b = true ∧ S.testBit b = false ∧ G (S ||| 2 ^ b) ∧ Ld all G (S ||| 2 ^ b)
theorem cb_full {S b : Nat} (h : cb 8 S = 8) (hb : b < 8) : S.testBit b = true := fb_ct_all.mp h b hb
theorem Ld_iff {all : Nat} {G : Nat → Prop} {S : Nat} : Ld all G S ↔ S = all ∨ ∃ b, Nx all G S b := by
  have le := cb_le 8 S
  unfold Ld Nx
  by_cases h : cb 8 S = 8
  · rw [h]
    refine ⟨fun z => Or.inl z, fun z => z.elim id fun ⟨b, hb, h1, h2, h3⟩ => ?_⟩
    rw [cb_full h hb] at h2
    exact absurd h2 (by decide)
  · obtain ⟨n, hn⟩ : ∃ n, 8 - cb 8 S = n + 1 := ⟨8 - cb 8 S - 1, by omega⟩
    rw [hn]
    constructor
    · rintro (z | ⟨b, hb, h1, h2, h3, h4⟩)
      · exact Or.inl z
      · refine Or.inr ⟨b, hb, h1, h2, h3, ?_⟩
        unfold Ld
        rw [cb_or hb h2, show 8 - (cb 8 S + 1) = n by omega]
        exact h4
    · rintro (z | ⟨b, hb, h1, h2, h3, h4⟩)
      · exact Or.inl z
      · refine Or.inr ⟨b, hb, h1, h2, h3, ?_⟩
        unfold Ld at h4
        rw [cb_or hb h2, show 8 - (cb 8 S + 1) = n by omega] at h4
        exact h4
/-- the first order, told from a place on -/
def Pt (all : Nat) (G : Nat → Prop) (tr : Nat → Int) : Nat → Nat → Prop
  | 0, S => S = all
  | n + 1, S => ¬ S = all ∧ ∃ b : Nat, tr (cb 8 S) = (b : Int) ∧ Nx all G S b ∧ (∀ c, c < b → ¬ Nx all G S c) ∧ Pt all G tr n (S ||| 2 ^ b)
theorem Pt.cong {all : Nat} {G : Nat → Prop} {tr tr' : Nat → Int} : ∀ (n S : Nat), (∀ i, cb 8 S ≤ i → tr' i = tr i) → Pt all G tr n S → Pt all G tr' n S
  | 0, _, _, h => h
  | n + 1, S, e, ⟨h0, b, h1, h2, h3, h4⟩ => ⟨h0, b, by rw [e _ (Nat.le_refl _)]; exact h1, h2, h3, Pt.cong n _ (fun i hi => e i (by rw [cb_or h2.1 h2.2.2.1] at hi; omega)) h4⟩
theorem Pt.one {all : Nat} {G : Nat → Prop} {tr tr' : Nat → Int} : ∀ (n S : Nat), Pt all G tr n S → Pt all G tr' n S → ∀ i, cb 8 S ≤ i → i < cb 8 S + n → tr i = tr' i
  | 0, S, _, _, i, h1, h2 => by omega
  | n + 1, S, ⟨_, b, h1, h2, h3, h4⟩, ⟨_, c, g1, g2, g3, g4⟩, i, i1, i2 => by
    have : b = c := by
      rcases Nat.lt_trichotomy b c with z | z | z
      · exact absurd h2 (g3 b z)
      · exact z
      · exact absurd g2 (h3 c z)
    subst this
    by_cases z : i = cb 8 S
    · rw [z, h1, g1]
    · exact Pt.one n _ h4 g4 i (by rw [cb_or h2.1 h2.2.2.1]; omega) (by rw [cb_or h2.1 h2.2.2.1]; omega)
theorem Pt.new {all : Nat} {G : Nat → Prop} {tr : Nat → Int} : ∀ (n S : Nat), Pt all G tr n S → ∀ i, cb 8 S ≤ i → i < cb 8 S + n → ∃ b : Nat, b < 8 ∧ tr i = (b : Int) ∧ S.testBit b = false
  | 0, S, _, i, h1, h2 => by omega
  | n + 1, S, ⟨_, b, h1, h2, h3, h4⟩, i, i1, i2 => by
    by_cases z : i = cb 8 S
    · exact ⟨b, h2.1, by rw [z]; exact h1, h2.2.2.1⟩
    · obtain ⟨c, hc, e, hb⟩ := Pt.new n _ h4 i (by rw [cb_or h2.1 h2.2.2.1]; omega) (by rw [cb_or h2.1 h2.2.2.1]; omega)
      rw [or_bit] at hb
      exact ⟨c, hc, e, by simp at hb; exact hb.1⟩
theorem Pt.dis {all : Nat} {G : Nat → Prop} {tr : Nat → Int} : ∀ (n S : Nat), Pt all G tr n S → ∀ i j, cb 8 S ≤ i → i < j → j < cb 8 S + n → ¬ tr i = tr j
  | 0, S, _, i, j, h1, h2, h3 => by omega
  | n + 1, S, ⟨_, b, h1, h2, h3, h4⟩, i, j, i1, i2, i3 => by
    have e := cb_or h2.1 h2.2.2.1
    by_cases z : i = cb 8 S
    · obtain ⟨c, hc, ec, hb⟩ := Pt.new n _ h4 j (by rw [e]; omega) (by rw [e]; omega)
      rw [or_bit] at hb
      have : ¬ b = c := by simp at hb; exact hb.2
      rw [z, h1, ec]
      omega
    · exact Pt.dis n _ h4 i j (by rw [e]; omega) i2 (by rw [e]; omega)
/-- what a set of boxes written must keep -/
def Gd (f : FI) (g : FL) (B : Nat) (S : Nat) : Prop := ∀ q : Nat, q < 512 → En f B q → enD (GB f g B (S : Int)) (q : Int) = enD (GB f g B 0) (q : Int) ∨ enD (GB f g B (S : Int)) (q : Int) = enD (GB f g B 255) (q : Int)
def A_X5_isSafe_19 (σ : St) (f : FI) (g : FL) (n : Nat) (x2 : Nat) (x3 : Int) (r : St × List Vl) : Prop := ∀ (y1 : Int), Gx mt 5 cd_X5_isSafe (il σ f g) (cd_X5_isSafe 19) [some (vR 5 (some (n + 101))), some (vI y1), some (vR 14 (some x2)), some (vI x3)] [] r
theorem bk_X5_isSafe_0 {σ : St} {f : FI} {g : FL} {n : Nat} {x1 : Int} {r : St × List Vl} (hs : Sh5 σ n) (h : (∃ (f1 : FI) (g2 : FL), Ex mt 3 46 (il σ f g) [vR 3 (some n), vI x1, vR 14 (some (n + 100))] ((il σ f1 g2), []) ∧ (A_X5_isSafe_19 σ f1 g2 n (n + 100) 0 r))) : Ex mt 5 75 (il σ f g) [vR 5 (some (n + 101)), vI x1] r := Ex.mk mt_75 (show Gx mt 5 cd_X5_isSafe (il σ f g) b_X5_isSafe_0 [some (vR 5 (some (n + 101))), some (vI x1), none, none] [] r from (go_loadA rfl (gi_getR (Sh5.r0 hs) (gi_getR (Sh3.r6 (Sh5.o0 hs)) (go_stoA rfl rfl (go_loadA rfl (gi_getR (Sh5.r0 hs) (go_loadI rfl (go_loadA rfl (Exists.elim h fun f1 w4 => Exists.elim w4 fun g2 h3 => (go_callV rfl rfl rfl h3.1 (go_pushI rfl (go_stoI rfl rfl (go_fall (h3.2 _)))))))))))))))
theorem bk_X5_isSafe_19 {σ : St} {f : FI} {g : FL} {n : Nat} {x2 : Nat} {x3 : Int} {r : St × List Vl} (hs : Sh5 σ n) (h : ((512 ≤ x3 → (r = ((il σ f g), [vI 1]))) ∧ (¬ 512 ≤ x3 → ((0 ≤ x3 ∧ x3 < 512) ∧ (0 ≤ f n 2 ∧ f n 2 ≤ 255)) ∧ ((¬ ((hB (f n 2) (x3 / 64))) → ((-2147483648 ≤ (x3 + 1) ∧ (x3 + 1) ≤ 2147483647)) ∧ (A_X5_isSafe_19 σ f g n x2 (x3 + 1) r)) ∧ (((hB (f n 2) (x3 / 64))) → ((0 ≤ x3 ∧ x3 < (ln σ x2 : Int))) ∧ (∃ (f7 : FI) (g8 : FL) (v10 : Int), Ex mt 0 76 (il σ f g) [vR 5 (some (n + 101)), vI x3, vI (f x2 ((x3).toNat))] ((il σ f7 g8), [vI v10]) ∧ ((v10 = 0 → ((-2147483648 ≤ (x3 + 1) ∧ (x3 + 1) ≤ 2147483647)) ∧ (A_X5_isSafe_19 σ f7 g8 n x2 (x3 + 1) r)) ∧ (¬ v10 = 0 → (r = ((il σ f7 g8), [vI 0])))))))))) : A_X5_isSafe_19 σ f g n x2 x3 r := fun y1 => (show Gx mt 5 cd_X5_isSafe (il σ f g) b_X5_isSafe_19 [some (vR 5 (some (n + 101))), some (vI y1), some (vR 14 (some x2)), some (vI x3)] [] r from (go_loadI rfl (go_pushI rfl (gq_icmp_ge (fun e3 => have h1 := h.1 e3; (go_pushI rfl (h1 ▸ (gq_retZ ⟨by decide, by decide⟩)))) (fun e3 => have h2 := h.2 e3; (go_loadA rfl (gi_getR (Sh5.r0 hs) (go_loadI rfl (go_callV rfl rfl rfl (pu_isEntry (Sh5.o0 hs) h2.1.1 h2.1.2) (go_ifb_eq (fun e6 => have h4 := h2.2.1 e6; (go_iinc rfl h4.1 rfl (go_goto (h4.2 _)))) (fun e6 => have h5 := h2.2.2 e6; (go_loadA rfl (go_loadI rfl (go_loadA rfl (go_loadI rfl (gi_iald h5.1 (Exists.elim h5.2 fun f7 w14 => Exists.elim w14 fun g8 w15 => Exists.elim w15 fun v10 h9 => (go_callV rfl rfl rfl h9.1 (gq_if_eq (fun e13 => have h11 := h9.2.1 e13; (go_iinc rfl h11.1 rfl (go_goto (h11.2 _)))) (fun e13 => have h12 := h9.2.2 e13; (go_pushI rfl (h12 ▸ (gq_retZ ⟨by decide, by decide⟩)))))))))))))))))))))))
def A_X5_leadsOn_25 (d : Nat) (σ : St) (f : FI) (g : FL) (n : Nat) (x1 : Int) (x2 : Int) (x3 : Int) (x4 : Int) (r : St × List Vl) : Prop := ∀ (y5 : Option Vl), Gx mt (d + 30) cd_X5_leadsOn (il σ f g) (cd_X5_leadsOn 25) [some (vR 5 (some (n + 101))), some (vI x1), some (vI x2), some (vI x3), some (vI x4), y5] [] r
theorem bk_X5_leadsOn_0 {σ : St} {f : FI} {g : FL} {n : Nat} {x1 : Int} {x2 : Int} {x3 : Int} {r : St × List Vl} {d : Nat} (hs : Sh5 σ n) (h : ((x1 = x2 → ((¬ x1 = x2 → (r = ((il σ f g), [vI 0]))) ∧ (x1 = x2 → (r = ((il σ f g), [vI 1]))))) ∧ (¬ x1 = x2 → ((x3 < 8 → (A_X5_leadsOn_25 d σ f g n x1 x2 x3 0 r)) ∧ (¬ x3 < 8 → ((¬ x1 = x2 → (r = ((il σ f g), [vI 0]))) ∧ (x1 = x2 → (r = ((il σ f g), [vI 1]))))))))) : Ex mt (d + 30) 74 (il σ f g) [vR 5 (some (n + 101)), vI x1, vI x2, vI x3] r := Ex.mk mt_74 (show Gx mt (d + 30) cd_X5_leadsOn (il σ f g) b_X5_leadsOn_0 [some (vR 5 (some (n + 101))), some (vI x1), some (vI x2), some (vI x3), none, none] [] r from (go_loadI rfl (go_loadI rfl (gq_icmp_eq (fun e3 => have h1 := h.1 e3; (go_loadI rfl (go_loadI rfl (gq_icmp_ne (fun e6 => have h4 := h1.1 e6; (go_pushI rfl (go_fall (h4 ▸ (gq_retZ ⟨by decide, by decide⟩))))) (fun e6 => have h5 := h1.2 e6; (go_pushI rfl (go_goto (h5 ▸ (gq_retZ ⟨by decide, by decide⟩))))))))) (fun e3 => have h2 := h.2 e3; (go_loadI rfl (go_pushI rfl (gq_icmp_lt (fun e9 => have h7 := h2.1 e9; (go_pushI rfl (go_stoI rfl rfl (go_fall (h7 _))))) (fun e9 => have h8 := h2.2 e9; (go_fall (go_loadI rfl (go_loadI rfl (gq_icmp_ne (fun e12 => have h10 := h8.1 e12; (go_pushI rfl (go_fall (h10 ▸ (gq_retZ ⟨by decide, by decide⟩))))) (fun e12 => have h11 := h8.2 e12; (go_pushI rfl (go_goto (h11 ▸ (gq_retZ ⟨by decide, by decide⟩))))))))))))))))))
theorem bk_X5_leadsOn_25 {σ : St} {f : FI} {g : FL} {n : Nat} {x1 : Int} {x2 : Int} {x3 : Int} {x4 : Int} {r : St × List Vl} {d : Nat} (hs : Sh5 σ n) (h : ((8 ≤ x4 → (r = ((il σ f g), [vI 0]))) ∧ (¬ 8 ≤ x4 → ((0 ≤ x4 ∧ x4 < 31) ∧ (-2147483648 ≤ x1 ∧ x1 ≤ 2147483647) ∧ (-2147483648 ≤ (iAnd x2 (-1 - x1)) ∧ (iAnd x2 (-1 - x1)) ≤ 2147483647) ∧ (0 ≤ x4 ∧ x4 < 32)) ∧ ((¬ ((hB (iAnd x2 (-1 - x1)) x4)) → ((-2147483648 ≤ (x4 + 1) ∧ (x4 + 1) ≤ 2147483647)) ∧ (A_X5_leadsOn_25 d σ f g n x1 x2 x3 (x4 + 1) r)) ∧ (((hB (iAnd x2 (-1 - x1)) x4)) → ((0 ≤ (iOr x1 (p2 x4)) ∧ (iOr x1 (p2 x4)) < 256)) ∧ ((¬ (f (n + 105) (((iOr x1 (p2 x4))).toNat)) = 0 → ((-2147483648 ≤ (x4 + 1) ∧ (x4 + 1) ≤ 2147483647)) ∧ (A_X5_leadsOn_25 d σ f g n x1 x2 x3 (x4 + 1) r)) ∧ ((f (n + 105) (((iOr x1 (p2 x4))).toNat)) = 0 → ((0 ≤ x3 ∧ x3 < 8)) ∧ (∃ (f10 : FI) (g11 : FL) (v13 : Int), Ex mt 5 75 (il σ (up2 f (n + 104) ((x3).toNat) x4) g) [vR 5 (some (n + 101)), vI (iOr x1 (p2 x4))] ((il σ f10 g11), [vI v13]) ∧ ((v13 = 0 → ((0 ≤ (iOr x1 (p2 x4)) ∧ (iOr x1 (p2 x4)) < 256)) ∧ ((-2147483648 ≤ (x4 + 1) ∧ (x4 + 1) ≤ 2147483647)) ∧ (A_X5_leadsOn_25 d σ (up2 f10 (n + 105) (((iOr x1 (p2 x4))).toNat) 1) g11 n x1 x2 x3 (x4 + 1) r)) ∧ (¬ v13 = 0 → ((-2147483648 ≤ (x3 + 1) ∧ (x3 + 1) ≤ 2147483647)) ∧ (∃ (f17 : FI) (g18 : FL) (v20 : Int), Ex mt (d + 29) 74 (il σ f10 g11) [vR 5 (some (n + 101)), vI (iOr x1 (p2 x4)), vI x2, vI (x3 + 1)] ((il σ f17 g18), [vI v20]) ∧ ((v20 = 0 → ((0 ≤ (iOr x1 (p2 x4)) ∧ (iOr x1 (p2 x4)) < 256)) ∧ ((-2147483648 ≤ (x4 + 1) ∧ (x4 + 1) ≤ 2147483647)) ∧ (A_X5_leadsOn_25 d σ (up2 f17 (n + 105) (((iOr x1 (p2 x4))).toNat) 1) g18 n x1 x2 x3 (x4 + 1) r)) ∧ (¬ v20 = 0 → (r = ((il σ f17 g18), [vI 1]))))))))))))))) : A_X5_leadsOn_25 d σ f g n x1 x2 x3 x4 r := fun y5 => (show Gx mt (d + 30) cd_X5_leadsOn (il σ f g) b_X5_leadsOn_25 [some (vR 5 (some (n + 101))), some (vI x1), some (vI x2), some (vI x3), some (vI x4), y5] [] r from (go_loadI rfl (go_pushI rfl (gq_icmp_ge (fun e3 => have h1 := h.1 e3; (go_pushI rfl (h1 ▸ (gq_retZ ⟨by decide, by decide⟩)))) (fun e3 => have h2 := h.2 e3; (go_loadI rfl (go_pushI rfl (go_loadI rfl (go_ishl (iShl_1 h2.1.1) (go_ior rfl (go_stoI rfl rfl (go_loadI rfl (go_loadI rfl (go_pushI rfl (go_ixor (iXor_m1 h2.1.2.1) (go_iand rfl (go_loadI rfl (go_callS rfl rfl (decide_eq_true (by omega)) (pu_hasBit h2.1.2.2.1 h2.1.2.2.2) (go_ifb_eq (fun e6 => have h4 := h2.2.1 e6; (go_iinc rfl h4.1 rfl (go_goto (h4.2 _)))) (fun e6 => have h5 := h2.2.2 e6; (go_loadA rfl (gi_getR (Sh5.r5 hs) (go_loadI rfl (gi_iald (inl_ (Sh5.l5 hs) h5.1) (gq_if_ne (fun e9 => have h7 := h5.2.1 e9; (go_iinc rfl h7.1 rfl (go_goto (h7.2 _)))) (fun e9 => have h8 := h5.2.2 e9; (go_loadA rfl (gi_getR (Sh5.r4 hs) (go_loadI rfl (go_loadI rfl (gi_iast (inl_ (Sh5.l4 hs) h8.1) (go_loadA rfl (go_loadI rfl (Exists.elim h8.2 fun f10 w26 => Exists.elim w26 fun g11 w27 => Exists.elim w27 fun v13 h12 => (go_callV rfl rfl (decide_eq_true (by omega)) h12.1 (gq_if_eq (fun e16 => have h14 := h12.2.1 e16; (go_loadA rfl (gi_getR (Sh5.r5 hs) (go_loadI rfl (go_pushI rfl (gi_iast (inl_ (Sh5.l5 hs) h14.1) (go_fall (go_iinc rfl h14.2.1 rfl (go_goto (h14.2.2 _)))))))))) (fun e16 => have h15 := h12.2.2 e16; (go_loadA rfl (go_loadI rfl (go_loadI rfl (go_loadI rfl (go_pushI rfl (go_iadd h15.1 (Exists.elim h15.2 fun f17 w24 => Exists.elim w24 fun g18 w25 => Exists.elim w25 fun v20 h19 => (go_callS rfl rfl (decide_eq_true (by omega)) h19.1 (gq_if_eq (fun e23 => have h21 := h19.2.1 e23; (go_loadA rfl (gi_getR (Sh5.r5 hs) (go_loadI rfl (go_pushI rfl (gi_iast (inl_ (Sh5.l5 hs) h21.1) (go_fall (go_iinc rfl h21.2.1 rfl (go_goto (h21.2.2 _)))))))))) (fun e23 => have h22 := h19.2.2 e23; (go_pushI rfl (h22 ▸ (gq_retZ ⟨by decide, by decide⟩))))))))))))))))))))))))))))))))))))))))))))))))))
theorem bk_X5_findOrder_0 {σ : St} {f : FI} {g : FL} {n : Nat} {r : St × List Vl} (hs : Sh5 σ n) (h : (∃ (f1 : FI) (g2 : FL) (v4 : Int), Ex mt 1 34 (il σ f g) [vR 3 (some n)] ((il σ f1 g2), [vI v4]) ∧ (∃ (f5 : FI) (g6 : FL), Ex mt 3 46 (il σ f1 g2) [vR 3 (some n), vI 0, vR 14 (some (n + 106))] ((il σ f5 g6), []) ∧ (∃ (f8 : FI) (g9 : FL), Ex mt 3 46 (il σ f5 g6) [vR 3 (some n), vI 255, vR 14 (some (n + 107))] ((il σ f8 g9), []) ∧ (∃ (f11 : FI) (g12 : FL), Ex mt 0 315 (il σ f8 g9) [vR 14 (some (n + 105)), vI 0] ((il σ f11 g12), []) ∧ (∃ (f14 : FI) (g15 : FL) (v17 : Int), Ex mt 106 74 (il σ f11 g12) [vR 5 (some (n + 101)), vI 0, vI v4, vI 0] ((il σ f14 g15), [vI v17]) ∧ ((¬ v17 = 0 → ((0 ≤ v4 ∧ v4 < 4096) ∧ ((0 : Int) ≤ 8 ∧ (0 : Int) ≤ 0 ∧ (0 : Int) ≤ 0 ∧ 0 + 8 ≤ (ln σ (n + 104) : Int) ∧ 0 + 8 ≤ (ln σ (n + 103) : Int))) ∧ (∀ (f21 : FI), f21 = (up1 (up2 f14 (n + 101) 3 (pcI v4)) (n + 103) (cpyF ((up2 f14 (n + 101) 3 (pcI v4)) (n + 104)) ((up2 f14 (n + 101) 3 (pcI v4)) (n + 103)) 0 0 8)) → (r = ((il σ f21 g15), [vI (f21 (n + 101) 3)])))) ∧ (v17 = 0 → (r = ((il σ f14 g15), [vI (-2)])))))))))) : Ex mt 107 73 (il σ f g) [vR 5 (some (n + 101))] r := Ex.mk mt_73 (show Gx mt 107 cd_X5_findOrder (il σ f g) b_X5_findOrder_0 [some (vR 5 (some (n + 101))), none] [] r from (go_loadA rfl (gi_getR (Sh5.r0 hs) (Exists.elim h fun f1 w29 => Exists.elim w29 fun g2 w30 => Exists.elim w30 fun v4 h3 => (go_callV rfl rfl rfl h3.1 (go_stoI rfl rfl (go_loadA rfl (gi_getR (Sh5.r0 hs) (go_pushI rfl (go_loadA rfl (gi_getR (Sh5.r6 hs) (Exists.elim h3.2 fun f5 w28 => Exists.elim w28 fun g6 h7 => (go_callV rfl rfl rfl h7.1 (go_loadA rfl (gi_getR (Sh5.r0 hs) (go_pushI rfl (go_loadA rfl (gi_getR (Sh5.r7 hs) (Exists.elim h7.2 fun f8 w27 => Exists.elim w27 fun g9 h10 => (go_callV rfl rfl rfl h10.1 (go_loadA rfl (gi_getR (Sh5.r5 hs) (go_pushI rfl (Exists.elim h10.2 fun f11 w26 => Exists.elim w26 fun g12 h13 => (go_callS rfl rfl rfl h13.1 (go_loadA rfl (go_pushI rfl (go_loadI rfl (go_pushI rfl (Exists.elim h13.2 fun f14 w24 => Exists.elim w24 fun g15 w25 => Exists.elim w25 fun v17 h16 => (go_callS rfl rfl rfl h16.1 (gq_if_ne (fun e20 => have h18 := h16.2.1 e20; (go_loadA rfl (go_loadI rfl (go_callS rfl rfl rfl (pu_bitCountI h18.1.1) (gi_putI (go_loadA rfl (gi_getR (Sh5.r4 hs) (go_pushI rfl (go_loadA rfl (gi_getR (Sh5.r2 hs) (go_pushI rfl (go_pushI rfl (gi_cpyI h18.1.2 rfl (Gx.letF (fun f21 e23 => have h22 := h18.2 f21 e23; (go_loadA rfl (gi_getI (h22 ▸ gq_retI)))))))))))))))))) (fun e20 => have h19 := h16.2.2 e20; (go_pushI rfl (h19 ▸ gq_retI)))))))))))))))))))))))))))))))))))
theorem bk_X11_writes_0 {σ : St} {f : FI} {g : FL} {a : Nat} {r : St × List Vl} (hs : Sh11 σ a) (h : (∃ (f1 : FI) (g2 : FL) (v4 : Int), Ex mt 107 73 (il σ f g) [vR 5 (some (a + 144))] ((il σ f1 g2), [vI v4]) ∧ (r = ((il σ f1 g2), [vI v4])))) : Ex mt 108 166 (il σ f g) [vR 11 (some a)] r := Ex.mk mt_166 (show Gx mt 108 cd_X11_writes (il σ f g) b_X11_writes_0 [some (vR 11 (some a))] [] r from (go_loadA rfl (gi_getR (Sh11.r10 hs) (Exists.elim h fun f1 w5 => Exists.elim w5 fun g2 w6 => Exists.elim w6 fun v4 h3 => (go_callV rfl rfl rfl h3.1 (h3.2 ▸ gq_retI))))))
/-- the state of the search: what is kept of the ends -/
def Sea (f0 f : FI) (B : Nat) : Prop := ∀ a, a ≠ B + 143 → a ≠ B + 147 → a ≠ B + 148 → f a = f0 a
def Fil (f : FI) (g : FL) (B : Nat) : Prop := ∀ q : Nat, q < 512 → En f B q → f (B + 149) q = enD (GB f g B 0) (q : Int) ∧ f (B + 150) q = enD (GB f g B 255) (q : Int)
theorem x_isSafe {σ : St} {f0 f : FI} {g : FL} {B S : Nat} {nn : Nat → Nat} (hs : Sh5 σ (B + 43)) (hT : TCs f0 B nn) (hen : 0 ≤ f0 (B + 43) 2 ∧ f0 (B + 43) 2 ≤ 255) (hF : Fil f0 g B) (h : Sea f0 f B) (hS : S < 256) : ∃ (f' : FI) (v : Int), (v = 0 ∨ v = 1) ∧ (v = 1 ↔ Gd f0 g B S) ∧ Ex mt 5 75 (il σ f g) [vR 5 (some (B + 144)), vI (S : Int)] (il σ f' g, [vI v]) ∧ (∀ a, a ≠ B + 143 → f' a = f a) := by
  have eT : SameT f0 f B := fun a h1 h2 => h a (by omega) (by omega) (by omega)
  have e43 : f (B + 43) = f0 (B + 43) := h _ (by omega) (by omega) (by omega)
  obtain ⟨f1, E, a1, a2⟩ := x_fillEnds (f := f) (g := g) (e := B + 143) (b := (S : Int)) hs.o0 hs.o0.l6 (by omega) (by omega) (hT.of eT) (by rw [e43]; exact hen)
  have a3 : ∀ q : Nat, q < 512 → En f0 B q → f1 (B + 143) q = enD (GB f0 g B (S : Int)) (q : Int) := fun q hq hE => by
    rw [a2 q hq (by unfold En at hE ⊢; rw [e43]; exact hE)]
    exact enD_cong fun z hz => GB_of hz eT rfl
  have e2 : f1 (B + 43) 2 = f0 (B + 43) 2 := by rw [a1 _ (by omega), e43]
  have loop : ∀ k i : Nat, i + k = 512 → (∀ q : Nat, q < i → En f0 B q → enD (GB f0 g B (S : Int)) (q : Int) = enD (GB f0 g B 0) (q : Int) ∨ enD (GB f0 g B (S : Int)) (q : Int) = enD (GB f0 g B 255) (q : Int)) → ∃ v : Int, (v = 0 ∨ v = 1) ∧ (v = 1 ↔ Gd f0 g B S) ∧ A_X5_isSafe_19 σ f1 g (B + 43) (B + 143) (i : Int) (il σ f1 g, [vI v]) := by
    intro k
    induction k with
    | zero =>
      intro i hi hj
      obtain rfl : i = 512 := by omega
      exact ⟨1, Or.inr rfl, ⟨fun _ => hj, fun _ => rfl⟩, bk_X5_isSafe_19 hs ⟨fun _ => rfl, fun z => absurd (by decide) z⟩⟩
    | succ k ih =>
      intro i hi hj
      have ob : ((0 : Int) ≤ (i : Int) ∧ (i : Int) < 512) ∧ ((0 : Int) ≤ f1 (B + 43) 2 ∧ f1 (B + 43) 2 ≤ 255) := by rw [e2]; exact ⟨by omega, hen⟩
      by_cases hE : En f0 B (i : Int)
      · have N := x_neiC (σ := σ) (f := f1) (g := g) (p := (i : Int)) (v := f1 (B + 143) i) hs (by omega)
        have w0 : f1 (B + 143) i = enD (GB f0 g B (S : Int)) (i : Int) := a3 i (by omega) hE
        have w1 : f1 (B + 149) (i : Int).toNat = enD (GB f0 g B 0) (i : Int) := by rw [a1 _ (by omega), h _ (by omega) (by omega) (by omega)]; exact (hF i (by omega) hE).1
        have w2 : f1 (B + 150) (i : Int).toNat = enD (GB f0 g B 255) (i : Int) := by rw [a1 _ (by omega), h _ (by omega) (by omega) (by omega)]; exact (hF i (by omega) hE).2
        have l6 : ((0 : Int) ≤ (i : Int) ∧ (i : Int) < (ln σ (B + 143) : Int)) := by rw [hs.o0.l6]; omega
        rw [w1, w2] at N
        by_cases ok : enD (GB f0 g B (S : Int)) (i : Int) = enD (GB f0 g B 0) (i : Int) ∨ enD (GB f0 g B (S : Int)) (i : Int) = enD (GB f0 g B 255) (i : Int)
        · obtain ⟨v, v1, v2, A⟩ := ih (i + 1) (by omega) fun q hq hEq => by
            by_cases z : q = i
            · subst z; exact ok
            · exact hj q (by omega) hEq
          refine ⟨v, v1, v2, bk_X5_isSafe_19 hs ⟨fun z => absurd z (by omega), fun _ => ⟨ob, fun z => absurd (by rw [e2]; exact hE) z, fun _ => ⟨l6, f1, g, _, N, fun _ => ⟨by omega, A⟩, fun z => absurd (bI_f fun y => ?_) z⟩⟩⟩⟩
          rw [w0] at y
          exact ok.elim y.1 y.2
        · refine ⟨0, Or.inl rfl, ⟨fun z => absurd z (by decide), fun z => absurd (z i (by omega) hE) ok⟩, bk_X5_isSafe_19 hs ⟨fun z => absurd z (by omega), fun _ => ⟨ob, fun z => absurd (by rw [e2]; exact hE) z, fun _ => ⟨l6, f1, g, _, N, fun z => absurd ((bI_0 _).mp z) fun y => y ?_, fun _ => rfl⟩⟩⟩⟩
          rw [w0]
          exact ⟨fun z => ok (Or.inl z), fun z => ok (Or.inr z)⟩
      · obtain ⟨v, v1, v2, A⟩ := ih (i + 1) (by omega) fun q hq hEq => by
          by_cases z : q = i
          · subst z; exact absurd hEq hE
          · exact hj q (by omega) hEq
        exact ⟨v, v1, v2, bk_X5_isSafe_19 hs ⟨fun z => absurd z (by omega), fun _ => ⟨ob, fun _ => ⟨by omega, A⟩, fun z => absurd (by rw [e2] at z; exact z) hE⟩⟩⟩
  obtain ⟨v, v1, v2, A⟩ := loop 512 0 rfl fun q hq => absurd hq (Nat.not_lt_zero q)
  exact ⟨f1, v, v1, v2, bk_X5_isSafe_0 hs ⟨f1, g, E, A⟩, a1⟩
def Dead (f : FI) (B : Nat) (all : Nat) (G : Nat → Prop) : Prop := ∀ T : Nat, T < 256 → ¬ f (B + 148) T = 0 → ¬ (G T ∧ Ld all G T)
theorem x_leadsOn {σ : St} {f0 : FI} {g : FL} {B all : Nat} {nn : Nat → Nat} (hs : Sh5 σ (B + 43)) (hT : TCs f0 B nn) (hen : 0 ≤ f0 (B + 43) 2 ∧ f0 (B + 43) 2 ≤ 255) (hF : Fil f0 g B) (ha : all < 256) : ∀ (n S : Nat) (f : FI), S < 256 → (∀ i, i < 8 → S.testBit i = true → all.testBit i = true) → cb 8 S + n ≥ 8 → Sea f0 f B → Dead f B all (Gd f0 g B) → ∃ (f' : FI) (v : Int), Ex mt (n + 30) 74 (il σ f g) [vR 5 (some (B + 144)), vI (S : Int), vI (all : Int), vI (cb 8 S : Int)] (il σ f' g, [vI v]) ∧ (v = 0 ∨ v = 1) ∧ (v = 1 ↔ Ld all (Gd f0 g B) S) ∧ (v = 1 → Pt all (Gd f0 g B) (f' (B + 147)) (cb 8 all - cb 8 S) S) ∧ (∀ i, i < cb 8 S → f' (B + 147) i = f (B + 147) i) ∧ Sea f0 f' B ∧ Dead f' B all (Gd f0 g B) := by
  intro n
  induction n with
  | zero =>
    intro S f hS hsub hn hf hd
    have le := cb_le 8 S
    have e8 : cb 8 S = 8 := by omega
    have : S = all := bit_ext (n := 8) hS ha fun i hi => by rw [cb_full e8 hi, hsub i hi (cb_full e8 hi)]
    subst this
    exact ⟨f, 1, bk_X5_leadsOn_0 hs ⟨fun _ => ⟨fun z => absurd rfl z, fun _ => rfl⟩, fun z => absurd rfl z⟩, Or.inr rfl, ⟨fun _ => Ld_iff.mpr (Or.inl rfl), fun _ => rfl⟩, fun _ => by rw [Nat.sub_self]; exact rfl, fun _ _ => rfl, hf, hd⟩
  | succ n ih =>
    intro S f hS hsub hn hf hd
    by_cases he : S = all
    · subst he
      exact ⟨f, 1, bk_X5_leadsOn_0 hs ⟨fun _ => ⟨fun z => absurd rfl z, fun _ => rfl⟩, fun z => absurd rfl z⟩, Or.inr rfl, ⟨fun _ => Ld_iff.mpr (Or.inl rfl), fun _ => rfl⟩, fun _ => by rw [Nat.sub_self]; exact rfl, fun _ _ => rfl, hf, hd⟩
    · have le := cb_le 8 S
      have c8 : cb 8 S < 8 := by
        rcases Nat.lt_or_ge (cb 8 S) 8 with z | z
        · exact z
        · have e8 : cb 8 S = 8 := by omega
          exact absurd (bit_ext (n := 8) hS ha fun i hi => by rw [cb_full e8 hi, hsub i hi (cb_full e8 hi)]) he
      have loop : ∀ k b : Nat, b + k = 8 → ∀ fi : FI, Sea f0 fi B → Dead fi B all (Gd f0 g B) → (∀ i, i < cb 8 S → fi (B + 147) i = f (B + 147) i) → (∀ c, c < b → ¬ Nx all (Gd f0 g B) S c) → ∃ (f' : FI) (v : Int), A_X5_leadsOn_25 (n + 1) σ fi g (B + 43) (S : Int) (all : Int) (cb 8 S : Int) (b : Int) (il σ f' g, [vI v]) ∧ (v = 0 ∨ v = 1) ∧ (v = 1 ↔ Ld all (Gd f0 g B) S) ∧ (v = 1 → Pt all (Gd f0 g B) (f' (B + 147)) (cb 8 all - cb 8 S) S) ∧ (∀ i, i < cb 8 S → f' (B + 147) i = f (B + 147) i) ∧ Sea f0 f' B ∧ Dead f' B all (Gd f0 g B) := by
        intro k
        induction k with
        | zero =>
          intro b hb fi hfi hdi htr hnx
          obtain rfl : b = 8 := by omega
          exact ⟨fi, 0, bk_X5_leadsOn_25 hs ⟨fun _ => rfl, fun z => absurd (by decide) z⟩, Or.inl rfl, ⟨fun z => absurd z (by decide), fun z => (Ld_iff.mp z).elim (fun y => absurd y he) fun ⟨c, hc⟩ => absurd hc (hnx c hc.1)⟩, fun z => absurd z (by decide), htr, hfi, hdi⟩
        | succ k ihk =>
          intro b hb fi hfi hdi htr hnx
          have ob : ((0 : Int) ≤ (b : Int) ∧ (b : Int) < 31) ∧ (-2147483648 ≤ (S : Int) ∧ (S : Int) ≤ 2147483647) ∧ (-2147483648 ≤ iAnd (all : Int) (-1 - (S : Int)) ∧ iAnd (all : Int) (-1 - (S : Int)) ≤ 2147483647) ∧ ((0 : Int) ≤ (b : Int) ∧ (b : Int) < 32) := by
            rw [iAnd_not (by omega) (by omega)]
            have := Nat.and_le_left (n := all) (m := 2 ^ 32 - (S + 1))
            omega
          have hb8 : hB (iAnd (all : Int) (-1 - (S : Int))) (b : Int) ↔ all.testBit b = true ∧ S.testBit b = false := by
            rw [iAnd_not (by omega) (by omega), hB_nat, and_not_bit (by omega) (by omega)]
            simp
          have skip : ∀ fj : FI, Sea f0 fj B → Dead fj B all (Gd f0 g B) → (∀ i, i < cb 8 S → fj (B + 147) i = f (B + 147) i) → ¬ Nx all (Gd f0 g B) S b → ∃ (f' : FI) (v : Int), A_X5_leadsOn_25 (n + 1) σ fj g (B + 43) (S : Int) (all : Int) (cb 8 S : Int) ((b : Int) + 1) (il σ f' g, [vI v]) ∧ (v = 0 ∨ v = 1) ∧ (v = 1 ↔ Ld all (Gd f0 g B) S) ∧ (v = 1 → Pt all (Gd f0 g B) (f' (B + 147)) (cb 8 all - cb 8 S) S) ∧ (∀ i, i < cb 8 S → f' (B + 147) i = f (B + 147) i) ∧ Sea f0 f' B ∧ Dead f' B all (Gd f0 g B) := fun fj h1 h2 h3 h4 => ihk (b + 1) (by omega) fj h1 h2 h3 fun c hc => by
            by_cases z : c = b
            · rw [z]; exact h4
            · exact hnx c (by omega)
          by_cases hbit : all.testBit b = true ∧ S.testBit b = false
          · have eor := iOr_p2 (a := S) (i := b) (by omega) (by omega)
            have hlt : S ||| 2 ^ b < 256 := or_lt (n := 8) hS (by omega)
            have ecb : cb 8 (S ||| 2 ^ b) = cb 8 S + 1 := cb_or (by omega) hbit.2
            have otn : (iOr (S : Int) (p2 (b : Int))).toNat = S ||| 2 ^ b := by rw [eor]; rfl
            have orr : (0 : Int) ≤ iOr (S : Int) (p2 (b : Int)) ∧ iOr (S : Int) (p2 (b : Int)) < 256 := by rw [eor]; omega
            by_cases hdead : fi (B + 148) (S ||| 2 ^ b) = 0
            · obtain ⟨f1, v1, c1, d1, E1, a1⟩ := x_isSafe (f0 := f0) (f := up2 fi (B + 147) (cb 8 S) (b : Int)) (S := S ||| 2 ^ b) (g := g) hs hT hen hF (fun a h1 h2 h3 => by rw [up2_ne h2]; exact hfi a h1 h2 h3) hlt
              rw [← eor] at E1
              have t1 : ∀ i, f1 (B + 147) i = if i = cb 8 S then (b : Int) else fi (B + 147) i := fun i => by
                rw [a1 _ (by omega)]
                by_cases z : i = cb 8 S
                · rw [if_pos z, z, u2_s]
                · rw [if_neg z, u2_i z]
              have s1 : Sea f0 f1 B := fun a h1 h2 h3 => by rw [a1 a h1, up2_ne h2]; exact hfi a h1 h2 h3
              have dd1 : Dead f1 B all (Gd f0 g B) := fun T h1 h2 => hdi T h1 (by rw [a1 _ (by omega), up2_ne (by omega)] at h2; exact h2)
              -- marking the set dead
              have mkd : ∀ fj : FI, Sea f0 fj B → Dead fj B all (Gd f0 g B) → ¬ (Gd f0 g B (S ||| 2 ^ b) ∧ Ld all (Gd f0 g B) (S ||| 2 ^ b)) → Sea f0 (up2 fj (B + 148) (S ||| 2 ^ b) 1) B ∧ Dead (up2 fj (B + 148) (S ||| 2 ^ b) 1) B all (Gd f0 g B) := fun fj h1 h2 h3 => ⟨fun a z1 z2 z3 => by rw [up2_ne z3]; exact h1 a z1 z2 z3, fun T z1 z2 => by
                by_cases y : T = S ||| 2 ^ b
                · rw [y]; exact h3
                · rw [u2_i y] at z2; exact h2 T z1 z2⟩
              have nn0 : ¬ (Gd f0 g B (S ||| 2 ^ b) ∧ Ld all (Gd f0 g B) (S ||| 2 ^ b)) → ¬ Nx all (Gd f0 g B) S b := fun z y => z ⟨y.2.2.2.1, y.2.2.2.2⟩
              rcases c1 with rfl | rfl
              · have ng : ¬ (Gd f0 g B (S ||| 2 ^ b) ∧ Ld all (Gd f0 g B) (S ||| 2 ^ b)) := fun z => absurd (d1.mpr z.1) (by decide)
                obtain ⟨m1, m2⟩ := mkd f1 s1 dd1 ng
                obtain ⟨f', v, A, r⟩ := skip _ m1 m2 (fun i hi => by rw [up2_ne (by omega), t1, if_neg (by omega)]; exact htr i hi) (nn0 ng)
                refine ⟨f', v, bk_X5_leadsOn_25 hs ⟨fun z => absurd z (by omega), fun _ => ⟨ob, fun z => absurd (hb8.mpr hbit) z, fun _ => ⟨orr, fun z => absurd (by rw [otn]; exact hdead) z, fun _ => ⟨by omega, f1, g, _, E1, fun _ => ⟨orr, by omega, ?_⟩, fun z => absurd rfl z⟩⟩⟩⟩, r⟩
                rw [otn]
                exact A
              · have hg := d1.mp rfl
                obtain ⟨f2, v2, E2, c2, d2, p2_, t2, s2, dd2⟩ := ih (S ||| 2 ^ b) f1 hlt (fun i hi z => by
                  rw [or_bit] at z
                  by_cases y : b = i
                  · rw [← y]; exact hbit.1
                  · simp [y] at z; exact hsub i hi z) (by rw [ecb]; omega) s1 dd1
                rw [← eor, ecb] at E2
                have E2' : Ex mt (n + 1 + 29) 74 (il σ f1 g) [vR 5 (some (B + 144)), vI (iOr (S : Int) (p2 (b : Int))), vI (all : Int), vI ((cb 8 S : Int) + 1)] (il σ f2 g, [vI v2]) := by
                  rw [show n + 1 + 29 = n + 30 by omega]
                  exact E2
                rcases c2 with rfl | rfl
                · have ng : ¬ (Gd f0 g B (S ||| 2 ^ b) ∧ Ld all (Gd f0 g B) (S ||| 2 ^ b)) := fun z => absurd (d2.mpr z.2) (by decide)
                  obtain ⟨m1, m2⟩ := mkd f2 s2 dd2 ng
                  obtain ⟨f', v, A, r⟩ := skip _ m1 m2 (fun i hi => by rw [up2_ne (by omega), t2 i (by rw [ecb]; omega), t1, if_neg (by omega)]; exact htr i hi) (nn0 ng)
                  refine ⟨f', v, bk_X5_leadsOn_25 hs ⟨fun z => absurd z (by omega), fun _ => ⟨ob, fun z => absurd (hb8.mpr hbit) z, fun _ => ⟨orr, fun z => absurd (by rw [otn]; exact hdead) z, fun _ => ⟨by omega, f1, g, _, E1, fun z => absurd z (by decide), fun _ => ⟨by omega, f2, g, _, E2', fun _ => ⟨orr, by omega, ?_⟩, fun z => absurd rfl z⟩⟩⟩⟩⟩, r⟩
                  rw [otn]
                  exact A
                · have nx : Nx all (Gd f0 g B) S b := ⟨by omega, hbit.1, hbit.2, hg, d2.mp rfl⟩
                  refine ⟨f2, 1, bk_X5_leadsOn_25 hs ⟨fun z => absurd z (by omega), fun _ => ⟨ob, fun z => absurd (hb8.mpr hbit) z, fun _ => ⟨orr, fun z => absurd (by rw [otn]; exact hdead) z, fun _ => ⟨by omega, f1, g, _, E1, fun z => absurd z (by decide), fun _ => ⟨by omega, f2, g, _, E2', fun z => absurd z (by decide), fun _ => rfl⟩⟩⟩⟩⟩, Or.inr rfl, ⟨fun _ => Ld_iff.mpr (Or.inr ⟨b, nx⟩), fun _ => rfl⟩, fun _ => ?_, fun i hi => by rw [t2 i (by rw [ecb]; omega), t1, if_neg (by omega)]; exact htr i hi, s2, dd2⟩
                  have sub2 : cb 8 (S ||| 2 ^ b) ≤ cb 8 all := fb_ct_sub fun i hi z => by
                    rw [or_bit] at z
                    by_cases y : b = i
                    · rw [← y]; exact hbit.1
                    · simp [y] at z; exact hsub i hi z
                  rw [show cb 8 all - cb 8 S = cb 8 all - cb 8 (S ||| 2 ^ b) + 1 by omega]
                  exact ⟨he, b, by rw [t2 _ (by rw [ecb]; omega), t1, if_pos rfl], nx, hnx, p2_ rfl⟩
            · obtain ⟨f', v, A, r⟩ := skip fi hfi hdi htr fun y => hdi _ hlt hdead ⟨y.2.2.2.1, y.2.2.2.2⟩
              exact ⟨f', v, bk_X5_leadsOn_25 hs ⟨fun z => absurd z (by omega), fun _ => ⟨ob, fun z => absurd (hb8.mpr hbit) z, fun _ => ⟨orr, fun _ => ⟨by omega, A⟩, fun z => absurd (by rw [otn] at z; exact z) hdead⟩⟩⟩, r⟩
          · obtain ⟨f', v, A, r⟩ := skip fi hfi hdi htr fun y => hbit ⟨y.2.1, y.2.2.1⟩
            exact ⟨f', v, bk_X5_leadsOn_25 hs ⟨fun z => absurd z (by omega), fun _ => ⟨ob, fun _ => ⟨by omega, A⟩, fun z => absurd (hb8.mp z) hbit⟩⟩, r⟩
      obtain ⟨f', v, A, r⟩ := loop 8 0 rfl f hf hd (fun _ _ => rfl) fun c hc => absurd hc (Nat.not_lt_zero c)
      exact ⟨f', v, bk_X5_leadsOn_0 hs ⟨fun z => absurd (by omega) he, fun _ => ⟨fun _ => A, fun z => absurd (by omega) z⟩⟩, r⟩
