/-! sets of bits in ints; rows filled -/
theorem i32_nat {a : Nat} (h : a < 2147483648) : (Int32.ofInt (a : Int)).toBitVec.toNat = a := by
  show (BitVec.ofInt 32 (a : Int)).toNat = a
  rw [BitVec.ofInt_natCast, BitVec.toNat_ofNat]
  omega
theorem i32_int {x : Int32} {a : Nat} (h : x.toBitVec.toNat = a) (ha : a < 2147483648) : x.toInt = (a : Int) := by
  show x.toBitVec.toInt = _
  rw [BitVec.toInt_eq_toNat_cond, h, if_pos (by omega)]
theorem iOr_nat {a b : Nat} (ha : a < 2147483648) (hb : b < 2147483648) : iOr (a : Int) (b : Int) = ((a ||| b : Nat) : Int) := by
  unfold iOr
  refine i32_int ?_ (Nat.or_lt_two_pow (n := 31) ha hb)
  rw [Int32.toBitVec_or, BitVec.toNat_or, i32_nat ha, i32_nat hb]
theorem iAnd_nat {a b : Nat} (ha : a < 2147483648) (hb : b < 2147483648) : iAnd (a : Int) (b : Int) = ((a &&& b : Nat) : Int) := by
  unfold iAnd
  refine i32_int ?_ (Nat.lt_of_le_of_lt Nat.and_le_left ha)
  rw [Int32.toBitVec_and, BitVec.toNat_and, i32_nat ha, i32_nat hb]
theorem hB_nat {a i : Nat} : hB (a : Int) (i : Int) ↔ a.testBit i = true := by
  unfold hB
  rw [p2_nat, Nat.testBit_eq_decide_div_mod_eq, decide_eq_true_iff]
  have : ((a : Int) / 2 ^ i) = ((a / 2 ^ i : Nat) : Int) := by
    rw [Int.natCast_ediv, Int.natCast_pow]
    rfl
  rw [this]
  omega
theorem p2_Nat (n : Nat) : p2 (n : Int) = ((2 ^ n : Nat) : Int) := by
  rw [p2_nat, Int.natCast_pow]
  rfl
theorem p2_lt {n m : Nat} (h : n < m) : 2 ^ n < 2 ^ m := Nat.pow_lt_pow_right (by decide) h
theorem pow31 {n : Nat} (h : n ≤ 30) : 2 ^ n ≤ 1073741824 := Nat.pow_le_pow_right (by decide) h
/-- a bit set in a set of bits -/
theorem iOr_p2 {a i : Nat} (ha : a < 2147483648) (hi : i < 31) : iOr (a : Int) (p2 (i : Int)) = ((a ||| 2 ^ i : Nat) : Int) := by
  have := pow31 (n := i) (by omega)
  rw [p2_Nat, iOr_nat ha (by omega)]
theorem or_bit (a i j : Nat) : (a ||| 2 ^ i).testBit j = (a.testBit j || decide (i = j)) := by
  rw [Nat.testBit_or, Nat.testBit_two_pow]
theorem or_lt {a i n : Nat} (ha : a < 2 ^ n) (hi : i < n) : a ||| 2 ^ i < 2 ^ n := Nat.or_lt_two_pow ha (p2_lt hi)
theorem or_new {a i : Nat} (ha : a < 2 ^ i) : a ||| 2 ^ i = a + 2 ^ i := by
  have := Nat.two_pow_add_eq_or_of_lt ha 1
  rw [Nat.mul_one] at this
  rw [Nat.or_comm, ← this, Nat.add_comm]
theorem iOr_0 {a : Nat} (ha : a < 2147483648) : iOr (a : Int) 0 = (a : Int) := by
  rw [show (0 : Int) = ((0 : Nat) : Int) from rfl, iOr_nat ha (by decide), Nat.or_zero]
/-- how many bits -/
def cb (n a : Nat) : Nat := fb_ct (fun j => a.testBit j) n
theorem pcI_cb {a : Nat} : pcI (a : Int) = (cb 12 a : Int) := by
  unfold pcI cb
  rw [sdg2_ct]
  rfl
theorem cb_or {n a i : Nat} (hi : i < n) (h : a.testBit i = false) : cb n (a ||| 2 ^ i) = cb n a + 1 := by
  unfold cb
  have e : fb_ct (fun j => (a ||| 2 ^ i).testBit j) n = fb_ct (fun k => if k = i then true else (fun j => a.testBit j) k) n := fb_ct_cong fun j hj => by
    rw [or_bit]
    by_cases q : j = i
    · simp [q]
    · have : ¬ i = j := fun z => q z.symm
      simp [q, this]
  have u := fb_ct_upd (fun j => a.testBit j) true hi
  rw [e]
  simp only [h] at u
  simpa using u
theorem big_bit {a i n : Nat} (ha : a < 2 ^ n) (hi : n ≤ i) : a.testBit i = false := Nat.testBit_lt_two_pow (Nat.lt_of_lt_of_le ha (Nat.pow_le_pow_right (by decide) hi))
theorem cb_le (n a : Nat) : cb n a ≤ n := fb_ct_le _ _
theorem bit_ext {a b n : Nat} (ha : a < 2 ^ n) (hb : b < 2 ^ n) (h : ∀ i, i < n → a.testBit i = b.testBit i) : a = b := by
  apply Nat.eq_of_testBit_eq
  intro i
  rcases Nat.lt_or_ge i n with q | q
  · exact h i q
  · rw [big_bit ha q, big_bit hb q]
/-! rows filled -/
def A_J7_fill_53178_5 (σ : St) (f : FI) (g : FL) (x0 : Nat) (x1 : Int) (x2 : Int) (x3 : Int) (r : St × List Vl) : Prop := Gx mt 0 cd_J7_fill_53178 (il σ f g) (cd_J7_fill_53178 5) [some (vR 14 (some x0)), some (vI x1), some (vI x2), some (vI x3)] [] r
theorem bk_J7_fill_53178_0 {σ : St} {f : FI} {g : FL} {x0 : Nat} {x1 : Int} {r : St × List Vl}  (h : ((ln σ x0 : Int) < 2147483648) ∧ (A_J7_fill_53178_5 σ f g x0 x1 0 (ln σ x0 : Int) r)) : Ex mt 0 315 (il σ f g) [vR 14 (some x0), vI x1] r := Ex.mk mt_315 (show Gx mt 0 cd_J7_fill_53178 (il σ f g) b_J7_fill_53178_0 [some (vR 14 (some x0)), some (vI x1), none, none] [] r from (go_pushI rfl (go_stoI rfl rfl (go_loadA rfl (gi_alen h.1 rfl (go_stoI rfl rfl (go_fall (h.2))))))))
theorem bk_J7_fill_53178_5 {σ : St} {f : FI} {g : FL} {x0 : Nat} {x1 : Int} {x2 : Int} {x3 : Int} {r : St × List Vl}  (h : ((x3 ≤ x2 → (r = ((il σ f g), []))) ∧ (¬ x3 ≤ x2 → ((0 ≤ x2 ∧ x2 < (ln σ x0 : Int)) ∧ (-2147483648 ≤ (x2 + 1) ∧ (x2 + 1) ≤ 2147483647)) ∧ (A_J7_fill_53178_5 σ (up2 f x0 ((x2).toNat) x1) g x0 x1 (x2 + 1) x3 r)))) : A_J7_fill_53178_5 σ f g x0 x1 x2 x3 r := (show Gx mt 0 cd_J7_fill_53178 (il σ f g) b_J7_fill_53178_5 [some (vR 14 (some x0)), some (vI x1), some (vI x2), some (vI x3)] [] r from (go_loadI rfl (go_loadI rfl (gq_icmp_ge (fun e3 => have h1 := h.1 e3; (h1 ▸ gq_retV)) (fun e3 => have h2 := h.2 e3; (go_loadA rfl (go_loadI rfl (go_loadI rfl (gi_iast h2.1.1 (go_iinc rfl h2.1.2 rfl (go_goto (h2.2))))))))))))
def A_J7_fill_d0a16_6 (σ : St) (f : FI) (g : FL) (x0 : Nat) (x1 : BitVec 64) (x3 : Int) (x4 : Int) (r : St × List Vl) : Prop := Gx mt 0 cd_J7_fill_d0a16 (il σ f g) (cd_J7_fill_d0a16 6) [some (vR 15 (some x0)), some (vL x1), none, some (vI x3), some (vI x4)] [] r
theorem bk_J7_fill_d0a16_0 {σ : St} {f : FI} {g : FL} {x0 : Nat} {x1 : BitVec 64} {r : St × List Vl}  (h : ((ln σ x0 : Int) < 2147483648) ∧ (A_J7_fill_d0a16_6 σ f g x0 x1 0 (ln σ x0 : Int) r)) : Ex mt 0 314 (il σ f g) [vR 15 (some x0), vL x1] r := Ex.mk mt_314 (show Gx mt 0 cd_J7_fill_d0a16 (il σ f g) b_J7_fill_d0a16_0 [some (vR 15 (some x0)), some (vL x1), none, none, none] [] r from (go_pushI rfl (go_stoI rfl rfl (go_loadA rfl (gi_alen h.1 rfl (go_stoI rfl rfl (go_fall (h.2))))))))
theorem bk_J7_fill_d0a16_6 {σ : St} {f : FI} {g : FL} {x0 : Nat} {x1 : BitVec 64} {x3 : Int} {x4 : Int} {r : St × List Vl}  (h : ((x4 ≤ x3 → (r = ((il σ f g), []))) ∧ (¬ x4 ≤ x3 → ((0 ≤ x3 ∧ x3 < (ln σ x0 : Int)) ∧ (-2147483648 ≤ (x3 + 1) ∧ (x3 + 1) ≤ 2147483647)) ∧ (A_J7_fill_d0a16_6 σ f (up2 g x0 ((x3).toNat) x1) x0 x1 (x3 + 1) x4 r)))) : A_J7_fill_d0a16_6 σ f g x0 x1 x3 x4 r := (show Gx mt 0 cd_J7_fill_d0a16 (il σ f g) b_J7_fill_d0a16_6 [some (vR 15 (some x0)), some (vL x1), none, some (vI x3), some (vI x4)] [] r from (go_loadI rfl (go_loadI rfl (gq_icmp_ge (fun e3 => have h1 := h.1 e3; (h1 ▸ gq_retV)) (fun e3 => have h2 := h.2 e3; (go_loadA rfl (go_loadI rfl (go_loadL rfl (gi_last h2.1.1 (go_iinc rfl h2.1.2 rfl (go_goto (h2.2))))))))))))
theorem x_fillI {σ : St} {f : FI} {g : FL} {w n : Nat} {v : Int} (hl : ln σ w = n) (hn : n < 100000) : Ex mt 0 315 (il σ f g) [vR 14 (some w), vI v] (il σ (up1 f w (fun k => if k < n then v else f w k)) g, []) := by
  have loop : ∀ k i : Nat, i + k = n → A_J7_fill_53178_5 σ (up1 f w (fun k => if k < i then v else f w k)) g w v (i : Int) (n : Int) (il σ (up1 f w (fun k => if k < n then v else f w k)) g, []) := by
    intro k
    induction k with
    | zero =>
      intro i hi
      obtain rfl : i = n := by omega
      exact bk_J7_fill_53178_5 ⟨fun _ => rfl, fun e => absurd (Int.le_refl _) e⟩
    | succ k ih =>
      intro i hi
      refine bk_J7_fill_53178_5 ⟨fun e => absurd e (by omega), fun _ => ⟨by omega, ?_⟩⟩
      have e : up2 (up1 f w (fun k => if k < i then v else f w k)) w ((i : Int)).toNat v = up1 f w (fun k => if k < i + 1 then v else f w k) := by
        funext b j
        rw [u2, u1, u1]
        by_cases hb : b = w
        · subst hb
          rw [if_pos rfl, if_pos rfl]
          by_cases hj : j = i
          · rw [if_pos ⟨rfl, by omega⟩, if_pos (by omega)]
          · rw [if_neg (by omega)]
            by_cases q : j < i
            · rw [if_pos q, if_pos (by omega)]
            · rw [if_neg q, if_neg (by omega)]
        · rw [if_neg (fun q => hb q.1), if_neg hb, if_neg hb]
      rw [e]
      exact ih (i + 1) (by omega)
  have e0 : up1 f w (fun k => if k < 0 then v else f w k) = f := by
    funext b j
    rw [u1]
    split
    · rename_i h
      show (if j < 0 then v else f w j) = f b j
      rw [if_neg (Nat.not_lt_zero j), h]
    · rfl
  have := loop n 0 (by omega)
  rw [e0] at this
  refine bk_J7_fill_53178_0 ⟨by omega, ?_⟩
  rw [hl]
  exact this
theorem x_fillL {σ : St} {f : FI} {g : FL} {w n : Nat} {v : BitVec 64} (hl : ln σ w = n) (hn : n < 100000) : Ex mt 0 314 (il σ f g) [vR 15 (some w), vL v] (il σ f (up1 g w (fun k => if k < n then v else g w k)), []) := by
  have loop : ∀ k i : Nat, i + k = n → A_J7_fill_d0a16_6 σ f (up1 g w (fun k => if k < i then v else g w k)) w v (i : Int) (n : Int) (il σ f (up1 g w (fun k => if k < n then v else g w k)), []) := by
    intro k
    induction k with
    | zero =>
      intro i hi
      obtain rfl : i = n := by omega
      exact bk_J7_fill_d0a16_6 ⟨fun _ => rfl, fun e => absurd (Int.le_refl _) e⟩
    | succ k ih =>
      intro i hi
      refine bk_J7_fill_d0a16_6 ⟨fun e => absurd e (by omega), fun _ => ⟨by omega, ?_⟩⟩
      have e : up2 (up1 g w (fun k => if k < i then v else g w k)) w ((i : Int)).toNat v = up1 g w (fun k => if k < i + 1 then v else g w k) := by
        funext b j
        rw [u2, u1, u1]
        by_cases hb : b = w
        · subst hb
          rw [if_pos rfl, if_pos rfl]
          by_cases hj : j = i
          · rw [if_pos ⟨rfl, by omega⟩, if_pos (by omega)]
          · rw [if_neg (by omega)]
            by_cases q : j < i
            · rw [if_pos q, if_pos (by omega)]
            · rw [if_neg q, if_neg (by omega)]
        · rw [if_neg (fun q => hb q.1), if_neg hb, if_neg hb]
      rw [e]
      exact ih (i + 1) (by omega)
  have e0 : up1 g w (fun k => if k < 0 then v else g w k) = g := by
    funext b j
    rw [u1]
    split
    · rename_i h
      show (if j < 0 then v else g w j) = g b j
      rw [if_neg (Nat.not_lt_zero j), h]
    · rfl
  have := loop n 0 (by omega)
  rw [e0] at this
  refine bk_J7_fill_d0a16_0 ⟨by omega, ?_⟩
  rw [hl]
  exact this
