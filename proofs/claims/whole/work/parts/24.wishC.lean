/-! reading what a wish makes -/
/-- a row of a wish of the class: at md, of packet p; of the model: of wish w -/
def rwC (g : FL) (md : Nat) (p : Int) : Nat → BitVec 64 := fun i => g md ((8 * p).toNat + i)
def rwM (g : FL) (a : Nat) (w p : Int) : Nat → BitVec 64 := fun i => g (a + 10) ((4096 * w + 8 * p).toNat + i)
/-- a wish's own cell: its row of longs at md -/
def ShW (σ : St) (q md : Nat) : Prop := gR σ q 2 = some md ∧ ln σ md = 4096
def A_X10_howMany_4 (σ : St) (f : FI) (g : FL) (a : Nat) (x1 : Int) (x2 : Int) (x3 : Int) (r : St × List Vl) : Prop := Gx mt 1 cd_X10_howMany (il σ f g) (cd_X10_howMany 4) [some (vR 10 (some a)), some (vI x1), some (vI x2), some (vI x3)] [] r
theorem bk_X10_howMany_0 {σ : St} {f : FI} {g : FL} {a : Nat} {x1 : Int} {r : St × List Vl}  (h : (A_X10_howMany_4 σ f g a x1 0 0 r)) : Ex mt 1 132 (il σ f g) [vR 10 (some a), vI x1] r := Ex.mk mt_132 (show Gx mt 1 cd_X10_howMany (il σ f g) b_X10_howMany_0 [some (vR 10 (some a)), some (vI x1), none, none] [] r from (go_pushI rfl (go_stoI rfl rfl (go_pushI rfl (go_stoI rfl rfl (go_fall (h)))))))
theorem bk_X10_howMany_4 {σ : St} {f : FI} {g : FL} {a : Nat} {x1 : Int} {x2 : Int} {x3 : Int} {r : St × List Vl}  (h : ((8 ≤ x3 → (r = ((il σ f g), [vI x2]))) ∧ (¬ 8 ≤ x3 → (∃ q4, gR σ a 2 = some q4 ∧ ((-2147483648 ≤ (x1 * 8) ∧ (x1 * 8) ≤ 2147483647) ∧ (-2147483648 ≤ ((x1 * 8) + x3) ∧ ((x1 * 8) + x3) ≤ 2147483647) ∧ (0 ≤ ((x1 * 8) + x3) ∧ ((x1 * 8) + x3) < (ln σ q4 : Int)) ∧ (-2147483648 ≤ (x2 + (pc (g q4 ((((x1 * 8) + x3)).toNat)) : Int)) ∧ (x2 + (pc (g q4 ((((x1 * 8) + x3)).toNat)) : Int)) ≤ 2147483647) ∧ (-2147483648 ≤ (x3 + 1) ∧ (x3 + 1) ≤ 2147483647)) ∧ (A_X10_howMany_4 σ f g a x1 (x2 + (pc (g q4 ((((x1 * 8) + x3)).toNat)) : Int)) (x3 + 1) r))))) : A_X10_howMany_4 σ f g a x1 x2 x3 r := (show Gx mt 1 cd_X10_howMany (il σ f g) b_X10_howMany_4 [some (vR 10 (some a)), some (vI x1), some (vI x2), some (vI x3)] [] r from (go_loadI rfl (go_pushI rfl (gq_icmp_ge (fun e3 => have h1 := h.1 e3; (go_loadI rfl (h1 ▸ gq_retI))) (fun e3 => have h2 := h.2 e3; (go_loadI rfl (go_loadA rfl (Exists.elim h2 fun q4 h5 => (gi_getR h5.1 (go_loadI rfl (go_pushI rfl (go_imul h5.2.1.1 (go_loadI rfl (go_iadd h5.2.1.2.1 (gi_lald h5.2.1.2.2.1 (go_callS rfl rfl rfl (pu_bitCountL) (go_iadd h5.2.1.2.2.2.1 (go_stoI rfl rfl (go_iinc rfl h5.2.1.2.2.2.2 rfl (go_goto (h5.2.2)))))))))))))))))))))
theorem x_howMany {σ : St} {f : FI} {g : FL} {q md : Nat} {p : Int} (hw : ShW σ q md) (hp : 0 ≤ p ∧ p < 512) : Ex mt 1 132 (il σ f g) [vR 10 (some q), vI p] (il σ f g, [vI (many (rwC g md p) : Int)]) := by
  have loop : ∀ k i : Nat, i + k = 8 → A_X10_howMany_4 σ f g q p (fb_ct (rb (rwC g md p)) (64 * i) : Int) (i : Int) (il σ f g, [vI (many (rwC g md p) : Int)]) := by
    intro k
    induction k with
    | zero =>
      intro i hi
      obtain rfl : i = 8 := by omega
      exact bk_X10_howMany_4 ⟨fun _ => rfl, fun h => absurd (by decide) h⟩
    | succ k ih =>
      intro i hi
      have hle := fb_ct_le (rb (rwC g md p)) (64 * i)
      have h64 := pc_le (g md ((p * 8 + (i : Int))).toNat)
      have e := rb_word (rwC g md p) i
      have e2 : rwC g md p i = g md ((p * 8 + (i : Int))).toNat := by
        unfold rwC
        congr 1
        omega
      rw [e2] at e
      have hl := hw.2
      refine bk_X10_howMany_4 ⟨fun h => absurd h (by omega), fun _ => ⟨md, hw.1, by omega, ?_⟩⟩
      have := ih (i + 1) (by omega)
      rw [e, Int.natCast_add] at this
      exact this
  exact bk_X10_howMany_0 (loop 8 0 rfl)
def A_X10_kthBit_5 (σ : St) (f : FI) (g : FL) (x2 : Int) (x3 : BitVec 64) (x5 : Int) (r : St × List Vl) : Prop := ∀ (y0 : BitVec 64), Gx mt 2 cd_X10_kthBit (il σ f g) (cd_X10_kthBit 5) [some (vL y0), none, some (vI x2), some (vL x3), none, some (vI x5)] [] r
theorem bk_X10_kthBit_0 {σ : St} {f : FI} {g : FL} {x0 : BitVec 64} {x2 : Int} {r : St × List Vl}  (h : (A_X10_kthBit_5 σ f g x2 x0 0 r)) : Ex mt 2 134 (il σ f g) [vL x0, vI x2] r := Ex.mk mt_134 (show Gx mt 2 cd_X10_kthBit (il σ f g) b_X10_kthBit_0 [some (vL x0), none, some (vI x2), none, none, none] [] r from (go_loadL rfl (go_stoL rfl rfl (go_pushI rfl (go_stoI rfl rfl (go_fall (h _)))))))
theorem bk_X10_kthBit_5 {σ : St} {f : FI} {g : FL} {x2 : Int} {x3 : BitVec 64} {x5 : Int} {r : St × List Vl}  (h : ((x2 ≤ x5 → (r = ((il σ f g), [vI (lowB x3)]))) ∧ (¬ x2 ≤ x5 → ((-2147483648 ≤ (x5 + 1) ∧ (x5 + 1) ≤ 2147483647)) ∧ (A_X10_kthBit_5 σ f g x2 (x3 &&& (x3 - (1#64))) (x5 + 1) r)))) : A_X10_kthBit_5 σ f g x2 x3 x5 r := fun y0 => (show Gx mt 2 cd_X10_kthBit (il σ f g) b_X10_kthBit_5 [some (vL y0), none, some (vI x2), some (vL x3), none, some (vI x5)] [] r from (go_loadI rfl (go_loadI rfl (gq_icmp_ge (fun e3 => have h1 := h.1 e3; (go_loadL rfl (go_callS rfl rfl rfl (pu_lowestBit) (h1 ▸ gq_retI)))) (fun e3 => have h2 := h.2 e3; (go_loadL rfl (go_loadL rfl (go_pushL rfl (go_lsub (go_land (go_stoL rfl rfl (go_iinc rfl h2.1 rfl (go_goto (h2.2 _))))))))))))))
theorem x_kthBit {σ : St} {f : FI} {g : FL} {x : BitVec 64} {k : Int} (h0 : 0 ≤ k ∧ k < pc x) : ∃ t : Nat, t < 64 ∧ x.getLsbD t = true ∧ (fb_ct (fun j => x.getLsbD j) t : Int) = k ∧ Ex mt 2 134 (il σ f g) [vL x, vI k] (il σ f g, [vI (t : Int)]) := by
  have loop : ∀ (n : Nat) (y : BitVec 64) (c : Int), n = (k - c).toNat → 0 ≤ c → c ≤ k → (pc y : Int) + c = pc x → (∀ j, y.getLsbD j = true → x.getLsbD j = true) → (∀ j, x.getLsbD j = true → y.getLsbD j = true ∨ ∀ i, y.getLsbD i = true → j < i) → ∃ t : Nat, t < 64 ∧ x.getLsbD t = true ∧ (fb_ct (fun j => x.getLsbD j) t : Int) = k ∧ A_X10_kthBit_5 σ f g k y c (il σ f g, [vI (t : Int)]) := by
    intro n
    induction n with
    | zero =>
      intro y c hn h1 h2 h3 h4 h5
      obtain rfl : c = k := by omega
      have hy : ¬ y = 0#64 := by
        rintro rfl
        have : pc 0#64 = 0 := by decide
        omega
      obtain ⟨l, hl, hl1, hl2⟩ := low_ex hy
      refine ⟨l, hl, h4 l hl1, ?_, bk_X10_kthBit_5 ⟨fun _ => by rw [low_B hl hl1 hl2], fun h => absurd (Int.le_refl _) h⟩⟩
      have e1 := fb_ct_split (fun j => x.getLsbD j) l (64 - l)
      rw [show l + (64 - l) = 64 by omega, ← pc_ct] at e1
      have e2 := fb_ct_split (fun j => y.getLsbD j) l (64 - l)
      rw [show l + (64 - l) = 64 by omega, ← pc_ct, fb_ct_zero.mpr hl2] at e2
      have e3 : fb_ct (fun k => x.getLsbD (l + k)) (64 - l) = fb_ct (fun k => y.getLsbD (l + k)) (64 - l) := fb_ct_cong fun j hj => by
        show x.getLsbD (l + j) = y.getLsbD (l + j)
        cases ey : y.getLsbD (l + j) with
        | true => exact h4 _ ey
        | false =>
          cases ex : x.getLsbD (l + j) with
          | false => rfl
          | true =>
            rcases h5 _ ex with q | q
            · rw [ey] at q; cases q
            · have := q l hl1
              omega
      omega
    | succ n ih =>
      intro y c hn h1 h2 h3 h4 h5
      have hy : ¬ y = 0#64 := by
        rintro rfl
        have : pc 0#64 = 0 := by decide
        omega
      obtain ⟨l, hl, hl1, hl2⟩ := low_ex hy
      have hc := pc_clr hy
      obtain ⟨t, t1, t2, t3, t4⟩ := ih (y &&& (y - 1#64)) (c + 1) (by omega) (by omega) (by omega) (by omega)
        (fun j hj => by
          rw [low_clr hl hl1 hl2] at hj
          by_cases q : j = l
          · rw [if_pos q] at hj; cases hj
          · rw [if_neg q] at hj; exact h4 j hj)
        (fun j hj => by
          by_cases q : j = l
          · right
            intro i hi
            rw [low_clr hl hl1 hl2] at hi
            by_cases qi : i = l
            · rw [if_pos qi] at hi; cases hi
            · rw [if_neg qi] at hi
              rcases Nat.lt_or_ge i l with z | z
              · rw [hl2 i z] at hi; cases hi
              · omega
          · rcases h5 j hj with z | z
            · left
              rw [low_clr hl hl1 hl2, if_neg q]
              exact z
            · right
              intro i hi
              rw [low_clr hl hl1 hl2] at hi
              by_cases qi : i = l
              · rw [if_pos qi] at hi; cases hi
              · rw [if_neg qi] at hi; exact z i hi)
      have := pc_le x
      exact ⟨t, t1, t2, t3, bk_X10_kthBit_5 ⟨fun h => absurd h (by omega), fun _ => ⟨by omega, t4⟩⟩⟩
  obtain ⟨t, t1, t2, t3, t4⟩ := loop (k - 0).toNat x 0 rfl (by omega) (by omega) (by omega) (fun j h => h) (fun j h => Or.inl h)
  exact ⟨t, t1, t2, t3, bk_X10_kthBit_0 t4⟩
def A_X10_pick_5 (σ : St) (f : FI) (g : FL) (a : Nat) (x1 : Int) (x3 : Int) (x4 : Int) (r : St × List Vl) : Prop := ∀ (y2 : Int) (y5 : Option Vl) (y6 : Option Vl) (y7 : Option Vl), Gx mt 3 cd_X10_pick (il σ f g) (cd_X10_pick 5) [some (vR 10 (some a)), some (vI x1), some (vI y2), some (vI x3), some (vI x4), y5, y6, y7] [] r
theorem bk_X10_pick_0 {σ : St} {f : FI} {g : FL} {a : Nat} {x1 : Int} {x2 : Int} {r : St × List Vl}  (h : (A_X10_pick_5 σ f g a x1 x2 0 r)) : Ex mt 3 133 (il σ f g) [vR 10 (some a), vI x1, vI x2] r := Ex.mk mt_133 (show Gx mt 3 cd_X10_pick (il σ f g) b_X10_pick_0 [some (vR 10 (some a)), some (vI x1), some (vI x2), none, none, none, none, none] [] r from (go_loadI rfl (go_stoI rfl rfl (go_pushI rfl (go_stoI rfl rfl (go_fall (h _ _ _ _)))))))
theorem bk_X10_pick_5 {σ : St} {f : FI} {g : FL} {a : Nat} {x1 : Int} {x3 : Int} {x4 : Int} {r : St × List Vl}  (h : ((8 ≤ x4 → (r = ((il σ f g), [vI (-1)]))) ∧ (¬ 8 ≤ x4 → ((x3 < 0 → (r = ((il σ f g), [vI (-1)]))) ∧ (¬ x3 < 0 → (∃ q7, gR σ a 2 = some q7 ∧ ((-2147483648 ≤ (x1 * 8) ∧ (x1 * 8) ≤ 2147483647) ∧ (-2147483648 ≤ ((x1 * 8) + x4) ∧ ((x1 * 8) + x4) ≤ 2147483647) ∧ (0 ≤ ((x1 * 8) + x4) ∧ ((x1 * 8) + x4) < (ln σ q7 : Int))) ∧ (((pc (g q7 ((((x1 * 8) + x4)).toNat)) : Int) ≤ x3 → ((-2147483648 ≤ (x3 - (pc (g q7 ((((x1 * 8) + x4)).toNat)) : Int)) ∧ (x3 - (pc (g q7 ((((x1 * 8) + x4)).toNat)) : Int)) ≤ 2147483647) ∧ (-2147483648 ≤ (x4 + 1) ∧ (x4 + 1) ≤ 2147483647)) ∧ (A_X10_pick_5 σ f g a x1 (x3 - (pc (g q7 ((((x1 * 8) + x4)).toNat)) : Int)) (x4 + 1) r)) ∧ (¬ (pc (g q7 ((((x1 * 8) + x4)).toNat)) : Int) ≤ x3 → ((-2147483648 ≤ (x4 * 64) ∧ (x4 * 64) ≤ 2147483647)) ∧ (∃ (f12 : FI) (g13 : FL) (v15 : Int), Ex mt 2 134 (il σ f g) [vL (g q7 ((((x1 * 8) + x4)).toNat)), vI x3] ((il σ f12 g13), [vI v15]) ∧ ((-2147483648 ≤ ((x4 * 64) + v15) ∧ ((x4 * 64) + v15) ≤ 2147483647)) ∧ (r = ((il σ f12 g13), [vI ((x4 * 64) + v15)]))))))))))) : A_X10_pick_5 σ f g a x1 x3 x4 r := fun y2 y5 y6 y7 => (show Gx mt 3 cd_X10_pick (il σ f g) b_X10_pick_5 [some (vR 10 (some a)), some (vI x1), some (vI y2), some (vI x3), some (vI x4), y5, y6, y7] [] r from (go_loadI rfl (go_pushI rfl (gq_icmp_ge (fun e3 => have h1 := h.1 e3; (go_pushI rfl (h1 ▸ gq_retI))) (fun e3 => have h2 := h.2 e3; (go_loadI rfl (gq_if_lt (fun e6 => have h4 := h2.1 e6; (go_pushI rfl (h4 ▸ gq_retI))) (fun e6 => have h5 := h2.2 e6; (go_loadA rfl (Exists.elim h5 fun q7 h8 => (gi_getR h8.1 (go_loadI rfl (go_pushI rfl (go_imul h8.2.1.1 (go_loadI rfl (go_iadd h8.2.1.2.1 (gi_lald h8.2.1.2.2 (go_stoL rfl rfl (go_loadL rfl (go_callS rfl rfl rfl (pu_bitCountL) (go_stoI rfl rfl (go_loadI rfl (go_loadI rfl (gq_icmp_ge (fun e11 => have h9 := h8.2.2.1 e11; (go_loadI rfl (go_loadI rfl (go_isub h9.1.1 (go_stoI rfl rfl (go_iinc rfl h9.1.2 rfl (go_goto (h9.2 _ _ _ _)))))))) (fun e11 => have h10 := h8.2.2.2 e11; (go_loadI rfl (go_pushI rfl (go_imul h10.1 (go_loadL rfl (go_loadI rfl (Exists.elim h10.2 fun f12 w16 => Exists.elim w16 fun g13 w17 => Exists.elim w17 fun v15 h14 => (go_callS rfl rfl rfl h14.1 (go_iadd h14.2.1 (h14.2.2 ▸ gq_retI))))))))))))))))))))))))))))))))))
theorem x_pick {σ : St} {f : FI} {g : FL} {q md : Nat} {p k : Int} (hw : ShW σ q md) (hp : 0 ≤ p ∧ p < 512) (hk : -2147483648 ≤ k ∧ k ≤ 2147483647) : ∃ v : Int, Kth (rwC g md p) k v ∧ Ex mt 3 133 (il σ f g) [vR 10 (some q), vI p, vI k] (il σ f g, [vI v]) := by
  have loop : ∀ n i : Nat, i + n = 8 → ∀ c : Int, c + fb_ct (rb (rwC g md p)) (64 * i) = k → (0 ≤ k → 0 ≤ c) → ∃ v : Int, Kth (rwC g md p) k v ∧ A_X10_pick_5 σ f g q p c (i : Int) (il σ f g, [vI v]) := by
    intro n
    induction n with
    | zero =>
      intro i hi c hc h0
      obtain rfl : i = 8 := by omega
      refine ⟨-1, Or.inl ⟨rfl, fun h => ?_⟩, bk_X10_pick_5 ⟨fun _ => rfl, fun h => absurd (by decide) h⟩⟩
      have := h0 h.1
      have h2 := h.2
      have e8 : (fb_ct (rb (rwC g md p)) (64 * 8) : Int) = many (rwC g md p) := rfl
      omega
    | succ n ih =>
      intro i hi c hc h0
      have hle := fb_ct_le (rb (rwC g md p)) (64 * i)
      have h64 := pc_le (g md ((p * 8 + (i : Int))).toNat)
      have e := rb_word (rwC g md p) i
      have e2 : rwC g md p i = g md ((p * 8 + (i : Int))).toNat := by
        unfold rwC
        congr 1
        omega
      rw [e2] at e
      have hl := hw.2
      by_cases hc0 : c < 0
      · exact ⟨-1, Or.inl ⟨rfl, fun h => by have := h0 h.1; omega⟩, bk_X10_pick_5 ⟨fun h => absurd h (by omega), fun _ => ⟨fun _ => rfl, fun h => absurd hc0 h⟩⟩⟩
      by_cases hpc : (pc (g md ((p * 8 + (i : Int))).toNat) : Int) ≤ c
      · obtain ⟨v, hv, ha⟩ := ih (i + 1) (by omega) (c - pc (g md ((p * 8 + (i : Int))).toNat)) (by rw [e, Int.natCast_add]; omega) (fun _ => by omega)
        exact ⟨v, hv, bk_X10_pick_5 ⟨fun h => absurd h (by omega), fun _ => ⟨fun h => absurd h hc0, fun _ => ⟨md, hw.1, by omega, fun _ => ⟨by omega, ha⟩, fun h => absurd hpc h⟩⟩⟩⟩
      · obtain ⟨t, t1, t2, t3, t4⟩ := x_kthBit (σ := σ) (f := f) (g := g) (x := g md ((p * 8 + (i : Int))).toNat) (k := c) (by omega)
        refine ⟨(i : Int) * 64 + t, Or.inr ⟨64 * i + t, by omega, by omega, ?_, ?_⟩, bk_X10_pick_5 ⟨fun h => absurd h (by omega), fun _ => ⟨fun h => absurd h hc0, fun _ => ⟨md, hw.1, by omega, fun h => absurd h hpc, fun _ => ⟨by omega, f, g, t, t4, by omega, rfl⟩⟩⟩⟩⟩
        · unfold rb
          rw [show (64 * i + t) / 64 = i by omega, show (64 * i + t) % 64 = t by omega, e2]
          exact t2
        · rw [fb_ct_split]
          have : fb_ct (fun k => rb (rwC g md p) (64 * i + k)) t = fb_ct (fun j => (g md ((p * 8 + (i : Int))).toNat).getLsbD j) t := fb_ct_cong fun j hj => by
            unfold rb
            rw [show (64 * i + j) / 64 = i by omega, show (64 * i + j) % 64 = j by omega, e2]
          rw [this, Int.natCast_add]
          omega
  obtain ⟨v, hv, ha⟩ := loop 8 0 rfl k (by show k + ((0 : Nat) : Int) = k; omega) (fun h => h)
  exact ⟨v, hv, bk_X10_pick_0 ha⟩
