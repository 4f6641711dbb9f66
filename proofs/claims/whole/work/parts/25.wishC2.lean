/-! reading what a wish makes: the rest of the class, and the model -/
theorem lB_sh1 {x : BitVec 64} {i : Nat} : ((x >>> i) &&& 1#64 = 0#64) ↔ x.getLsbD i = false := by
  have e : ((x >>> i) &&& 1#64) = BitVec.zeroExtend 64 (BitVec.ofBool (x.getLsbD i)) := by
    apply BitVec.eq_of_getLsbD_eq
    intro j hj
    cases j with
    | zero => simp
    | succ j => simp
  rw [e]
  cases x.getLsbD i <;> decide
theorem lB_ssh {x : BitVec 64} {i : Nat} (h : i < 64) : (BitVec.sshiftRight x i &&& 1#64 = 1#64) ↔ x.getLsbD i = true := by
  have e : (BitVec.sshiftRight x i &&& 1#64) = BitVec.zeroExtend 64 (BitVec.ofBool (x.getLsbD i)) := by
    apply BitVec.eq_of_getLsbD_eq
    intro j hj
    cases j with
    | zero =>
      rw [BitVec.getLsbD_and, BitVec.getLsbD_sshiftRight]
      simp [h]
    | succ j => simp
  rw [e]
  cases x.getLsbD i <;> decide
theorem many_0 {R : Nat → BitVec 64} : many R = 0 ↔ ∀ i, i < 8 → R i = 0#64 := by
  unfold many
  rw [fb_ct_zero]
  constructor
  · intro h i hi
    apply BitVec.eq_of_getLsbD_eq
    intro j hj
    have := h (64 * i + j) (by omega)
    unfold rb at this
    rw [show (64 * i + j) / 64 = i by omega, show (64 * i + j) % 64 = j by omega] at this
    rw [this, BitVec.getLsbD_zero]
  · intro h k hk
    unfold rb
    rw [h (k / 64) (by omega), BitVec.getLsbD_zero]
theorem lowB_le (x : BitVec 64) : 0 ≤ lowB x ∧ lowB x ≤ 64 := ⟨Int.natCast_nonneg _, by unfold lowB; have := pc_le ((x &&& -x) - 1#64); omega⟩
theorem many_le (R : Nat → BitVec 64) : many R ≤ 512 := fb_ct_le _ _
theorem bk_X10_holds_0 {σ : St} {f : FI} {g : FL} {a : Nat} {x1 : Int} {x2 : Int} {r : St × List Vl}  (h : (∃ q1, gR σ a 2 = some q1 ∧ ((-2147483648 ≤ (x1 * 8) ∧ (x1 * 8) ≤ 2147483647) ∧ (-2147483648 ≤ x2 ∧ x2 ≤ 2147483647) ∧ (-2147483648 ≤ ((x1 * 8) + (x2 / 64)) ∧ ((x1 * 8) + (x2 / 64)) ≤ 2147483647) ∧ (0 ≤ ((x1 * 8) + (x2 / 64)) ∧ ((x1 * 8) + (x2 / 64)) < (ln σ q1 : Int)) ∧ (0 ≤ (x2 % 64) ∧ (x2 % 64) < 64)) ∧ (((((g q1 ((((x1 * 8) + (x2 / 64))).toNat)) >>> ((x2 % 64)).toNat) &&& (1#64)) = (0#64) → (r = ((il σ f g), [vI 0]))) ∧ (¬ (((g q1 ((((x1 * 8) + (x2 / 64))).toNat)) >>> ((x2 % 64)).toNat) &&& (1#64)) = (0#64) → (r = ((il σ f g), [vI 1])))))) : Ex mt 0 135 (il σ f g) [vR 10 (some a), vI x1, vI x2] r := Ex.mk mt_135 (show Gx mt 0 cd_X10_holds (il σ f g) b_X10_holds_0 [some (vR 10 (some a)), some (vI x1), some (vI x2)] [] r from (go_loadA rfl (Exists.elim h fun q1 h2 => (gi_getR h2.1 (go_loadI rfl (go_pushI rfl (go_imul h2.2.1.1 (go_loadI rfl (go_pushI rfl (go_ishr (iShr_6 h2.2.1.2.1) (go_iadd h2.2.1.2.2.1 (gi_lald h2.2.1.2.2.2.1 (go_loadI rfl (go_pushI rfl (go_iand (iAnd_m63 _) (go_lushr (lUshr_v h2.2.1.2.2.2.2) (go_pushL rfl (go_land (go_pushL rfl (go_lcmp rfl (go_lif_eq (fun e5 => have h3 := h2.2.2.1 e5; (go_pushI rfl (go_fall (h3 ▸ (gq_retZ ⟨by decide, by decide⟩))))) (fun e5 => have h4 := h2.2.2.2 e5; (go_pushI rfl (go_goto (h4 ▸ (gq_retZ ⟨by decide, by decide⟩))))))))))))))))))))))))))
def A_X2_isEmptyRow_2 (σ : St) (f : FI) (g : FL) (x0 : Nat) (x1 : Int) (x2 : Int) (r : St × List Vl) : Prop := Gx mt 0 cd_X2_isEmptyRow (il σ f g) (cd_X2_isEmptyRow 2) [some (vR 15 (some x0)), some (vI x1), some (vI x2)] [] r
theorem bk_X2_isEmptyRow_0 {σ : St} {f : FI} {g : FL} {x0 : Nat} {x1 : Int} {r : St × List Vl}  (h : (A_X2_isEmptyRow_2 σ f g x0 x1 0 r)) : Ex mt 0 30 (il σ f g) [vR 15 (some x0), vI x1] r := Ex.mk mt_30 (show Gx mt 0 cd_X2_isEmptyRow (il σ f g) b_X2_isEmptyRow_0 [some (vR 15 (some x0)), some (vI x1), none] [] r from (go_pushI rfl (go_stoI rfl rfl (go_fall (h)))))
theorem bk_X2_isEmptyRow_2 {σ : St} {f : FI} {g : FL} {x0 : Nat} {x1 : Int} {x2 : Int} {r : St × List Vl}  (h : ((8 ≤ x2 → (r = ((il σ f g), [vI 1]))) ∧ (¬ 8 ≤ x2 → ((-2147483648 ≤ (x1 + x2) ∧ (x1 + x2) ≤ 2147483647) ∧ (0 ≤ (x1 + x2) ∧ (x1 + x2) < (ln σ x0 : Int))) ∧ (((g x0 (((x1 + x2)).toNat)) = (0#64) → ((-2147483648 ≤ (x2 + 1) ∧ (x2 + 1) ≤ 2147483647)) ∧ (A_X2_isEmptyRow_2 σ f g x0 x1 (x2 + 1) r)) ∧ (¬ (g x0 (((x1 + x2)).toNat)) = (0#64) → (r = ((il σ f g), [vI 0]))))))) : A_X2_isEmptyRow_2 σ f g x0 x1 x2 r := (show Gx mt 0 cd_X2_isEmptyRow (il σ f g) b_X2_isEmptyRow_2 [some (vR 15 (some x0)), some (vI x1), some (vI x2)] [] r from (go_loadI rfl (go_pushI rfl (gq_icmp_ge (fun e3 => have h1 := h.1 e3; (go_pushI rfl (h1 ▸ (gq_retZ ⟨by decide, by decide⟩)))) (fun e3 => have h2 := h.2 e3; (go_loadA rfl (go_loadI rfl (go_loadI rfl (go_iadd h2.1.1 (gi_lald h2.1.2 (go_pushL rfl (go_lcmp rfl (go_lif_eq (fun e6 => have h4 := h2.2.1 e6; (go_iinc rfl h4.1 rfl (go_goto (h4.2)))) (fun e6 => have h5 := h2.2.2 e6; (go_pushI rfl (h5 ▸ (gq_retZ ⟨by decide, by decide⟩)))))))))))))))))
theorem x_holds {σ : St} {f : FI} {g : FL} {q md : Nat} {p v : Int} (hw : ShW σ q md) (hp : 0 ≤ p ∧ p < 512) (hv : 0 ≤ v ∧ v < 512) : Ex mt 0 135 (il σ f g) [vR 10 (some q), vI p, vI v] (il σ f g, [vI (bI (rb (rwC g md p) v.toNat = true))]) := by
  have hl := hw.2
  have e : rb (rwC g md p) v.toNat = (g md ((p * 8 + v / 64)).toNat).getLsbD (v % 64).toNat := by
    unfold rb rwC
    rw [show (8 * p).toNat + v.toNat / 64 = (p * 8 + v / 64).toNat by omega, show v.toNat % 64 = (v % 64).toNat by omega]
  refine bk_X10_holds_0 ⟨md, hw.1, by omega, fun h => ?_, fun h => ?_⟩
  · rw [bI_f]
    rw [e, lB_sh1.mp h]
    decide
  · rw [bI_t]
    rw [e]
    cases z : (g md ((p * 8 + v / 64)).toNat).getLsbD (v % 64).toNat with
    | true => rfl
    | false => exact absurd (lB_sh1.mpr z) h
theorem x_isEmptyRow {σ : St} {f : FI} {g : FL} {w : Nat} {o : Int} (hl : (8 : Int) + o ≤ (ln σ w : Int)) (h0 : 0 ≤ o) (h1 : o < 100000) : Ex mt 0 30 (il σ f g) [vR 15 (some w), vI o] (il σ f g, [vI (bI (many (fun i => g w (o.toNat + i)) = 0))]) := by
  have loop : ∀ k i : Nat, i + k = 8 → (∀ j, j < i → g w (o.toNat + j) = 0#64) → A_X2_isEmptyRow_2 σ f g w o (i : Int) (il σ f g, [vI (bI (many (fun i => g w (o.toNat + i)) = 0))]) := by
    intro k
    induction k with
    | zero =>
      intro i hi hj
      obtain rfl : i = 8 := by omega
      exact bk_X2_isEmptyRow_2 ⟨fun _ => by rw [bI_t (many_0.mpr hj)], fun h => absurd (by decide) h⟩
    | succ k ih =>
      intro i hi hj
      have e : (o + (i : Int)).toNat = o.toNat + i := by omega
      refine bk_X2_isEmptyRow_2 ⟨fun h => absurd h (by omega), fun _ => ⟨by omega, fun h => ⟨by omega, ?_⟩, fun h => ?_⟩⟩
      · refine ih (i + 1) (by omega) fun j hj2 => ?_
        by_cases q : j = i
        · subst q
          rw [← e]
          exact h
        · exact hj j (by omega)
      · rw [bI_f fun q => h (by rw [e]; exact many_0.mp q i (by omega))]
  exact bk_X2_isEmptyRow_0 (loop 8 0 rfl fun j hj => absurd hj (Nat.not_lt_zero j))
theorem bk_X10_makesNone_0 {σ : St} {f : FI} {g : FL} {a : Nat} {x1 : Int} {r : St × List Vl}  (h : (∃ q1, gR σ a 2 = some q1 ∧ ((-2147483648 ≤ (x1 * 8) ∧ (x1 * 8) ≤ 2147483647)) ∧ (∃ (f3 : FI) (g4 : FL) (v6 : Int), Ex mt 0 30 (il σ f g) [vR 15 (some q1), vI (x1 * 8)] ((il σ f3 g4), [vI v6]) ∧ ((0 ≤ v6 ∧ v6 ≤ 1)) ∧ (r = ((il σ f3 g4), [vI v6]))))) : Ex mt 1 136 (il σ f g) [vR 10 (some a), vI x1] r := Ex.mk mt_136 (show Gx mt 1 cd_X10_makesNone (il σ f g) b_X10_makesNone_0 [some (vR 10 (some a)), some (vI x1)] [] r from (go_loadA rfl (Exists.elim h fun q1 h2 => (gi_getR h2.1 (go_loadI rfl (go_pushI rfl (go_imul h2.2.1 (Exists.elim h2.2.2 fun f3 w7 => Exists.elim w7 fun g4 w8 => Exists.elim w8 fun v6 h5 => (go_callS rfl rfl rfl h5.1 (h5.2.2 ▸ (gq_retZ h5.2.1)))))))))))
theorem bk_X10_makesJust_0 {σ : St} {f : FI} {g : FL} {a : Nat} {x1 : Int} {x2 : Int} {r : St × List Vl}  (h : (∃ (f1 : FI) (g2 : FL) (v4 : Int), Ex mt 0 135 (il σ f g) [vR 10 (some a), vI x1, vI x2] ((il σ f1 g2), [vI v4]) ∧ ((v4 = 0 → (r = ((il σ f1 g2), [vI 0]))) ∧ (¬ v4 = 0 → (∃ (f8 : FI) (g9 : FL) (v11 : Int), Ex mt 1 132 (il σ f1 g2) [vR 10 (some a), vI x1] ((il σ f8 g9), [vI v11]) ∧ ((¬ v11 = 1 → (r = ((il σ f8 g9), [vI 0]))) ∧ (v11 = 1 → (r = ((il σ f8 g9), [vI 1]))))))))) : Ex mt 2 137 (il σ f g) [vR 10 (some a), vI x1, vI x2] r := Ex.mk mt_137 (show Gx mt 2 cd_X10_makesJust (il σ f g) b_X10_makesJust_0 [some (vR 10 (some a)), some (vI x1), some (vI x2)] [] r from (go_loadA rfl (go_loadI rfl (go_loadI rfl (Exists.elim h fun f1 w17 => Exists.elim w17 fun g2 w18 => Exists.elim w18 fun v4 h3 => (go_callV rfl rfl rfl h3.1 (gq_if_eq (fun e7 => have h5 := h3.2.1 e7; (go_pushI rfl (go_fall (h5 ▸ (gq_retZ ⟨by decide, by decide⟩))))) (fun e7 => have h6 := h3.2.2 e7; (go_loadA rfl (go_loadI rfl (Exists.elim h6 fun f8 w15 => Exists.elim w15 fun g9 w16 => Exists.elim w16 fun v11 h10 => (go_callV rfl rfl rfl h10.1 (go_pushI rfl (gq_icmp_ne (fun e14 => have h12 := h10.2.1 e14; (go_pushI rfl (go_fall (h12 ▸ (gq_retZ ⟨by decide, by decide⟩))))) (fun e14 => have h13 := h10.2.2 e14; (go_pushI rfl (go_goto (h13 ▸ (gq_retZ ⟨by decide, by decide⟩)))))))))))))))))))
theorem x_makesNone {σ : St} {f : FI} {g : FL} {q md : Nat} {p : Int} (hw : ShW σ q md) (hp : 0 ≤ p ∧ p < 512) : Ex mt 1 136 (il σ f g) [vR 10 (some q), vI p] (il σ f g, [vI (bI (many (rwC g md p) = 0))]) := by
  have hl := hw.2
  have h := x_isEmptyRow (σ := σ) (f := f) (g := g) (w := md) (o := p * 8) (by omega) (by omega) (by omega)
  have e : (fun i => g md ((p * 8).toNat + i)) = rwC g md p := by
    unfold rwC
    rw [Int.mul_comm]
  rw [e] at h
  exact bk_X10_makesNone_0 ⟨md, hw.1, by omega, f, g, _, h, bI_01 _, rfl⟩
theorem x_makesJust {σ : St} {f : FI} {g : FL} {q md : Nat} {p v : Int} (hw : ShW σ q md) (hp : 0 ≤ p ∧ p < 512) (hv : 0 ≤ v ∧ v < 512) : Ex mt 2 137 (il σ f g) [vR 10 (some q), vI p, vI v] (il σ f g, [vI (bI (rb (rwC g md p) v.toNat = true ∧ many (rwC g md p) = 1))]) := by
  refine bk_X10_makesJust_0 ⟨f, g, _, x_holds hw hp hv, fun h => ?_, fun h => ⟨f, g, _, x_howMany hw hp, fun h2 => ?_, fun h2 => ?_⟩⟩
  · rw [bI_f fun z => (bI_0 _).mp h z.1]
  · rw [bI_f fun z => h2 (by rw [z.2]; rfl)]
  · have := Decidable.not_not.mp fun z => h ((bI_0 _).mpr z)
    rw [bI_t ⟨this, by omega⟩]
/-! where two rows part -/
def PB (R S : Nat → BitVec 64) (v : Int) : Prop := (v = -1 ∧ ∀ i, i < 8 → R i = S i) ∨ ∃ t : Nat, v = t ∧ t < 512 ∧ rb R t ≠ rb S t ∧ ∀ j, j < t → rb R j = rb S j
theorem rb_eq {R S : Nat → BitVec 64} {i : Nat} (h : ∀ t, t < 64 → rb R (64 * i + t) = rb S (64 * i + t)) : R i = S i := by
  apply BitVec.eq_of_getLsbD_eq
  intro j hj
  have := h j hj
  unfold rb at this
  rw [show (64 * i + j) / 64 = i by omega, show (64 * i + j) % 64 = j by omega] at this
  exact this
theorem PB.one {R S : Nat → BitVec 64} {v w : Int} (h : PB R S v) (h2 : PB R S w) : v = w := by
  rcases h with ⟨rfl, h⟩ | ⟨t, rfl, ht, hb, hk⟩
  · rcases h2 with ⟨rfl, -⟩ | ⟨t, rfl, ht, hb, hk⟩
    · rfl
    · exact absurd (by unfold rb; rw [h _ (by omega)]) hb
  · rcases h2 with ⟨rfl, h⟩ | ⟨u, rfl, hu, hub, hku⟩
    · exact absurd (by unfold rb; rw [h _ (by omega)]) hb
    · rcases Nat.lt_trichotomy t u with q | q | q
      · exact absurd (hku t q) hb
      · rw [q]
      · exact absurd (hk u q) hub
theorem xor_0 {x y : BitVec 64} : x ^^^ y = 0#64 ↔ x = y := by
  constructor
  · intro h
    apply BitVec.eq_of_getLsbD_eq
    intro i hi
    have := congrArg (fun z => z.getLsbD i) h
    simp only [BitVec.getLsbD_xor, BitVec.getLsbD_zero] at this
    cases e : x.getLsbD i <;> cases e2 : y.getLsbD i <;> simp_all
  · rintro rfl
    exact BitVec.xor_self
theorem PB_of {R S : Nat → BitVec 64} {i : Nat} (hi : i < 8) (hj : ∀ j, j < i → R j = S j) (h : ¬ R i ^^^ S i = 0#64) : PB R S ((i : Int) * 64 + lowB (R i ^^^ S i)) := by
  obtain ⟨l, hl, h1, h2⟩ := low_ex h
  rw [low_B hl h1 h2]
  refine Or.inr ⟨64 * i + l, by omega, by omega, ?_, fun j hj2 => ?_⟩
  · unfold rb
    rw [show (64 * i + l) / 64 = i by omega, show (64 * i + l) % 64 = l by omega]
    rw [BitVec.getLsbD_xor] at h1
    intro q
    rw [q] at h1
    simp at h1
  · unfold rb
    by_cases q : j / 64 < i
    · rw [hj _ q]
    · rw [show j / 64 = i by omega]
      have := h2 (j % 64) (by omega)
      rw [BitVec.getLsbD_xor] at this
      cases e : (R i).getLsbD (j % 64) <;> cases e2 : (S i).getLsbD (j % 64) <;> simp_all
def A_X10_partsBy_2 (σ : St) (f : FI) (g : FL) (a : Nat) (x1 : Nat) (x2 : Int) (x3 : Int) (r : St × List Vl) : Prop := ∀ (y4 : Option Vl) (y5 : Option Vl), Gx mt 2 cd_X10_partsBy (il σ f g) (cd_X10_partsBy 2) [some (vR 10 (some a)), some (vR 10 (some x1)), some (vI x2), some (vI x3), y4, y5] [] r
theorem bk_X10_partsBy_0 {σ : St} {f : FI} {g : FL} {a : Nat} {x1 : Nat} {x2 : Int} {r : St × List Vl}  (h : (A_X10_partsBy_2 σ f g a x1 x2 0 r)) : Ex mt 2 138 (il σ f g) [vR 10 (some a), vR 10 (some x1), vI x2] r := Ex.mk mt_138 (show Gx mt 2 cd_X10_partsBy (il σ f g) b_X10_partsBy_0 [some (vR 10 (some a)), some (vR 10 (some x1)), some (vI x2), none, none, none] [] r from (go_pushI rfl (go_stoI rfl rfl (go_fall (h _ _)))))
theorem bk_X10_partsBy_2 {σ : St} {f : FI} {g : FL} {a : Nat} {x1 : Nat} {x2 : Int} {x3 : Int} {r : St × List Vl}  (h : ((8 ≤ x3 → (r = ((il σ f g), [vI (-1)]))) ∧ (¬ 8 ≤ x3 → (∃ q4, gR σ a 2 = some q4 ∧ ((-2147483648 ≤ (x2 * 8) ∧ (x2 * 8) ≤ 2147483647) ∧ (-2147483648 ≤ ((x2 * 8) + x3) ∧ ((x2 * 8) + x3) ≤ 2147483647) ∧ (0 ≤ ((x2 * 8) + x3) ∧ ((x2 * 8) + x3) < (ln σ q4 : Int))) ∧ (∃ q6, gR σ x1 2 = some q6 ∧ ((-2147483648 ≤ (x2 * 8) ∧ (x2 * 8) ≤ 2147483647) ∧ (-2147483648 ≤ ((x2 * 8) + x3) ∧ ((x2 * 8) + x3) ≤ 2147483647) ∧ (0 ≤ ((x2 * 8) + x3) ∧ ((x2 * 8) + x3) < (ln σ q6 : Int))) ∧ ((((g q4 ((((x2 * 8) + x3)).toNat)) ^^^ (g q6 ((((x2 * 8) + x3)).toNat))) = (0#64) → ((-2147483648 ≤ (x3 + 1) ∧ (x3 + 1) ≤ 2147483647)) ∧ (A_X10_partsBy_2 σ f g a x1 x2 (x3 + 1) r)) ∧ (¬ ((g q4 ((((x2 * 8) + x3)).toNat)) ^^^ (g q6 ((((x2 * 8) + x3)).toNat))) = (0#64) → ((-2147483648 ≤ (x3 * 64) ∧ (x3 * 64) ≤ 2147483647) ∧ (-2147483648 ≤ ((x3 * 64) + (lowB ((g q4 ((((x2 * 8) + x3)).toNat)) ^^^ (g q6 ((((x2 * 8) + x3)).toNat))))) ∧ ((x3 * 64) + (lowB ((g q4 ((((x2 * 8) + x3)).toNat)) ^^^ (g q6 ((((x2 * 8) + x3)).toNat))))) ≤ 2147483647)) ∧ (r = ((il σ f g), [vI ((x3 * 64) + (lowB ((g q4 ((((x2 * 8) + x3)).toNat)) ^^^ (g q6 ((((x2 * 8) + x3)).toNat)))))]))))))))) : A_X10_partsBy_2 σ f g a x1 x2 x3 r := fun y4 y5 => (show Gx mt 2 cd_X10_partsBy (il σ f g) b_X10_partsBy_2 [some (vR 10 (some a)), some (vR 10 (some x1)), some (vI x2), some (vI x3), y4, y5] [] r from (go_loadI rfl (go_pushI rfl (gq_icmp_ge (fun e3 => have h1 := h.1 e3; (go_pushI rfl (h1 ▸ gq_retI))) (fun e3 => have h2 := h.2 e3; (go_loadA rfl (Exists.elim h2 fun q4 h5 => (gi_getR h5.1 (go_loadI rfl (go_pushI rfl (go_imul h5.2.1.1 (go_loadI rfl (go_iadd h5.2.1.2.1 (gi_lald h5.2.1.2.2 (go_loadA rfl (Exists.elim h5.2.2 fun q6 h7 => (gi_getR h7.1 (go_loadI rfl (go_pushI rfl (go_imul h7.2.1.1 (go_loadI rfl (go_iadd h7.2.1.2.1 (gi_lald h7.2.1.2.2 (go_lxor (go_stoL rfl rfl (go_loadL rfl (go_pushL rfl (go_lcmp rfl (go_lif_eq (fun e10 => have h8 := h7.2.2.1 e10; (go_iinc rfl h8.1 rfl (go_goto (h8.2 _ _)))) (fun e10 => have h9 := h7.2.2.2 e10; (go_loadI rfl (go_pushI rfl (go_imul h9.1.1 (go_loadL rfl (go_callS rfl rfl rfl (pu_lowestBit) (go_iadd h9.1.2 (h9.2 ▸ gq_retI)))))))))))))))))))))))))))))))))))))
def A_X10_isInside_2 (σ : St) (f : FI) (g : FL) (a : Nat) (x1 : Nat) (x2 : Int) (x3 : Int) (r : St × List Vl) : Prop := Gx mt 0 cd_X10_isInside (il σ f g) (cd_X10_isInside 2) [some (vR 10 (some a)), some (vR 10 (some x1)), some (vI x2), some (vI x3)] [] r
theorem bk_X10_isInside_0 {σ : St} {f : FI} {g : FL} {a : Nat} {x1 : Nat} {x2 : Int} {r : St × List Vl}  (h : (A_X10_isInside_2 σ f g a x1 x2 0 r)) : Ex mt 0 139 (il σ f g) [vR 10 (some a), vR 10 (some x1), vI x2] r := Ex.mk mt_139 (show Gx mt 0 cd_X10_isInside (il σ f g) b_X10_isInside_0 [some (vR 10 (some a)), some (vR 10 (some x1)), some (vI x2), none] [] r from (go_pushI rfl (go_stoI rfl rfl (go_fall (h)))))
theorem bk_X10_isInside_2 {σ : St} {f : FI} {g : FL} {a : Nat} {x1 : Nat} {x2 : Int} {x3 : Int} {r : St × List Vl}  (h : ((8 ≤ x3 → (r = ((il σ f g), [vI 1]))) ∧ (¬ 8 ≤ x3 → (∃ q4, gR σ a 2 = some q4 ∧ ((-2147483648 ≤ (x2 * 8) ∧ (x2 * 8) ≤ 2147483647) ∧ (-2147483648 ≤ ((x2 * 8) + x3) ∧ ((x2 * 8) + x3) ≤ 2147483647) ∧ (0 ≤ ((x2 * 8) + x3) ∧ ((x2 * 8) + x3) < (ln σ q4 : Int))) ∧ (∃ q6, gR σ x1 2 = some q6 ∧ ((-2147483648 ≤ (x2 * 8) ∧ (x2 * 8) ≤ 2147483647) ∧ (-2147483648 ≤ ((x2 * 8) + x3) ∧ ((x2 * 8) + x3) ≤ 2147483647) ∧ (0 ≤ ((x2 * 8) + x3) ∧ ((x2 * 8) + x3) < (ln σ q6 : Int))) ∧ ((((g q4 ((((x2 * 8) + x3)).toNat)) &&& ((g q6 ((((x2 * 8) + x3)).toNat)) ^^^ (18446744073709551615#64))) = (0#64) → ((-2147483648 ≤ (x3 + 1) ∧ (x3 + 1) ≤ 2147483647)) ∧ (A_X10_isInside_2 σ f g a x1 x2 (x3 + 1) r)) ∧ (¬ ((g q4 ((((x2 * 8) + x3)).toNat)) &&& ((g q6 ((((x2 * 8) + x3)).toNat)) ^^^ (18446744073709551615#64))) = (0#64) → (r = ((il σ f g), [vI 0]))))))))) : A_X10_isInside_2 σ f g a x1 x2 x3 r := (show Gx mt 0 cd_X10_isInside (il σ f g) b_X10_isInside_2 [some (vR 10 (some a)), some (vR 10 (some x1)), some (vI x2), some (vI x3)] [] r from (go_loadI rfl (go_pushI rfl (gq_icmp_ge (fun e3 => have h1 := h.1 e3; (go_pushI rfl (h1 ▸ (gq_retZ ⟨by decide, by decide⟩)))) (fun e3 => have h2 := h.2 e3; (go_loadA rfl (Exists.elim h2 fun q4 h5 => (gi_getR h5.1 (go_loadI rfl (go_pushI rfl (go_imul h5.2.1.1 (go_loadI rfl (go_iadd h5.2.1.2.1 (gi_lald h5.2.1.2.2 (go_loadA rfl (Exists.elim h5.2.2 fun q6 h7 => (gi_getR h7.1 (go_loadI rfl (go_pushI rfl (go_imul h7.2.1.1 (go_loadI rfl (go_iadd h7.2.1.2.1 (gi_lald h7.2.1.2.2 (go_pushL rfl (go_lxor (go_land (go_pushL rfl (go_lcmp rfl (go_lif_eq (fun e10 => have h8 := h7.2.2.1 e10; (go_iinc rfl h8.1 rfl (go_goto (h8.2)))) (fun e10 => have h9 := h7.2.2.2 e10; (go_pushI rfl (h9 ▸ (gq_retZ ⟨by decide, by decide⟩)))))))))))))))))))))))))))))))))
theorem x_partsBy {σ : St} {f : FI} {g : FL} {q q2 md md2 : Nat} {p : Int} (hw : ShW σ q md) (hw2 : ShW σ q2 md2) (hp : 0 ≤ p ∧ p < 512) : ∃ v : Int, PB (rwC g md p) (rwC g md2 p) v ∧ Ex mt 2 138 (il σ f g) [vR 10 (some q), vR 10 (some q2), vI p] (il σ f g, [vI v]) := by
  have hl := hw.2
  have hl2 := hw2.2
  have loop : ∀ k i : Nat, i + k = 8 → (∀ j, j < i → rwC g md p j = rwC g md2 p j) → ∃ v : Int, PB (rwC g md p) (rwC g md2 p) v ∧ A_X10_partsBy_2 σ f g q q2 p (i : Int) (il σ f g, [vI v]) := by
    intro k
    induction k with
    | zero =>
      intro i hi hj
      obtain rfl : i = 8 := by omega
      exact ⟨-1, Or.inl ⟨rfl, hj⟩, bk_X10_partsBy_2 ⟨fun _ => rfl, fun h => absurd (by decide) h⟩⟩
    | succ k ih =>
      intro i hi hj
      have e1 : rwC g md p i = g md ((p * 8 + (i : Int))).toNat := by unfold rwC; congr 1; omega
      have e2 : rwC g md2 p i = g md2 ((p * 8 + (i : Int))).toNat := by unfold rwC; congr 1; omega
      by_cases hx : rwC g md p i ^^^ rwC g md2 p i = 0#64
      · obtain ⟨v, hv, ha⟩ := ih (i + 1) (by omega) fun j hj2 => by
          by_cases z : j = i
          · subst z; exact xor_0.mp hx
          · exact hj j (by omega)
        rw [e1, e2] at hx
        exact ⟨v, hv, bk_X10_partsBy_2 ⟨fun h => absurd h (by omega), fun _ => ⟨md, hw.1, by omega, md2, hw2.1, by omega, fun _ => ⟨by omega, ha⟩, fun h => absurd hx h⟩⟩⟩
      · have := PB_of (by omega) hj hx
        refine ⟨_, this, ?_⟩
        have hb := lowB_le (rwC g md p i ^^^ rwC g md2 p i)
        rw [e1, e2] at hx hb ⊢
        exact bk_X10_partsBy_2 ⟨fun h => absurd h (by omega), fun _ => ⟨md, hw.1, by omega, md2, hw2.1, by omega, fun h => absurd h hx, fun _ => ⟨by omega, rfl⟩⟩⟩
  obtain ⟨v, hv, ha⟩ := loop 8 0 rfl fun j hj => absurd hj (Nat.not_lt_zero j)
  exact ⟨v, hv, bk_X10_partsBy_0 ha⟩
theorem x_isInside {σ : St} {f : FI} {g : FL} {q q2 md md2 : Nat} {p : Int} (hw : ShW σ q md) (hw2 : ShW σ q2 md2) (hp : 0 ≤ p ∧ p < 512) : ∃ v : Int, (v = 0 ∨ v = 1) ∧ (v = 1 ↔ ∀ i, i < 8 → rwC g md p i &&& ~~~(rwC g md2 p i) = 0#64) ∧ Ex mt 0 139 (il σ f g) [vR 10 (some q), vR 10 (some q2), vI p] (il σ f g, [vI v]) := by
  have hl := hw.2
  have hl2 := hw2.2
  have loop : ∀ k i : Nat, i + k = 8 → (∀ j, j < i → rwC g md p j &&& ~~~(rwC g md2 p j) = 0#64) → ∃ v : Int, (v = 0 ∨ v = 1) ∧ (v = 1 ↔ ∀ i, i < 8 → rwC g md p i &&& ~~~(rwC g md2 p i) = 0#64) ∧ A_X10_isInside_2 σ f g q q2 p (i : Int) (il σ f g, [vI v]) := by
    intro k
    induction k with
    | zero =>
      intro i hi hj
      obtain rfl : i = 8 := by omega
      exact ⟨1, Or.inr rfl, ⟨fun _ => hj, fun _ => rfl⟩, bk_X10_isInside_2 ⟨fun _ => rfl, fun h => absurd (by decide) h⟩⟩
    | succ k ih =>
      intro i hi hj
      have e1 : rwC g md p i = g md ((p * 8 + (i : Int))).toNat := by unfold rwC; congr 1; omega
      have e2 : rwC g md2 p i = g md2 ((p * 8 + (i : Int))).toNat := by unfold rwC; congr 1; omega
      have e3 : ∀ y : BitVec 64, y ^^^ 18446744073709551615#64 = ~~~y := fun y => by
        rw [show (18446744073709551615#64) = BitVec.allOnes 64 from by decide, BitVec.xor_allOnes]
      by_cases hx : rwC g md p i &&& ~~~(rwC g md2 p i) = 0#64
      · obtain ⟨v, h0, hv, ha⟩ := ih (i + 1) (by omega) fun j hj2 => by
          by_cases z : j = i
          · subst z; exact hx
          · exact hj j (by omega)
        rw [e1, e2] at hx
        refine ⟨v, h0, hv, bk_X10_isInside_2 ⟨fun h => absurd h (by omega), fun _ => ⟨md, hw.1, by omega, md2, hw2.1, by omega, fun _ => ⟨by omega, ha⟩, fun h => absurd ?_ h⟩⟩⟩
        rw [e3]
        exact hx
      · refine ⟨0, Or.inl rfl, ⟨fun h => absurd h (by decide), fun h => absurd (h i (by omega)) hx⟩, ?_⟩
        rw [e1, e2] at hx
        refine bk_X10_isInside_2 ⟨fun h => absurd h (by omega), fun _ => ⟨md, hw.1, by omega, md2, hw2.1, by omega, fun h => absurd ?_ hx, fun _ => rfl⟩⟩
        rw [e3] at h
        exact h
  obtain ⟨v, h0, hv, ha⟩ := loop 8 0 rfl fun j hj => absurd hj (Nat.not_lt_zero j)
  exact ⟨v, h0, hv, bk_X10_isInside_0 ha⟩
