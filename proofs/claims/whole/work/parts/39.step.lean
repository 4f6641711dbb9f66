/-! one step of a packet: class and model -/
/-- a step by a deed d, with the fallen lines X -/
def stV (d : Int) (X : BitVec 64) (p : Int) : Int := if 512 ≤ d then 512 + 64 * (p / 64) + d % 64 else if 0 ≤ d ∧ X.getLsbD (8 * (p / 64) + d / 64).toNat = true then -2 else d
/-- the step of a packet by the table t of its place -/
def GT (f : FI) (g : FL) (B : Nat) (t : Nat) (p : Int) : Int := stV (f (tB B t + 5) (p % 64).toNat) (g (B + 43) 1) p
theorem deF_rg {st to : Nat → Int} {p r : Int} (hp : 0 ≤ p ∧ p < 64) (h : ¬ r = -1 → (0 ≤ st r.toNat ∧ st r.toNat ≤ 124) ∧ (0 ≤ to r.toNat ∧ to r.toNat ≤ 9)) : deF st to p r = -2 ∨ (0 ≤ deF st to p r ∧ deF st to p r < 576) := by
  unfold deF
  by_cases q : r = -1
  · rw [if_pos q]; exact Or.inl rfl
  · rw [if_neg q]
    split
    · exact Or.inl rfl
    · have := h q
      have s := setF_rg this.1 (show 0 ≤ p ∧ p < 512 by omega)
      right
      omega
theorem TC.deed {f : FI} {a n : Nat} (h : TC f a n) {p : Nat} (hp : p < 64) : f (a + 5) p = -2 ∨ (0 ≤ f (a + 5) p ∧ f (a + 5) p < 576) := by
  rw [(h.2.2 p hp).2]
  have r := frF_rg (f (a + 1)) (p : Int) n
  exact deF_rg (by omega) fun q => ⟨(h.2.1 _ (by omega)).2.1, (h.2.1 _ (by omega)).2.2⟩
theorem stV_rg {d p : Int} {X : BitVec 64} (hp : 0 ≤ p ∧ p < 512) (hd : d = -2 ∨ (0 ≤ d ∧ d < 576)) : stV d X p = -2 ∨ (0 ≤ stV d X p ∧ stV d X p < 1024) := by
  unfold stV
  split
  · omega
  · split
    · omega
    · omega
theorem bk_X3_step_0 {σ : St} {f : FI} {g : FL} {a : Nat} {x1 : Int} {x2 : Int} {r : St × List Vl} (hs : Sh3 σ a) (h : ((-2147483648 ≤ x1 ∧ x1 ≤ 2147483647) ∧ (-2147483648 ≤ (8 * x2) ∧ (8 * x2) ≤ 2147483647) ∧ (-2147483648 ≤ ((8 * x2) + (x1 / 64)) ∧ ((8 * x2) + (x1 / 64)) ≤ 2147483647) ∧ (0 ≤ ((8 * x2) + (x1 / 64)) ∧ ((8 * x2) + (x1 / 64)) < 16) ∧ (0 ≤ (x1 % 64) ∧ (x1 % 64) < 64)) ∧ (((f ((tA a ((8 * x2) + (x1 / 64))) + 5) (((x1 % 64)).toNat)) < 512 → (((f ((tA a ((8 * x2) + (x1 / 64))) + 5) (((x1 % 64)).toNat)) < 0 → (r = ((il σ f g), [vI (f ((tA a ((8 * x2) + (x1 / 64))) + 5) (((x1 % 64)).toNat))]))) ∧ (¬ (f ((tA a ((8 * x2) + (x1 / 64))) + 5) (((x1 % 64)).toNat)) < 0 → ((-2147483648 ≤ (8 * (x1 / 64)) ∧ (8 * (x1 / 64)) ≤ 2147483647) ∧ (-2147483648 ≤ (f ((tA a ((8 * x2) + (x1 / 64))) + 5) (((x1 % 64)).toNat)) ∧ (f ((tA a ((8 * x2) + (x1 / 64))) + 5) (((x1 % 64)).toNat)) ≤ 2147483647) ∧ (-2147483648 ≤ ((8 * (x1 / 64)) + ((f ((tA a ((8 * x2) + (x1 / 64))) + 5) (((x1 % 64)).toNat)) / 64)) ∧ ((8 * (x1 / 64)) + ((f ((tA a ((8 * x2) + (x1 / 64))) + 5) (((x1 % 64)).toNat)) / 64)) ≤ 2147483647) ∧ (0 ≤ ((8 * (x1 / 64)) + ((f ((tA a ((8 * x2) + (x1 / 64))) + 5) (((x1 % 64)).toNat)) / 64)) ∧ ((8 * (x1 / 64)) + ((f ((tA a ((8 * x2) + (x1 / 64))) + 5) (((x1 % 64)).toNat)) / 64)) < 64)) ∧ (((((g a 1) >>> (((8 * (x1 / 64)) + ((f ((tA a ((8 * x2) + (x1 / 64))) + 5) (((x1 % 64)).toNat)) / 64))).toNat) &&& (1#64)) = (0#64) → (r = ((il σ f g), [vI (f ((tA a ((8 * x2) + (x1 / 64))) + 5) (((x1 % 64)).toNat))]))) ∧ (¬ (((g a 1) >>> (((8 * (x1 / 64)) + ((f ((tA a ((8 * x2) + (x1 / 64))) + 5) (((x1 % 64)).toNat)) / 64))).toNat) &&& (1#64)) = (0#64) → (r = ((il σ f g), [vI (-2)]))))))) ∧ (¬ (f ((tA a ((8 * x2) + (x1 / 64))) + 5) (((x1 % 64)).toNat)) < 512 → ((-2147483648 ≤ (64 * (x1 / 64)) ∧ (64 * (x1 / 64)) ≤ 2147483647) ∧ (-2147483648 ≤ (512 + (64 * (x1 / 64))) ∧ (512 + (64 * (x1 / 64))) ≤ 2147483647) ∧ (-2147483648 ≤ ((512 + (64 * (x1 / 64))) + ((f ((tA a ((8 * x2) + (x1 / 64))) + 5) (((x1 % 64)).toNat)) % 64)) ∧ ((512 + (64 * (x1 / 64))) + ((f ((tA a ((8 * x2) + (x1 / 64))) + 5) (((x1 % 64)).toNat)) % 64)) ≤ 2147483647)) ∧ (r = ((il σ f g), [vI ((512 + (64 * (x1 / 64))) + ((f ((tA a ((8 * x2) + (x1 / 64))) + 5) (((x1 % 64)).toNat)) % 64))]))))) : Ex mt 1 39 (il σ f g) [vR 3 (some a), vI x1, vI x2] r := Ex.mk mt_39 (show Gx mt 1 cd_X3_step (il σ f g) b_X3_step_0 [some (vR 3 (some a)), some (vI x1), some (vI x2), none, none] [] r from (go_loadI rfl (go_pushI rfl (go_ishr (iShr_6 h.1.1) (go_stoI rfl rfl (go_loadA rfl (gi_getR (Sh3.r0 hs) (go_pushI rfl (go_loadI rfl (go_imul h.1.2.1 (go_loadI rfl (go_iadd h.1.2.2.1 (gi_aald (inl_ (Sh3.l0 hs) h.1.2.2.2.1) (Sh3.t hs h.1.2.2.2.1) (gi_getR (Sh7.r5 (Sh3.s hs h.1.2.2.2.1)) (go_loadI rfl (go_pushI rfl (go_iand (iAnd_m63 _) (gi_iald (inl_ (Sh7.l5 (Sh3.s hs h.1.2.2.2.1)) h.1.2.2.2.2) (go_stoI rfl rfl (go_loadI rfl (go_pushI rfl (gq_icmp_lt (fun e3 => have h1 := h.2.1 e3; (go_loadI rfl (gq_if_lt (fun e6 => have h4 := h1.1 e6; (go_loadI rfl (h4 ▸ gq_retI))) (fun e6 => have h5 := h1.2 e6; (go_loadA rfl (gi_getL (go_pushI rfl (go_loadI rfl (go_imul h5.1.1 (go_loadI rfl (go_pushI rfl (go_ishr (iShr_6 h5.1.2.1) (go_iadd h5.1.2.2.1 (go_lushr (lUshr_v h5.1.2.2.2) (go_pushL rfl (go_land (go_pushL rfl (go_lcmp rfl (go_lif_eq (fun e9 => have h7 := h5.2.1 e9; (go_loadI rfl (h7 ▸ gq_retI))) (fun e9 => have h8 := h5.2.2 e9; (go_pushI rfl (h8 ▸ gq_retI)))))))))))))))))))))) (fun e3 => have h2 := h.2.2 e3; (go_pushI rfl (go_pushI rfl (go_loadI rfl (go_imul h2.1.1 (go_iadd h2.1.2.1 (go_loadI rfl (go_pushI rfl (go_iand (iAnd_m63 _) (go_iadd h2.1.2.2 (h2.2 ▸ gq_retI)))))))))))))))))))))))))))))))))
theorem x_stepC {σ : St} {f : FI} {g : FL} {B n : Nat} {p : Int} {s : Nat} (hs : Sh3 σ (B + 43)) (hp : 0 ≤ p ∧ p < 512) (hs1 : s ≤ 1) (hT : TC f (tB B (8 * s + (p / 64).toNat)) n) : Ex mt 1 39 (il σ f g) [vR 3 (some (B + 43)), vI p, vI (s : Int)] (il σ f g, [vI (GT f g B (8 * s + (p / 64).toNat) p)]) := by
  have e1 : tA (B + 43) (8 * (s : Int) + p / 64) = tB B (8 * s + (p / 64).toNat) := by
    rw [← tA_tB]
    congr 1
    omega
  have hd := hT.deed (p := (p % 64).toNat) (by omega)
  unfold GT
  generalize hX : g (B + 43) 1 = X
  refine bk_X3_step_0 hs ?_
  rw [e1, hX]
  generalize f (tB B (8 * s + (p / 64).toNat) + 5) (p % 64).toNat = d at *
  have lb : ¬ ((X >>> (8 * (p / 64) + d / 64).toNat) &&& 1#64 = 0#64) ↔ X.getLsbD (8 * (p / 64) + d / 64).toNat = true := by
    generalize (8 * (p / 64) + d / 64).toNat = k
    have b0 : ((X >>> k) &&& 1#64).getLsbD 0 = X.getLsbD k := by
      rw [BitVec.getLsbD_and, BitVec.getLsbD_ushiftRight, Nat.add_zero]
      simp
    constructor
    · intro h
      cases e : X.getLsbD k with
      | true => rfl
      | false =>
        exfalso
        apply h
        apply BitVec.eq_of_getLsbD_eq
        intro j hj
        by_cases q : j = 0
        · subst q
          rw [b0, e, BitVec.getLsbD_zero]
        · rw [BitVec.getLsbD_and, BitVec.getLsbD_zero, BitVec.getLsbD_one]
          simp [q]
    · intro h h2
      rw [h2, BitVec.getLsbD_zero, h] at b0
      cases b0
  unfold stV
  rcases hd with rfl | hd
  · refine ⟨by omega, fun e => ⟨fun _ => ?_, fun e2 => absurd e2 (by decide)⟩, fun e => absurd e (by decide)⟩
    rw [if_neg (by decide), if_neg (fun z => absurd z.1 (by decide))]
  · refine ⟨by omega, fun e => ⟨fun e2 => absurd e2 (by omega), fun _ => ⟨⟨by omega, by omega, by omega, by omega⟩, fun e3 => ?_, fun e3 => ?_⟩⟩, fun e => ⟨by omega, ?_⟩⟩
    · rw [if_neg (by omega), if_neg (fun z => (lb.mpr z.2) e3)]
    · rw [if_neg (by omega), if_pos ⟨hd.1, lb.mp e3⟩]
    · rw [if_pos (by omega)]
