/-! one step of the model; ways -/
theorem matP_64 (m q : Int) (hq : 0 ≤ q) : matP m q ↔ matP m (q % 64) := by
  unfold matP
  rw [show q % 64 / 16 % 4 = q / 16 % 4 by omega, show q % 64 / 4 % 4 = q / 4 % 4 by omega, show q % 64 % 4 = q % 4 by omega]
theorem set1_split {s f b k : Int} (hs : 0 ≤ s ∧ s ≤ 124) (hk : 0 ≤ k ∧ k < 64) (hb : 0 ≤ b ∧ b < 8) (hf : f = 0 ∨ f = 1 ∨ f = 2) : set1 s f (64 * b + k) = 64 * b + set1 s f k ∧ 0 ≤ set1 s f k ∧ set1 s f k < 64 := by
  have t := tO_rg hs f
  have r := set1_rg hs (p := k) (by omega) hf
  unfold set1 at *
  split
  · omega
  · rename_i h
    rw [if_neg h] at r
    refine ⟨?_, by omega, by omega⟩
    rcases hf with rfl | rfl | rfl <;> simp [chg] <;> omega
theorem setF_split {s b k : Int} (hs : 0 ≤ s ∧ s ≤ 124) (hk : 0 ≤ k ∧ k < 64) (hb : 0 ≤ b ∧ b < 8) : setF s (64 * b + k) = 64 * b + setF s k ∧ 0 ≤ setF s k ∧ setF s k < 64 := by
  obtain ⟨a1, a2, a3⟩ := set1_split (f := 0) hs hk hb (by decide)
  obtain ⟨b1, b2, b3⟩ := set1_split (f := 1) hs ⟨a2, a3⟩ hb (by decide)
  obtain ⟨c1, c2, c3⟩ := set1_split (f := 2) hs ⟨b2, b3⟩ hb (by decide)
  unfold setF
  rw [a1, b1, c1]
  exact ⟨rfl, c2, c3⟩
def A_X12_rowFor_2 (σ : St) (f : FI) (g : FL) (a : Nat) (x1 : Int) (x2 : Int) (x3 : Int) (r : St × List Vl) : Prop := Gx mt 2 cd_X12_rowFor (il σ f g) (cd_X12_rowFor 2) [some (vR 12 (some a)), some (vI x1), some (vI x2), some (vI x3)] [] r
theorem bk_X12_rowFor_0 {σ : St} {f : FI} {g : FL} {a : Nat} {x1 : Int} {x2 : Int} {r : St × List Vl} (hs : Sh12 σ a) (h : (A_X12_rowFor_2 σ f g a x1 x2 0 r)) : Ex mt 2 253 (il σ f g) [vR 12 (some a), vI x1, vI x2] r := Ex.mk mt_253 (show Gx mt 2 cd_X12_rowFor (il σ f g) b_X12_rowFor_0 [some (vR 12 (some a)), some (vI x1), some (vI x2), none] [] r from (go_pushI rfl (go_stoI rfl rfl (go_fall (h)))))
theorem bk_X12_rowFor_2 {σ : St} {f : FI} {g : FL} {a : Nat} {x1 : Int} {x2 : Int} {x3 : Int} {r : St × List Vl} (hs : Sh12 σ a) (h : ((0 ≤ x1 ∧ x1 < 16)) ∧ (((f (a + 21) ((x1).toNat)) ≤ x3 → ((0 ≤ x1 ∧ x1 < 16)) ∧ (((f (a + 21) ((x1).toNat)) ≤ x3 → (r = ((il σ f g), [vI (-1)]))) ∧ (¬ (f (a + 21) ((x1).toNat)) ≤ x3 → ((-2147483648 ≤ (12 * x1) ∧ (12 * x1) ≤ 2147483647) ∧ (-2147483648 ≤ ((12 * x1) + x3) ∧ ((12 * x1) + x3) ≤ 2147483647)) ∧ (r = ((il σ f g), [vI ((12 * x1) + x3)]))))) ∧ (¬ (f (a + 21) ((x1).toNat)) ≤ x3 → ((-2147483648 ≤ (12 * x1) ∧ (12 * x1) ≤ 2147483647) ∧ (-2147483648 ≤ ((12 * x1) + x3) ∧ ((12 * x1) + x3) ≤ 2147483647) ∧ (0 ≤ ((12 * x1) + x3) ∧ ((12 * x1) + x3) < 192) ∧ (0 ≤ (f (a + 18) ((((12 * x1) + x3)).toNat)) ∧ (f (a + 18) ((((12 * x1) + x3)).toNat)) ≤ 124) ∧ (0 ≤ x2 ∧ x2 < 512)) ∧ ((((matP (f (a + 18) ((((12 * x1) + x3)).toNat)) x2)) → ((0 ≤ x1 ∧ x1 < 16)) ∧ (((f (a + 21) ((x1).toNat)) ≤ x3 → (r = ((il σ f g), [vI (-1)]))) ∧ (¬ (f (a + 21) ((x1).toNat)) ≤ x3 → ((-2147483648 ≤ (12 * x1) ∧ (12 * x1) ≤ 2147483647) ∧ (-2147483648 ≤ ((12 * x1) + x3) ∧ ((12 * x1) + x3) ≤ 2147483647)) ∧ (r = ((il σ f g), [vI ((12 * x1) + x3)]))))) ∧ (¬ ((matP (f (a + 18) ((((12 * x1) + x3)).toNat)) x2)) → ((-2147483648 ≤ (x3 + 1) ∧ (x3 + 1) ≤ 2147483647)) ∧ (A_X12_rowFor_2 σ f g a x1 x2 (x3 + 1) r)))))) : A_X12_rowFor_2 σ f g a x1 x2 x3 r := (show Gx mt 2 cd_X12_rowFor (il σ f g) b_X12_rowFor_2 [some (vR 12 (some a)), some (vI x1), some (vI x2), some (vI x3)] [] r from (go_loadI rfl (go_loadA rfl (gi_getR (Sh12.r31 hs) (go_loadI rfl (gi_iald (inl_ (Sh12.l31 hs) h.1) (gq_icmp_ge (fun e3 => have h1 := h.2.1 e3; (go_loadI rfl (go_loadA rfl (gi_getR (Sh12.r31 hs) (go_loadI rfl (gi_iald (inl_ (Sh12.l31 hs) h1.1) (gq_icmp_ge (fun e6 => have h4 := h1.2.1 e6; (go_pushI rfl (go_fall (h4 ▸ gq_retI)))) (fun e6 => have h5 := h1.2.2 e6; (go_pushI rfl (go_loadI rfl (go_imul h5.1.1 (go_loadI rfl (go_iadd h5.1.2 (go_goto (h5.2 ▸ gq_retI))))))))))))))) (fun e3 => have h2 := h.2.2 e3; (go_loadA rfl (gi_getR (Sh12.r28 hs) (go_pushI rfl (go_loadI rfl (go_imul h2.1.1 (go_loadI rfl (go_iadd h2.1.2.1 (gi_iald (inl_ (Sh12.l28 hs) h2.1.2.2.1) (go_loadI rfl (go_callS rfl rfl rfl (pu_matches h2.1.2.2.2.1 h2.1.2.2.2.2) (go_ifb_ne (fun e9 => have h7 := h2.2.1 e9; (go_loadI rfl (go_loadA rfl (gi_getR (Sh12.r31 hs) (go_loadI rfl (gi_iald (inl_ (Sh12.l31 hs) h7.1) (gq_icmp_ge (fun e12 => have h10 := h7.2.1 e12; (go_pushI rfl (go_fall (h10 ▸ gq_retI)))) (fun e12 => have h11 := h7.2.2 e12; (go_pushI rfl (go_loadI rfl (go_imul h11.1.1 (go_loadI rfl (go_iadd h11.1.2 (go_goto (h11.2 ▸ gq_retI))))))))))))))) (fun e9 => have h8 := h2.2.2 e9; (go_iinc rfl h8.1 rfl (go_goto (h8.2)))))))))))))))))))))))
theorem x_rowFor {σ : St} {f : FI} {g : FL} {M t n : Nat} {R : Nat → Int} {q : Int} (hm : Sh12 σ M) (ht : t < 16) (hn : n ≤ 12) (h1 : f (M + 21) t = (n : Int)) (h2 : ∀ k, k < n → f (M + 18) (12 * t + k) = R k ∧ 0 ≤ R k ∧ R k ≤ 124) (hq : 0 ≤ q ∧ q < 512) : Ex mt 2 253 (il σ f g) [vR 12 (some M), vI (t : Int), vI q] (il σ f g, [vI (if frF R q n = -1 then -1 else 12 * (t : Int) + frF R q n)]) := by
  have et : (t : Int).toNat = t := rfl
  have loop : ∀ k i : Nat, i + k = n → (∀ j, j < i → ¬ matP (R j) q) → A_X12_rowFor_2 σ f g M (t : Int) q (i : Int) (il σ f g, [vI (if frF R q n = -1 then -1 else 12 * (t : Int) + frF R q n)]) := by
    intro k
    induction k with
    | zero =>
      intro i hi hj
      obtain rfl : i = n := by omega
      have : frF R q i = -1 := by
        rcases frF_spec R q i with ⟨a, -⟩ | ⟨j, a, b, c, -⟩
        · exact a
        · exact absurd c (hj j b)
      refine bk_X12_rowFor_2 hm ?_
      rw [et, h1, if_pos this]
      exact ⟨by omega, fun _ => ⟨by omega, fun _ => rfl, fun e => absurd (Int.le_refl _) e⟩, fun e => absurd (Int.le_refl _) e⟩
    | succ k ih =>
      intro i hi hj
      have e12 : (12 * (t : Int) + (i : Int)).toNat = 12 * t + i := by omega
      obtain ⟨r1, r2, r3⟩ := h2 i (by omega)
      by_cases hmt : matP (R i) q
      · have : frF R q n = (i : Int) := by
          rcases frF_spec R q n with ⟨-, b⟩ | ⟨j, a, b, c, d⟩
          · exact absurd hmt (b i (by omega))
          · rcases Nat.lt_trichotomy i j with z | z | z
            · exact absurd hmt (d i z)
            · rw [a, z]
            · exact absurd c (hj j z)
        refine bk_X12_rowFor_2 hm ?_
        rw [et, h1, e12, r1, this, if_neg (by omega)]
        exact ⟨by omega, fun e => absurd e (by omega), fun _ => ⟨⟨by omega, by omega, by omega, ⟨r2, r3⟩, hq⟩, fun _ => ⟨by omega, fun e => absurd e (by omega), fun _ => ⟨by omega, rfl⟩⟩, fun e => absurd hmt e⟩⟩
      · refine bk_X12_rowFor_2 hm ?_
        rw [et, h1, e12, r1]
        refine ⟨by omega, fun e => absurd e (by omega), fun _ => ⟨⟨by omega, by omega, by omega, ⟨r2, r3⟩, hq⟩, fun e => absurd e hmt, fun _ => ⟨by omega, ih (i + 1) (by omega) fun j hj2 => ?_⟩⟩⟩
        by_cases z : j = i
        · rw [z]; exact hmt
        · exact hj j (by omega)
  exact bk_X12_rowFor_0 hm (loop n 0 (by omega) fun j hj => absurd hj (Nat.not_lt_zero j))
theorem bk_X12_step_0 {σ : St} {f : FI} {g : FL} {a : Nat} {x1 : Int} {x2 : Int} {r : St × List Vl} (hs : Sh12 σ a) (h : (∃ (f1 : FI) (g2 : FL) (v4 : Int), Ex mt 2 253 (il σ f g) [vR 12 (some a), vI x1, vI x2] ((il σ f1 g2), [vI v4]) ∧ ((v4 = (-1) → (r = ((il σ (up2 (up2 f1 a 40 v4) a 41 2) g2), [vI x2]))) ∧ (¬ v4 = (-1) → ((0 ≤ v4 ∧ v4 < 192)) ∧ ((¬ (f1 (a + 20) ((v4).toNat)) = 9 → ((0 ≤ v4 ∧ v4 < 192) ∧ (0 ≤ (f1 (a + 19) ((v4).toNat)) ∧ (f1 (a + 19) ((v4).toNat)) ≤ 124) ∧ (0 ≤ x2 ∧ x2 < 512) ∧ (-2147483648 ≤ x2 ∧ x2 ≤ 2147483647)) ∧ (((f1 (a + 20) ((v4).toNat)) = 8 → ((0 ≤ v4 ∧ v4 < 192)) ∧ ((¬ (f1 (a + 20) ((v4).toNat)) = 8 → (r = ((il σ (up2 (up2 (up2 f1 a 40 v4) a 41 2) a 41 2) g2), [vI (setF (f1 (a + 19) ((v4).toNat)) x2)]))) ∧ ((f1 (a + 20) ((v4).toNat)) = 8 → (r = ((il σ (up2 (up2 (up2 f1 a 40 v4) a 41 2) a 41 1) g2), [vI (setF (f1 (a + 19) ((v4).toNat)) x2)]))))) ∧ (¬ (f1 (a + 20) ((v4).toNat)) = 8 → ((0 ≤ v4 ∧ v4 < 192)) ∧ (((f1 (a + 20) ((v4).toNat)) = (x2 / 64) → ((0 ≤ v4 ∧ v4 < 192) ∧ (0 ≤ (setF (f1 (a + 19) ((v4).toNat)) x2) ∧ (setF (f1 (a + 19) ((v4).toNat)) x2) < 512) ∧ (0 ≤ (3 : Int) ∧ (3 : Int) < 4) ∧ (0 ≤ (f1 (a + 20) ((v4).toNat)) ∧ (f1 (a + 20) ((v4).toNat)) < 8) ∧ ((3 : Int) = 3 ∨ (f1 (a + 20) ((v4).toNat)) < 4)) ∧ (r = ((il σ (up2 (up2 (up2 f1 a 40 v4) a 41 2) a 41 0) g2), [vI (chg (setF (f1 (a + 19) ((v4).toNat)) x2) 3 (f1 (a + 20) ((v4).toNat)))]))) ∧ (¬ (f1 (a + 20) ((v4).toNat)) = (x2 / 64) → ((-2147483648 ≤ (8 * (x2 / 64)) ∧ (8 * (x2 / 64)) ≤ 2147483647) ∧ (0 ≤ v4 ∧ v4 < 192) ∧ (-2147483648 ≤ ((8 * (x2 / 64)) + (f1 (a + 20) ((v4).toNat))) ∧ ((8 * (x2 / 64)) + (f1 (a + 20) ((v4).toNat))) ≤ 2147483647) ∧ (0 ≤ ((8 * (x2 / 64)) + (f1 (a + 20) ((v4).toNat))) ∧ ((8 * (x2 / 64)) + (f1 (a + 20) ((v4).toNat))) < 64)) ∧ (((f1 (a + 22) ((((8 * (x2 / 64)) + (f1 (a + 20) ((v4).toNat)))).toNat)) = 0 → ((0 ≤ v4 ∧ v4 < 192) ∧ (0 ≤ (setF (f1 (a + 19) ((v4).toNat)) x2) ∧ (setF (f1 (a + 19) ((v4).toNat)) x2) < 512) ∧ (0 ≤ (3 : Int) ∧ (3 : Int) < 4) ∧ (0 ≤ (f1 (a + 20) ((v4).toNat)) ∧ (f1 (a + 20) ((v4).toNat)) < 8) ∧ ((3 : Int) = 3 ∨ (f1 (a + 20) ((v4).toNat)) < 4)) ∧ (r = ((il σ (up2 (up2 (up2 f1 a 40 v4) a 41 2) a 41 0) g2), [vI (chg (setF (f1 (a + 19) ((v4).toNat)) x2) 3 (f1 (a + 20) ((v4).toNat)))]))) ∧ (¬ (f1 (a + 22) ((((8 * (x2 / 64)) + (f1 (a + 20) ((v4).toNat)))).toNat)) = 0 → ((0 ≤ v4 ∧ v4 < 192)) ∧ ((¬ (f1 (a + 20) ((v4).toNat)) = 8 → (r = ((il σ (up2 (up2 (up2 f1 a 40 v4) a 41 2) a 41 2) g2), [vI (setF (f1 (a + 19) ((v4).toNat)) x2)]))) ∧ ((f1 (a + 20) ((v4).toNat)) = 8 → (r = ((il σ (up2 (up2 (up2 f1 a 40 v4) a 41 2) a 41 1) g2), [vI (setF (f1 (a + 19) ((v4).toNat)) x2)]))))))))))) ∧ ((f1 (a + 20) ((v4).toNat)) = 9 → (r = ((il σ (up2 (up2 f1 a 40 v4) a 41 2) g2), [vI x2])))))))) : Ex mt 3 254 (il σ f g) [vR 12 (some a), vI x1, vI x2] r := Ex.mk mt_254 (show Gx mt 3 cd_X12_step (il σ f g) b_X12_step_0 [some (vR 12 (some a)), some (vI x1), some (vI x2), none, none] [] r from (go_loadA rfl (go_loadA rfl (go_loadI rfl (go_loadI rfl (Exists.elim h fun f1 w26 => Exists.elim w26 fun g2 w27 => Exists.elim w27 fun v4 h3 => (go_callV rfl rfl rfl h3.1 (gi_putI (go_loadA rfl (go_pushI rfl (gi_putI (go_loadA rfl (gi_getIe (Eq.trans (u2_i (by decide)) u2_s) (go_pushI rfl (gq_icmp_eq (fun e7 => have h5 := h3.2.1 e7; (go_loadI rfl (h5 ▸ gq_retI))) (fun e7 => have h6 := h3.2.2 e7; (go_loadA rfl (gi_getR (Sh12.r30 hs) (go_loadA rfl (gi_getIe (Eq.trans (u2_i (by decide)) u2_s) (gi_ialde (inl_ (Sh12.l30 hs) h6.1) (Eq.trans (u2_a (by omega)) (u2_a (by omega))) (go_pushI rfl (gq_icmp_ne (fun e10 => have h8 := h6.2.1 e10; (go_loadA rfl (gi_getR (Sh12.r29 hs) (go_loadA rfl (gi_getIe (Eq.trans (u2_i (by decide)) u2_s) (gi_ialde (inl_ (Sh12.l29 hs) h8.1.1) (Eq.trans (u2_a (by omega)) (u2_a (by omega))) (go_loadI rfl (go_callS rfl rfl rfl (pu_set h8.1.2.1 h8.1.2.2.1) (go_stoI rfl rfl (go_loadI rfl (go_pushI rfl (go_ishr (iShr_6 h8.1.2.2.2) (go_stoI rfl rfl (go_loadA rfl (gi_getR (Sh12.r30 hs) (go_loadA rfl (gi_getIe (Eq.trans (u2_i (by decide)) u2_s) (gi_ialde (inl_ (Sh12.l30 hs) h8.1.1) (Eq.trans (u2_a (by omega)) (u2_a (by omega))) (go_pushI rfl (gq_icmp_eq (fun e13 => have h11 := h8.2.1 e13; (go_loadA rfl (go_loadA rfl (gi_getR (Sh12.r30 hs) (go_loadA rfl (gi_getIe (Eq.trans (u2_i (by decide)) u2_s) (gi_ialde (inl_ (Sh12.l30 hs) h11.1) (Eq.trans (u2_a (by omega)) (u2_a (by omega))) (go_pushI rfl (gq_icmp_ne (fun e16 => have h14 := h11.2.1 e16; (go_pushI rfl (go_fall (gi_putI (go_loadI rfl (h14 ▸ gq_retI)))))) (fun e16 => have h15 := h11.2.2 e16; (go_pushI rfl (go_goto (gi_putI (go_loadI rfl (h15 ▸ gq_retI))))))))))))))) (fun e13 => have h12 := h8.2.2 e13; (go_loadA rfl (gi_getR (Sh12.r30 hs) (go_loadA rfl (gi_getIe (Eq.trans (u2_i (by decide)) u2_s) (gi_ialde (inl_ (Sh12.l30 hs) h12.1) (Eq.trans (u2_a (by omega)) (u2_a (by omega))) (go_loadI rfl (gq_icmp_eq (fun e19 => have h17 := h12.2.1 e19; (go_loadA rfl (go_pushI rfl (gi_putI (go_loadI rfl (go_pushI rfl (go_loadA rfl (gi_getR (Sh12.r30 hs) (go_loadA rfl (gi_getIe (Eq.trans (u2_i (by decide)) (Eq.trans (u2_i (by decide)) u2_s)) (gi_ialde (inl_ (Sh12.l30 hs) h17.1.1) (Eq.trans (u2_a (by omega)) (Eq.trans (u2_a (by omega)) (u2_a (by omega)))) (go_callS rfl rfl rfl (pu_with h17.1.2.1 h17.1.2.2.1 h17.1.2.2.2.1 h17.1.2.2.2.2) (h17.2 ▸ gq_retI))))))))))))) (fun e19 => have h18 := h12.2.2 e19; (go_loadA rfl (gi_getR (Sh12.r32 hs) (go_pushI rfl (go_loadI rfl (go_imul h18.1.1 (go_loadA rfl (gi_getR (Sh12.r30 hs) (go_loadA rfl (gi_getIe (Eq.trans (u2_i (by decide)) u2_s) (gi_ialde (inl_ (Sh12.l30 hs) h18.1.2.1) (Eq.trans (u2_a (by omega)) (u2_a (by omega))) (go_iadd h18.1.2.2.1 (gi_zalde (inl_ (Sh12.l32 hs) h18.1.2.2.2) (Eq.trans (u2_a (by omega)) (u2_a (by omega))) (gq_if_eq (fun e22 => have h20 := h18.2.1 e22; (go_loadA rfl (go_pushI rfl (gi_putI (go_loadI rfl (go_pushI rfl (go_loadA rfl (gi_getR (Sh12.r30 hs) (go_loadA rfl (gi_getIe (Eq.trans (u2_i (by decide)) (Eq.trans (u2_i (by decide)) u2_s)) (gi_ialde (inl_ (Sh12.l30 hs) h20.1.1) (Eq.trans (u2_a (by omega)) (Eq.trans (u2_a (by omega)) (u2_a (by omega)))) (go_callS rfl rfl rfl (pu_with h20.1.2.1 h20.1.2.2.1 h20.1.2.2.2.1 h20.1.2.2.2.2) (h20.2 ▸ gq_retI))))))))))))) (fun e22 => have h21 := h18.2.2 e22; (go_fall (go_loadA rfl (go_loadA rfl (gi_getR (Sh12.r30 hs) (go_loadA rfl (gi_getIe (Eq.trans (u2_i (by decide)) u2_s) (gi_ialde (inl_ (Sh12.l30 hs) h21.1) (Eq.trans (u2_a (by omega)) (u2_a (by omega))) (go_pushI rfl (gq_icmp_ne (fun e25 => have h23 := h21.2.1 e25; (go_pushI rfl (go_fall (gi_putI (go_loadI rfl (h23 ▸ gq_retI)))))) (fun e25 => have h24 := h21.2.2 e25; (go_pushI rfl (go_goto (gi_putI (go_loadI rfl (h24 ▸ gq_retI)))))))))))))))))))))))))))))))))))))))))))))))))))))))))) (fun e10 => have h9 := h6.2.2 e10; (go_fall (go_loadI rfl (h9 ▸ gq_retI)))))))))))))))))))))))))))
theorem up2_up2 {α : Type} {f : Nat → Nat → α} {a k : Nat} {v w : α} : up2 (up2 f a k v) a k w = up2 f a k w := by
  funext b j
  rw [u2, u2, u2]
  split <;> rfl
/-- what the model's step leaves: by, gone, and the packet -/
def StM (f : FI) (g : FL) (B t : Nat) (q by_ gone v : Int) : Prop := (by_ = if f (tB B t + 4) (q % 64).toNat = -1 then -1 else 12 * (t : Int) + f (tB B t + 4) (q % 64).toNat) ∧ ((gone = 0 ∧ v = GT f g B t q ∧ 0 ≤ v ∧ v < 512) ∨ (gone = 1 ∧ v = GT f g B t q - 512 ∧ 512 ≤ GT f g B t q ∧ GT f g B t q < 1024) ∨ (gone = 2 ∧ GT f g B t q = -2))
theorem x_stepM {σ : St} {f : FI} {g : FL} {B t : Nat} {nn : Nat → Nat} {q : Int} (hm : Sh12 σ (B + 165)) (h : ITb f B nn) (hL : IL f g B) (ht : t < 16) (hq : 0 ≤ q ∧ q < 512) : ∃ by_ gone v : Int, StM f g B t q by_ gone v ∧ Ex mt 3 254 (il σ f g) [vR 12 (some (B + 165)), vI (t : Int), vI q] (il σ (up2 (up2 f (B + 165) 40 by_) (B + 165) 41 gone) g, [vI v]) := by
  obtain ⟨tc, tm⟩ := h t ht
  obtain ⟨⟨-, n12⟩, rg, hp⟩ := tc
  obtain ⟨p4, p5⟩ := hp (q % 64).toNat (by omega)
  have eq64 : (((q % 64).toNat : Nat) : Int) = q % 64 := by omega
  rw [eq64] at p4 p5
  have hR := x_rowFor (g := g) hm ht n12 tm.1 (fun k hk => ⟨(tm.2 k hk).1, (rg k hk).1.1, (rg k hk).1.2⟩) hq
  have efr : frF (f (tB B t + 1)) q (nn t) = frF (f (tB B t + 1)) (q % 64) (nn t) := frF_cong (fun _ _ => rfl) (fun m => matP_64 m q hq.1)
  rw [efr] at hR
  have frg := frF_rg (f (tB B t + 1)) (q % 64) (nn t)
  have hGT : GT f g B t q = stV (f (tB B t + 5) (q % 64).toNat) (g (B + 43) 1) q := rfl
  generalize hr : frF (f (tB B t + 1)) (q % 64) (nn t) = r at *
  by_cases r1 : r = -1
  · rw [if_pos r1] at hR
    refine ⟨-1, 2, q, ⟨by rw [p4, if_pos r1], Or.inr (Or.inr ⟨rfl, ?_⟩)⟩, bk_X12_step_0 hm ⟨f, g, _, hR, fun _ => rfl, fun e => absurd rfl e⟩⟩
    rw [hGT, p5]
    unfold deF
    rw [if_pos r1]
    unfold stV
    rw [if_neg (by decide), if_neg (fun z => absurd z.1 (by decide))]
  · rw [if_neg r1] at hR
    obtain ⟨k, hk⟩ := Int.eq_ofNat_of_zero_le (show 0 ≤ r by omega)
    have hkn : k < nn t := by omega
    obtain ⟨m1, m2, m3⟩ := tm.2 k hkn
    obtain ⟨-, c2, c3⟩ := rg k hkn
    have e12 : (12 * (t : Int) + r).toNat = 12 * t + k := by omega
    have erk : r.toNat = k := by omega
    have v4 : ¬ 12 * (t : Int) + r = -1 := by omega
    have hd : f (tB B t + 5) (q % 64).toNat = if f (tB B t + 3) k = 9 then -2 else 64 * f (tB B t + 3) k + setF (f (tB B t + 2) k) (q % 64) := by
      rw [p5]
      unfold deF
      rw [if_neg r1, erk]
    have sp := setF_split (s := f (tB B t + 2) k) (b := q / 64) (k := q % 64) c2 (by omega) (by omega)
    rw [show 64 * (q / 64) + q % 64 = q by omega] at sp
    have hby : 12 * (t : Int) + r = if f (tB B t + 4) (q % 64).toNat = -1 then -1 else 12 * (t : Int) + f (tB B t + 4) (q % 64).toNat := by rw [p4, if_neg r1]
    by_cases t9 : f (tB B t + 3) k = 9
    · refine ⟨12 * (t : Int) + r, 2, q, ⟨hby, Or.inr (Or.inr ⟨rfl, ?_⟩)⟩, ?_⟩
      · rw [hGT, hd, if_pos t9]
        unfold stV
        rw [if_neg (by decide), if_neg (fun z => absurd z.1 (by decide))]
      · refine bk_X12_step_0 hm ⟨f, g, _, hR, fun e => absurd e v4, fun _ => ?_⟩
        rw [e12, m2, m3]
        exact ⟨by omega, fun e => absurd t9 e, fun _ => rfl⟩
    · rw [if_neg t9] at hd
      by_cases t8 : f (tB B t + 3) k = 8
      · refine ⟨12 * (t : Int) + r, 1, setF (f (tB B t + 2) k) q, ⟨hby, Or.inr (Or.inl ⟨rfl, ?_, ?_⟩)⟩, ?_⟩
        · rw [hGT, hd]
          unfold stV
          rw [if_pos (by omega), sp.1]
          omega
        · rw [hGT, hd]
          unfold stV
          rw [if_pos (by omega)]
          omega
        · refine bk_X12_step_0 hm ⟨f, g, _, hR, fun e => absurd e v4, fun _ => ?_⟩
          rw [e12, m2, m3]
          refine ⟨by omega, fun _ => ⟨⟨by omega, by omega, by omega, by omega⟩, fun _ => ⟨by omega, fun e => absurd t8 e, fun _ => by rw [up2_up2]⟩, fun e => absurd t8 e⟩, fun e => absurd e t9⟩
      · have dlt : 64 * f (tB B t + 3) k + setF (f (tB B t + 2) k) (q % 64) < 512 := by omega
        have dv : (64 * f (tB B t + 3) k + setF (f (tB B t + 2) k) (q % 64)) / 64 = f (tB B t + 3) k := by omega
        have chv : chg (setF (f (tB B t + 2) k) q) 3 (f (tB B t + 3) k) = 64 * f (tB B t + 3) k + setF (f (tB B t + 2) k) (q % 64) := by
          rw [sp.1]
          simp [chg]
          omega
        have hln : (8 * (q / 64) + f (tB B t + 3) k).toNat < 64 := by omega
        have hl := hL.1 _ hln
        have srg := setF_rg (s := f (tB B t + 2) k) (p := q) c2 hq
        have gv : GT f g B t q = if (g (B + 43) 1).getLsbD (8 * (q / 64) + f (tB B t + 3) k).toNat = true then -2 else 64 * f (tB B t + 3) k + setF (f (tB B t + 2) k) (q % 64) := by
          rw [hGT, hd]
          unfold stV
          rw [if_neg (by omega), dv]
          by_cases z : (g (B + 43) 1).getLsbD (8 * (q / 64) + f (tB B t + 3) k).toNat = true
          · rw [if_pos ⟨by omega, z⟩, if_pos z]
          · rw [if_neg (fun w => z w.2), if_neg z]
        by_cases own : f (tB B t + 3) k = q / 64
        · have nb : ¬ (g (B + 43) 1).getLsbD (8 * (q / 64) + f (tB B t + 3) k).toNat = true := by
            have := hL.2.2 (q / 64).toNat (by omega)
            rw [show (8 * (q / 64) + f (tB B t + 3) k).toNat = 9 * (q / 64).toNat by omega, this]
            decide
          rw [if_neg nb] at gv
          refine ⟨12 * (t : Int) + r, 0, chg (setF (f (tB B t + 2) k) q) 3 (f (tB B t + 3) k), ⟨hby, Or.inl ⟨rfl, by rw [chv, gv], by omega, by omega⟩⟩, ?_⟩
          refine bk_X12_step_0 hm ⟨f, g, _, hR, fun e => absurd e v4, fun _ => ?_⟩
          rw [e12, m2, m3]
          refine ⟨by omega, fun _ => ⟨⟨by omega, by omega, by omega, by omega⟩, fun e => absurd e t8, fun _ => ⟨by omega, fun _ => ⟨⟨by omega, by omega, by decide, by omega, by omega⟩, by rw [up2_up2]⟩, fun e => absurd own e⟩⟩, fun e => absurd e t9⟩
        · by_cases z : (g (B + 43) 1).getLsbD (8 * (q / 64) + f (tB B t + 3) k).toNat = true
          · rw [if_pos z] at gv hl
            refine ⟨12 * (t : Int) + r, 2, setF (f (tB B t + 2) k) q, ⟨hby, Or.inr (Or.inr ⟨rfl, gv⟩)⟩, ?_⟩
            refine bk_X12_step_0 hm ⟨f, g, _, hR, fun e => absurd e v4, fun _ => ?_⟩
            rw [e12, m2, m3, hl]
            refine ⟨by omega, fun _ => ⟨⟨by omega, by omega, by omega, by omega⟩, fun e => absurd e t8, fun _ => ⟨by omega, fun e => absurd e own, fun _ => ⟨by omega, fun e => absurd e (by decide), fun _ => ⟨by omega, fun _ => by rw [up2_up2], fun e => absurd e t8⟩⟩⟩⟩, fun e => absurd e t9⟩
          · rw [if_neg z] at gv hl
            refine ⟨12 * (t : Int) + r, 0, chg (setF (f (tB B t + 2) k) q) 3 (f (tB B t + 3) k), ⟨hby, Or.inl ⟨rfl, by rw [chv, gv], by omega, by omega⟩⟩, ?_⟩
            refine bk_X12_step_0 hm ⟨f, g, _, hR, fun e => absurd e v4, fun _ => ?_⟩
            rw [e12, m2, m3, hl]
            refine ⟨by omega, fun _ => ⟨⟨by omega, by omega, by omega, by omega⟩, fun e => absurd e t8, fun _ => ⟨by omega, fun e => absurd e own, fun _ => ⟨by omega, fun _ => ⟨⟨by omega, by omega, by decide, by omega, by omega⟩, by rw [up2_up2]⟩, fun e => absurd rfl e⟩⟩⟩, fun e => absurd e t9⟩
