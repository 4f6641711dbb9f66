/-! kept: the class chooses -/
def A_X1_choose_42 (σ : St) (f : FI) (g : FL) (a : Nat) (x1 : Nat) (x2 : Int) (x3 : Int) (r : St × List Vl) : Prop := Gx mt 103 cd_X1_choose (il σ f g) (cd_X1_choose 42) [some (vR 1 (some a)), some (vR 18 (some x1)), some (vI x2), some (vI x3)] [] r
theorem bk_X1_choose_0 {σ : St} {f : FI} {g : FL} {a : Nat} {x1 : Nat} {x2 : Int} {r : St × List Vl} (hs : Sh1 σ a) (h : (((0 : Int) ≤ 8 ∧ (0 : Int) ≤ 0 ∧ (0 : Int) ≤ 0 ∧ 0 + 8 ≤ (ln σ (a + 1) : Int) ∧ 0 + 8 ≤ (ln σ (a + 2) : Int))) ∧ (∀ (f1 : FI), f1 = (up1 (up2 (up2 f a 3 0) a 4 0) (a + 2) (cpyF ((up2 (up2 f a 3 0) a 4 0) (a + 1)) ((up2 (up2 f a 3 0) a 4 0) (a + 2)) 0 0 8)) → (∃ (f4 : FI) (g5 : FL), Ex mt 0 315 (il σ f1 g) [vR 14 (some (a + 3)), vI 0] ((il σ f4 g5), []) ∧ ((-2147483648 ≤ ((iMin x2 12) - 1) ∧ ((iMin x2 12) - 1) ≤ 2147483647)) ∧ (A_X1_choose_42 σ f4 g5 a x1 x2 ((iMin x2 12) - 1) r)))) : Ex mt 103 9 (il σ f g) [vR 1 (some a), vR 18 (some x1), vI x2] r := Ex.mk mt_9 (show Gx mt 103 cd_X1_choose (il σ f g) b_X1_choose_0 [some (vR 1 (some a)), some (vR 18 (some x1)), some (vI x2), none] [] r from (go_loadA rfl (go_pushI rfl (gi_putI (go_loadA rfl (go_pushI rfl (gi_putI (go_loadA rfl (gi_getR (Sh1.r0 hs) (go_pushI rfl (go_loadA rfl (gi_getR (Sh1.r1 hs) (go_pushI rfl (go_pushI rfl (gi_cpyI h.1 rfl (Gx.letF (fun f1 e3 => have h2 := h.2 f1 e3; (go_loadA rfl (gi_getR (Sh1.r2 hs) (go_pushI rfl (Exists.elim h2 fun f4 w7 => Exists.elim w7 fun g5 h6 => (go_callS rfl rfl rfl h6.1 (go_loadI rfl (go_pushI rfl (go_min rfl (go_pushI rfl (go_isub h6.2.1 (go_stoI rfl rfl (go_fall (h6.2.2))))))))))))))))))))))))))))))
theorem bk_X1_choose_42 {σ : St} {f : FI} {g : FL} {a : Nat} {x1 : Nat} {x2 : Int} {x3 : Int} {r : St × List Vl} (hs : Sh1 σ a) (h : ((x3 < 0 → (∃ (f4 : FI) (g5 : FL), Ex mt 102 10 (il σ f g) [vR 1 (some a), vR 18 (some x1), vI (iMin x2 12), vI 0, vI 0, vI 0] ((il σ f4 g5), []) ∧ (r = ((il σ f4 g5), [])))) ∧ (¬ x3 < 0 → ((-2147483648 ≤ (x3 + 1) ∧ (x3 + 1) ≤ 2147483647) ∧ (0 ≤ (x3 + 1) ∧ (x3 + 1) < 13) ∧ (0 ≤ x3 ∧ x3 < (ln σ x1 : Int))) ∧ (∃ q8, gR σ x1 ((x3).toNat) = some q8 ∧ ((-2147483648 ≤ ((f (a + 3) (((x3 + 1)).toNat)) + (f q8 4)) ∧ ((f (a + 3) (((x3 + 1)).toNat)) + (f q8 4)) ≤ 2147483647) ∧ (0 ≤ x3 ∧ x3 < 13) ∧ (-2147483648 ≤ (x3 + (-1)) ∧ (x3 + (-1)) ≤ 2147483647)) ∧ (A_X1_choose_42 σ (up2 f (a + 3) ((x3).toNat) ((f (a + 3) (((x3 + 1)).toNat)) + (f q8 4))) g a x1 x2 (x3 + (-1)) r))))) : A_X1_choose_42 σ f g a x1 x2 x3 r := (show Gx mt 103 cd_X1_choose (il σ f g) b_X1_choose_42 [some (vR 1 (some a)), some (vR 18 (some x1)), some (vI x2), some (vI x3)] [] r from (go_loadI rfl (gq_if_lt (fun e3 => have h1 := h.1 e3; (go_loadA rfl (go_loadA rfl (go_loadI rfl (go_pushI rfl (go_min rfl (go_pushI rfl (go_pushI rfl (go_pushI rfl (Exists.elim h1 fun f4 w7 => Exists.elim w7 fun g5 h6 => (go_callV rfl rfl rfl h6.1 (h6.2 ▸ gq_retV)))))))))))) (fun e3 => have h2 := h.2 e3; (go_loadA rfl (gi_getR (Sh1.r2 hs) (go_loadI rfl (go_loadA rfl (gi_getR (Sh1.r2 hs) (go_loadI rfl (go_pushI rfl (go_iadd h2.1.1 (gi_iald (inl_ (Sh1.l2 hs) h2.1.2.1) (go_loadA rfl (go_loadI rfl (Exists.elim h2.2 fun q8 h9 => (gi_aald h2.1.2.2 h9.1 (gi_getI (go_iadd h9.2.1.1 (gi_iast (inl_ (Sh1.l2 hs) h9.2.1.2.1) (go_iinc rfl h9.2.1.2.2 rfl (go_goto (h9.2.2)))))))))))))))))))))))
theorem x_choose {σ : St} {f : FI} {g : FL} {a ar w : Nat} {q rn : Nat → Nat} {W : Nat → Int} {N : Nat → Nat → Int} {R : Nat → Int} (hs : Sh1 σ a) (hk : KC σ f ar w q rn W N) (hl : ∀ j, j < w → (q j ≠ a ∧ q j ≠ a + 2 ∧ q j ≠ a + 3) ∧ (rn j ≠ a ∧ rn j ≠ a + 2 ∧ rn j ≠ a + 3)) (hW : ∀ j, 0 ≤ W j ∧ W j ≤ 999) (hN : ∀ j b, 0 ≤ N j b) (hR : ∀ b, b < 8 → f (a + 1) b = R b ∧ 0 ≤ R b ∧ R b ≤ 999) : ∃ (f' : FI) (C : Nat), Ex mt 103 9 (il σ f g) [vR 1 (some a), vR 18 (some ar), vI (w : Int)] (il σ f' g, []) ∧ Cho f' a w W N R C ∧ (∀ S, S < 2 ^ w → Fit N R w S → (∀ j, j < w → S.testBit j = true → 0 < W j) → Bt W w C S) ∧ (∀ c, c ≠ a → c ≠ a + 2 → c ≠ a + 3 → f' c = f c) := by
  have w12 := hk.1
  have em : iMin (w : Int) 12 = (w : Int) := by
    unfold iMin
    first
      | (split <;> omega)
      | omega
      | simp [w12]
  obtain ⟨f1, hf1⟩ : ∃ f1, f1 = up1 (up2 (up2 f a 3 0) a 4 0) (a + 2) (cpyF (up2 (up2 f a 3 0) a 4 0 (a + 1)) (up2 (up2 f a 3 0) a 4 0 (a + 2)) 0 0 8) := ⟨_, rfl⟩
  have r1 : ∀ b, b < 8 → f1 (a + 2) b = R b := fun b hb => by
    rw [hf1, up1_at']
    unfold cpyF
    rw [if_pos ⟨by omega, by omega⟩, show 0 + (b - 0) = b by omega, u2_a (by omega), u2_a (by omega)]
    exact (hR b hb).1
  have o1 : ∀ c, c ≠ a → c ≠ a + 2 → f1 c = f c := fun c h1 h2 => by rw [hf1, up1_ne' h2, up2_ne h1, up2_ne h1]
  have c3 : f1 a 3 = 0 := by rw [hf1, up1_ne' (by omega), u2_i (by decide), u2_s]
  have c4 : f1 a 4 = 0 := by rw [hf1, up1_ne' (by omega), u2_s]
  have E2 := x_fillI (σ := σ) (f := f1) (g := g) (w := a + 3) (v := 0) hs.l2 (by omega)
  obtain ⟨f2, hf2⟩ : ∃ f2, f2 = up1 f1 (a + 3) (fun k => if k < 13 then 0 else f1 (a + 3) k) := ⟨_, rfl⟩
  rw [← hf2] at E2
  have o2 : ∀ c, c ≠ a + 3 → f2 c = f1 c := fun c h => by rw [hf2, up1_ne' h]
  have z2 : f2 (a + 3) w = 0 := by rw [hf2, up1_at', if_pos (by omega)]
  have loop : ∀ k : Nat, k ≤ w → ∀ fi : FI, (∀ c, c ≠ a + 3 → fi c = f2 c) → fi (a + 3) w = 0 → (∀ j, k ≤ j → j < w → fi (a + 3) j = fi (a + 3) (j + 1) + W j) → (∀ j, k ≤ j → j ≤ w → 0 ≤ fi (a + 3) j ∧ fi (a + 3) j ≤ 1000 * (w - j)) → ∃ (f' : FI) (C : Nat), A_X1_choose_42 σ fi g a ar (w : Int) ((k : Int) - 1) (il σ f' g, []) ∧ Cho f' a w W N R C ∧ (∀ S, S < 2 ^ w → Fit N R w S → (∀ j, j < w → S.testBit j = true → 0 < W j) → Bt W w C S) ∧ (∀ c, c ≠ a → c ≠ a + 2 → c ≠ a + 3 → f' c = f c) := by
    intro k
    induction k with
    | zero =>
      intro hkw fi h1 h2 h3 h4
      have kc : KC σ fi ar w q rn W N := hk.fr fun j hj => by
        have := hl j hj
        exact ⟨by rw [h1 _ this.1.2.2, o2 _ this.1.2.2, o1 _ this.1.1 this.1.2.1], by rw [h1 _ this.2.2.2, o2 _ this.2.2.2, o1 _ this.2.1 this.2.2.1]⟩
      have ia : fi a = f1 a := by rw [h1 _ (by omega), o2 _ (by omega)]
      obtain ⟨f', C, E, d1, _, d3, d4, _⟩ := x_chooseFrom (σ := σ) (f0 := fi) (g := g) hs kc (fun j hj => ⟨⟨(hl j hj).1.1, (hl j hj).1.2.1⟩, ⟨(hl j hj).2.1, (hl j hj).2.2.1⟩⟩) hW hN (fun b hb => (hR b hb).2.2) (fun i hi => h3 i (by omega) hi) h2 (fun i hi => by
        have := h4 i (by omega) hi
        omega) w 0 0 fi 0 (by omega) (fun _ _ _ => rfl) (by show 0 < 1; omega) (fun b hb => by
        have := hR b hb
        rw [h1 _ (by omega), o2 _ (by omega), r1 b hb]
        have : sm (fun j => N j b) 0 0 = 0 := rfl
        omega) ⟨by rw [ia, c3]; rfl, by rw [ia, c4, sm_0], Nat.two_pow_pos w, fun b hb => by
        rw [sm_0]
        exact (hR b hb).2.1⟩
      refine ⟨f', C, bk_X1_choose_42 hs ⟨fun _ => ⟨f', g, ?_, rfl⟩, fun z => absurd (by decide) z⟩, d1, fun S s1 s2 s3 => d3 S s1 s2 (fun j hj => absurd hj (Nat.not_lt_zero j)) fun j _ h => s3 j h, fun c e1 e2 e3 => by rw [d4 c e1 e2, h1 c e3, o2 c e3, o1 c e1 e2]⟩
      rw [em]
      exact E.up (by omega)
    | succ k ih =>
      intro hkw fi h1 h2 h3 h4
      have ek : ((k + 1 : Nat) : Int) - 1 = (k : Int) := by omega
      rw [ek]
      have kk := hk.2.2 k (by omega)
      have lk := hl k (by omega)
      have fq : fi (q k) 4 = W k := by rw [h1 _ lk.1.2.2, o2 _ lk.1.2.2, o1 _ lk.1.1 lk.1.2.1]; exact kk.2.1.1
      have ix : ((k : Int) + 1).toNat = k + 1 := by omega
      have b4 := h4 (k + 1) (by omega) (by omega)
      have hWk := hW k
      obtain ⟨f', C, A, r⟩ := ih (by omega) (up2 fi (a + 3) k (fi (a + 3) (k + 1) + W k)) (fun c hc => by rw [up2_ne hc]; exact h1 c hc) (by rw [u2_i (by omega)]; exact h2) (fun j j1 j2 => by
        by_cases y : j = k
        · rw [y, u2_s, u2_i (by omega)]
        · rw [u2_i y, u2_i (by omega)]
          exact h3 j (by omega) j2) (fun j j1 j2 => by
        by_cases y : j = k
        · rw [y, u2_s]
          omega
        · rw [u2_i y]
          exact h4 j (by omega) j2)
      refine ⟨f', C, bk_X1_choose_42 hs ⟨fun z => absurd z (by omega), fun _ => ⟨⟨by omega, by omega, by rw [hk.2.1]; omega⟩, q k, kk.1.1, ?_⟩⟩, r⟩
      rw [ix, fq, show (k : Int) + -1 = (k : Int) - 1 by omega]
      exact ⟨⟨by omega, by omega, by omega⟩, A⟩
  obtain ⟨f', C, A, d1, d2, d3⟩ := loop w (Nat.le_refl _) f2 (fun _ _ => rfl) z2 (fun j h1 h2 => by omega) (fun j h1 h2 => by
    obtain rfl : j = w := by omega
    omega)
  refine ⟨f', C, bk_X1_choose_0 hs ⟨⟨by omega, by omega, by omega, by rw [hs.l0]; omega, by rw [hs.l1]; omega⟩, fun fx hx => ?_⟩, d1, d2, d3⟩
  have : fx = f1 := by rw [hx, hf1]
  subst this
  rw [em]
  exact ⟨f2, g, E2, by omega, A⟩
