/-! kept: the class chooses -/
def A_X1_choose_12 (σ : St) (f : FI) (g : FL) (a : Nat) (x1 : Nat) (x2 : Int) (x3 : Int) (r : St × List Vl) : Prop := ∀ (y4 : Option Vl) (y5 : Option Vl), Gx mt 103 cd_X1_choose (il σ f g) (cd_X1_choose 12) [some (vR 1 (some a)), some (vR 18 (some x1)), some (vI x2), some (vI x3), y4, y5] [] r
theorem bk_X1_choose_0 {σ : St} {f : FI} {g : FL} {a : Nat} {x1 : Nat} {x2 : Int} {r : St × List Vl} (hs : Sh1 σ a) (h : (A_X1_choose_12 σ (up2 (up2 f a 1 0) a 2 0) g a x1 x2 1 r)) : Ex mt 103 9 (il σ f g) [vR 1 (some a), vR 18 (some x1), vI x2] r := Ex.mk mt_9 (show Gx mt 103 cd_X1_choose (il σ f g) b_X1_choose_0 [some (vR 1 (some a)), some (vR 18 (some x1)), some (vI x2), none, none, none] [] r from (go_loadA rfl (go_pushI rfl (gi_putI (go_loadA rfl (go_pushI rfl (gi_putI (go_pushI rfl (go_stoI rfl rfl (go_fall (h _ _)))))))))))
theorem bk_X1_choose_12 {σ : St} {f : FI} {g : FL} {a : Nat} {x1 : Nat} {x2 : Int} {x3 : Int} {r : St × List Vl} (hs : Sh1 σ a) (h : ((0 ≤ (iMin x2 12) ∧ (iMin x2 12) < 31)) ∧ (((p2 (iMin x2 12)) ≤ x3 → (r = ((il σ f g), []))) ∧ (¬ (p2 (iMin x2 12)) ≤ x3 → (∃ (f4 : FI) (g5 : FL) (v7 : Int), Ex mt 1 10 (il σ f g) [vR 18 (some x1), vI x3] ((il σ f4 g5), [vI v7]) ∧ ((0 ≤ x3 ∧ x3 < 4096) ∧ (0 ≤ (f4 a 1) ∧ (f4 a 1) < 4096)) ∧ (((pcI (f4 a 1)) ≤ (pcI x3) → (((f4 a 2) < v7 → (∃ (f14 : FI) (g15 : FL) (v17 : Int), Ex mt 1 11 (il σ f4 g5) [vR 1 (some a), vR 18 (some x1), vI x3] ((il σ f14 g15), [vI v17]) ∧ ((v17 = 0 → ((-2147483648 ≤ (x3 + 1) ∧ (x3 + 1) ≤ 2147483647)) ∧ (A_X1_choose_12 σ f14 g15 a x1 x2 (x3 + 1) r)) ∧ (¬ v17 = 0 → ((-2147483648 ≤ (x3 + 1) ∧ (x3 + 1) ≤ 2147483647)) ∧ (A_X1_choose_12 σ (up2 (up2 f14 a 1 x3) a 2 v7) g15 a x1 x2 (x3 + 1) r))))) ∧ (¬ (f4 a 2) < v7 → ((¬ v7 = (f4 a 2) → ((-2147483648 ≤ (x3 + 1) ∧ (x3 + 1) ≤ 2147483647)) ∧ (A_X1_choose_12 σ f4 g5 a x1 x2 (x3 + 1) r)) ∧ (v7 = (f4 a 2) → ((-2147483648 ≤ (x3 + 1) ∧ (x3 + 1) ≤ 2147483647)) ∧ (A_X1_choose_12 σ f4 g5 a x1 x2 (x3 + 1) r)))))) ∧ (¬ (pcI (f4 a 1)) ≤ (pcI x3) → (((f4 a 2) < v7 → (∃ (f29 : FI) (g30 : FL) (v32 : Int), Ex mt 1 11 (il σ f4 g5) [vR 1 (some a), vR 18 (some x1), vI x3] ((il σ f29 g30), [vI v32]) ∧ ((v32 = 0 → ((-2147483648 ≤ (x3 + 1) ∧ (x3 + 1) ≤ 2147483647)) ∧ (A_X1_choose_12 σ f29 g30 a x1 x2 (x3 + 1) r)) ∧ (¬ v32 = 0 → ((-2147483648 ≤ (x3 + 1) ∧ (x3 + 1) ≤ 2147483647)) ∧ (A_X1_choose_12 σ (up2 (up2 f29 a 1 x3) a 2 v7) g30 a x1 x2 (x3 + 1) r))))) ∧ (¬ (f4 a 2) < v7 → ((¬ v7 = (f4 a 2) → ((-2147483648 ≤ (x3 + 1) ∧ (x3 + 1) ≤ 2147483647)) ∧ (A_X1_choose_12 σ f4 g5 a x1 x2 (x3 + 1) r)) ∧ (v7 = (f4 a 2) → (∃ (f41 : FI) (g42 : FL) (v44 : Int), Ex mt 1 11 (il σ f4 g5) [vR 1 (some a), vR 18 (some x1), vI x3] ((il σ f41 g42), [vI v44]) ∧ ((v44 = 0 → ((-2147483648 ≤ (x3 + 1) ∧ (x3 + 1) ≤ 2147483647)) ∧ (A_X1_choose_12 σ f41 g42 a x1 x2 (x3 + 1) r)) ∧ (¬ v44 = 0 → ((-2147483648 ≤ (x3 + 1) ∧ (x3 + 1) ≤ 2147483647)) ∧ (A_X1_choose_12 σ (up2 (up2 f41 a 1 x3) a 2 v7) g42 a x1 x2 (x3 + 1) r)))))))))))))) : A_X1_choose_12 σ f g a x1 x2 x3 r := fun y4 y5 => (show Gx mt 103 cd_X1_choose (il σ f g) b_X1_choose_12 [some (vR 1 (some a)), some (vR 18 (some x1)), some (vI x2), some (vI x3), y4, y5] [] r from (go_loadI rfl (go_pushI rfl (go_loadI rfl (go_pushI rfl (go_min rfl (go_ishl (iShl_1 h.1) (gq_icmp_ge (fun e3 => have h1 := h.2.1 e3; (h1 ▸ gq_retV)) (fun e3 => have h2 := h.2.2 e3; (go_loadA rfl (go_loadI rfl (Exists.elim h2 fun f4 w50 => Exists.elim w50 fun g5 w51 => Exists.elim w51 fun v7 h6 => (go_callS rfl rfl rfl h6.1 (go_stoI rfl rfl (go_loadI rfl (go_callS rfl rfl rfl (pu_bitCountI h6.2.1.1) (go_loadA rfl (gi_getI (go_callS rfl rfl rfl (pu_bitCountI h6.2.1.2) (gq_icmp_ge (fun e10 => have h8 := h6.2.2.1 e10; (go_pushI rfl (go_fall (go_stoI rfl rfl (go_loadI rfl (go_loadA rfl (gi_getI (gq_icmp_gt (fun e13 => have h11 := h8.1 e13; (go_loadA rfl (go_loadA rfl (go_loadI rfl (Exists.elim h11 fun f14 w21 => Exists.elim w21 fun g15 w22 => Exists.elim w22 fun v17 h16 => (go_callV rfl rfl rfl h16.1 (gq_if_eq (fun e20 => have h18 := h16.2.1 e20; (go_iinc rfl h18.1 rfl (go_goto (h18.2 _ _)))) (fun e20 => have h19 := h16.2.2 e20; (go_loadA rfl (go_loadI rfl (gi_putI (go_loadA rfl (go_loadI rfl (gi_putI (go_fall (go_iinc rfl h19.1 rfl (go_goto (h19.2 _ _)))))))))))))))))) (fun e13 => have h12 := h8.2 e13; (go_loadI rfl (go_loadA rfl (gi_getI (gq_icmp_ne (fun e25 => have h23 := h12.1 e25; (go_iinc rfl h23.1 rfl (go_goto (h23.2 _ _)))) (fun e25 => have h24 := h12.2 e25; (go_loadI rfl (gq_if_eq (fun _ => (go_iinc rfl h24.1 rfl (go_goto (h24.2 _ _)))) (fun h => absurd (by decide) h))))))))))))))))) (fun e10 => have h9 := h6.2.2.2 e10; (go_pushI rfl (go_goto (go_stoI rfl rfl (go_loadI rfl (go_loadA rfl (gi_getI (gq_icmp_gt (fun e28 => have h26 := h9.1 e28; (go_loadA rfl (go_loadA rfl (go_loadI rfl (Exists.elim h26 fun f29 w36 => Exists.elim w36 fun g30 w37 => Exists.elim w37 fun v32 h31 => (go_callV rfl rfl rfl h31.1 (gq_if_eq (fun e35 => have h33 := h31.2.1 e35; (go_iinc rfl h33.1 rfl (go_goto (h33.2 _ _)))) (fun e35 => have h34 := h31.2.2 e35; (go_loadA rfl (go_loadI rfl (gi_putI (go_loadA rfl (go_loadI rfl (gi_putI (go_fall (go_iinc rfl h34.1 rfl (go_goto (h34.2 _ _)))))))))))))))))) (fun e28 => have h27 := h9.2 e28; (go_loadI rfl (go_loadA rfl (gi_getI (gq_icmp_ne (fun e40 => have h38 := h27.1 e40; (go_iinc rfl h38.1 rfl (go_goto (h38.2 _ _)))) (fun e40 => have h39 := h27.2 e40; (go_loadI rfl (gq_if_eq (fun h => absurd h (by decide)) (fun _ => (go_fall (go_loadA rfl (go_loadA rfl (go_loadI rfl (Exists.elim h39 fun f41 w48 => Exists.elim w48 fun g42 w49 => Exists.elim w49 fun v44 h43 => (go_callV rfl rfl rfl h43.1 (gq_if_eq (fun e47 => have h45 := h43.2.1 e47; (go_iinc rfl h45.1 rfl (go_goto (h45.2 _ _)))) (fun e47 => have h46 := h43.2.2 e47; (go_loadA rfl (go_loadI rfl (gi_putI (go_loadA rfl (go_loadI rfl (gi_putI (go_fall (go_iinc rfl h46.1 rfl (go_goto (h46.2 _ _)))))))))))))))))))))))))))))))))))))))))))))))))))))))
/-- the chosen set as the ledger holds it -/
def Cho (f : FI) (a w : Nat) (W : Nat → Int) (N : Nat → Nat → Int) (R : Nat → Int) (C : Nat) : Prop := f a 1 = (C : Int) ∧ f a 2 = sm W C w ∧ C < 2 ^ w ∧ Fit N R w C
theorem x_choose {σ : St} {f : FI} {g : FL} {a ar w : Nat} {q rn : Nat → Nat} {W : Nat → Int} {N : Nat → Nat → Int} {R : Nat → Int} (hs : Sh1 σ a) (hk : KC σ f ar w q rn W N) (hl : ∀ j, j < w → q j ≠ a ∧ rn j ≠ a) (hW : ∀ j, 0 ≤ W j ∧ W j ≤ 999) (hN : ∀ j b, 0 ≤ N j b ∧ N j b ≤ 99) (hR : ∀ b, b < 8 → f (a + 1) b = R b ∧ 0 ≤ R b) : ∃ (f' : FI) (C : Nat), Ex mt 103 9 (il σ f g) [vR 1 (some a), vR 18 (some ar), vI (w : Int)] (il σ f' g, []) ∧ Cho f' a w W N R C ∧ (∀ S, S < 2 ^ w → Fit N R w S → Bt W w C S) ∧ (∀ c, c ≠ a → f' c = f c) := by
  have w12 := hk.1
  have pw : 2 ^ w ≤ 2 ^ 12 := Nat.pow_le_pow_right (by decide) w12
  have p12 : 2 ^ 12 = 4096 := rfl
  have pos : 0 < 2 ^ w := Nat.two_pow_pos w
  have em : iMin (w : Int) 12 = (w : Int) := by
    unfold iMin
    first
      | (split <;> omega)
      | omega
      | simp [w12]
  have ob : (0 : Int) ≤ iMin (w : Int) 12 ∧ iMin (w : Int) 12 < 31 := by rw [em]; omega
  have pe : p2 (iMin (w : Int) 12) = ((2 ^ w : Nat) : Int) := by rw [em, p2_Nat]
  have loop : ∀ k S : Nat, S + k = 2 ^ w → ∀ (fi : FI) (C : Nat), (∀ c, c ≠ a → fi c = f c) → Cho fi a w W N R C → C < S → (∀ T, T < S → Fit N R w T → Bt W w C T) → ∃ (f' : FI) (C' : Nat), A_X1_choose_12 σ fi g a ar (w : Int) (S : Int) (il σ f' g, []) ∧ Cho f' a w W N R C' ∧ (∀ T, T < 2 ^ w → Fit N R w T → Bt W w C' T) ∧ (∀ c, c ≠ a → f' c = f c) := by
    intro k
    induction k with
    | zero =>
      intro S hS fi C hf hC hlt hT
      obtain rfl : S = 2 ^ w := by omega
      exact ⟨fi, C, bk_X1_choose_12 hs ⟨ob, fun _ => rfl, fun z => absurd (by rw [pe]; omega) z⟩, hC, hT, hf⟩
    | succ k ih =>
      intro S hS fi C hf hC hlt hT
      have hS2 : S < 2 ^ w := by omega
      have nge : ¬ p2 (iMin (w : Int) 12) ≤ (S : Int) := by rw [pe]; omega
      have kc : KC σ fi ar w q rn W N := hk.fr fun j hj => ⟨hf _ (hl j hj).1, hf _ (hl j hj).2⟩
      have E1 := x_together (σ := σ) (f := fi) (g := g) kc hW hS2
      obtain ⟨v, v1, v2, E2⟩ := x_hasRoomFor (σ := σ) (f := fi) (g := g) (R := R) hs kc hN (fun b hb => by rw [hf _ (by omega)]; exact (hR b hb).1) hS2
      have e1 := hC.1
      have e2 := hC.2.1
      have hC3 := hC.2.2.1
      have ob2 : ((0 : Int) ≤ (S : Int) ∧ (S : Int) < 4096) ∧ ((0 : Int) ≤ fi a 1 ∧ fi a 1 < 4096) := by rw [e1]; omega
      have pS : pcI (S : Int) = (cb 12 S : Int) := pcI_cb
      have pC : pcI (fi a 1) = (cb 12 C : Int) := by rw [e1]; exact pcI_cb
      have keep : (Fit N R w S → Bt W w C S) → ∃ (f' : FI) (C' : Nat), A_X1_choose_12 σ fi g a ar (w : Int) ((S : Int) + 1) (il σ f' g, []) ∧ Cho f' a w W N R C' ∧ (∀ T, T < 2 ^ w → Fit N R w T → Bt W w C' T) ∧ (∀ c, c ≠ a → f' c = f c) := fun h => ih (S + 1) (by omega) fi C hf hC (by omega) fun T h1 h2 => by
        by_cases y : T = S
        · rw [y] at h2 ⊢; exact h h2
        · exact hT T (by omega) h2
      have take : Fit N R w S → Bt W w S C → ∃ (f' : FI) (C' : Nat), A_X1_choose_12 σ (up2 (up2 fi a 1 (S : Int)) a 2 (sm W S w)) g a ar (w : Int) ((S : Int) + 1) (il σ f' g, []) ∧ Cho f' a w W N R C' ∧ (∀ T, T < 2 ^ w → Fit N R w T → Bt W w C' T) ∧ (∀ c, c ≠ a → f' c = f c) := fun h h2 => ih (S + 1) (by omega) _ S (fun c hc => by rw [up2_ne hc, up2_ne hc]; exact hf c hc) ⟨by rw [u2_i (by decide), u2_s], u2_s, hS2, h⟩ (by omega) fun T h3 h4 => by
        by_cases y : T = S
        · rw [y]; exact Bt.rfl'
        · exact h2.tr (hT T (by omega) h4)
      by_cases h1 : fi a 2 < sm W S w
      · rcases v1 with rfl | rfl
        · obtain ⟨f', C', A, c⟩ := keep fun y => absurd (v2.mpr y) (by decide)
          exact ⟨f', C', bk_X1_choose_12 hs ⟨ob, fun z => absurd z nge, fun _ => ⟨fi, g, _, E1, ob2, fun _ => ⟨fun _ => ⟨fi, g, _, E2, fun _ => ⟨by omega, A⟩, fun z => absurd rfl z⟩, fun z => absurd h1 z⟩, fun _ => ⟨fun _ => ⟨fi, g, _, E2, fun _ => ⟨by omega, A⟩, fun z => absurd rfl z⟩, fun z => absurd h1 z⟩⟩⟩, c⟩
        · obtain ⟨f', C', A, c⟩ := take (v2.mp rfl) (Or.inl (by omega))
          exact ⟨f', C', bk_X1_choose_12 hs ⟨ob, fun z => absurd z nge, fun _ => ⟨fi, g, _, E1, ob2, fun _ => ⟨fun _ => ⟨fi, g, _, E2, fun z => absurd z (by decide), fun _ => ⟨by omega, A⟩⟩, fun z => absurd h1 z⟩, fun _ => ⟨fun _ => ⟨fi, g, _, E2, fun z => absurd z (by decide), fun _ => ⟨by omega, A⟩⟩, fun z => absurd h1 z⟩⟩⟩, c⟩
      · by_cases h2 : sm W S w = fi a 2
        · by_cases h3 : pcI (fi a 1) ≤ pcI (S : Int)
          · obtain ⟨f', C', A, c⟩ := keep fun _ => Or.inr ⟨by omega, by omega⟩
            exact ⟨f', C', bk_X1_choose_12 hs ⟨ob, fun z => absurd z nge, fun _ => ⟨fi, g, _, E1, ob2, fun _ => ⟨fun z => absurd z h1, fun _ => ⟨fun _ => ⟨by omega, A⟩, fun _ => ⟨by omega, A⟩⟩⟩, fun z => absurd h3 z⟩⟩, c⟩
          · rcases v1 with rfl | rfl
            · obtain ⟨f', C', A, c⟩ := keep fun y => absurd (v2.mpr y) (by decide)
              exact ⟨f', C', bk_X1_choose_12 hs ⟨ob, fun z => absurd z nge, fun _ => ⟨fi, g, _, E1, ob2, fun z => absurd z h3, fun _ => ⟨fun z => absurd z h1, fun _ => ⟨fun z => absurd h2 z, fun _ => ⟨fi, g, _, E2, fun _ => ⟨by omega, A⟩, fun z => absurd rfl z⟩⟩⟩⟩⟩, c⟩
            · obtain ⟨f', C', A, c⟩ := take (v2.mp rfl) (Or.inr ⟨by omega, Or.inl (by omega)⟩)
              exact ⟨f', C', bk_X1_choose_12 hs ⟨ob, fun z => absurd z nge, fun _ => ⟨fi, g, _, E1, ob2, fun z => absurd z h3, fun _ => ⟨fun z => absurd z h1, fun _ => ⟨fun z => absurd h2 z, fun _ => ⟨fi, g, _, E2, fun z => absurd z (by decide), fun _ => ⟨by omega, A⟩⟩⟩⟩⟩⟩, c⟩
        · obtain ⟨f', C', A, c⟩ := keep fun _ => Or.inl (by omega)
          exact ⟨f', C', bk_X1_choose_12 hs ⟨ob, fun z => absurd z nge, fun _ => ⟨fi, g, _, E1, ob2, fun _ => ⟨fun z => absurd z h1, fun _ => ⟨fun _ => ⟨by omega, A⟩, fun z => absurd z h2⟩⟩, fun _ => ⟨fun z => absurd z h1, fun _ => ⟨fun _ => ⟨by omega, A⟩, fun z => absurd z h2⟩⟩⟩⟩, c⟩
  obtain ⟨f', C', A, c⟩ := loop (2 ^ w - 1) 1 (by omega) (up2 (up2 f a 1 0) a 2 0) 0 (fun c hc => by rw [up2_ne hc, up2_ne hc]) ⟨by rw [u2_i (by decide), u2_s]; rfl, by rw [u2_s, sm_0], pos, fun b hb => by rw [sm_0]; exact (hR b hb).2⟩ (by decide) fun T hT _ => by
    obtain rfl : T = 0 := by omega
    exact Bt.rfl'
  exact ⟨f', C', bk_X1_choose_0 hs A, c⟩
