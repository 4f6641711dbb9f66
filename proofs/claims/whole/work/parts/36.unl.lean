/-! unlike boxes, renew, line -/
/-- two tables of the class with the same rows -/
def AL (f : FI) (a c n m : Nat) : Prop := n = m ∧ ∀ k, k < n → f (a + 1) k = f (c + 1) k ∧ f (a + 2) k = f (c + 2) k ∧ f (a + 3) k = f (c + 3) k
def A_X7_isAlike_15 (σ : St) (f : FI) (g : FL) (a : Nat) (x1 : Nat) (x2 : Int) (r : St × List Vl) : Prop := Gx mt 0 cd_X7_isAlike (il σ f g) (cd_X7_isAlike 15) [some (vR 7 (some a)), some (vR 7 (some x1)), some (vI x2)] [] r
theorem bk_X7_isAlike_0 {σ : St} {f : FI} {g : FL} {a : Nat} {x1 : Nat} {r : St × List Vl} (hs : Sh7 σ a) (h : (((f a 3) = (f x1 3) → (A_X7_isAlike_15 σ f g a x1 0 r)) ∧ (¬ (f a 3) = (f x1 3) → (r = ((il σ f g), [vI 0]))))) : Ex mt 0 99 (il σ f g) [vR 7 (some a), vR 7 (some x1)] r := Ex.mk mt_99 (show Gx mt 0 cd_X7_isAlike (il σ f g) b_X7_isAlike_0 [some (vR 7 (some a)), some (vR 7 (some x1)), none] [] r from (go_loadA rfl (gi_getI (go_loadA rfl (gi_getI (gq_icmp_eq (fun e3 => have h1 := h.1 e3; (go_pushI rfl (go_stoI rfl rfl (go_fall (h1))))) (fun e3 => have h2 := h.2 e3; (go_pushI rfl (h2 ▸ (gq_retZ ⟨by decide, by decide⟩))))))))))
theorem bk_X7_isAlike_15 {σ : St} {f : FI} {g : FL} {a : Nat} {x1 : Nat} {x2 : Int} {r : St × List Vl} (hs : Sh7 σ a) (h : (((f a 3) ≤ x2 → (r = ((il σ f g), [vI 1]))) ∧ (¬ (f a 3) ≤ x2 → ((0 ≤ x2 ∧ x2 < 12) ∧ Sh7 σ x1) ∧ ((¬ (f (a + 1) ((x2).toNat)) = (f (x1 + 1) ((x2).toNat)) → (r = ((il σ f g), [vI 0]))) ∧ ((f (a + 1) ((x2).toNat)) = (f (x1 + 1) ((x2).toNat)) → ((0 ≤ x2 ∧ x2 < 12)) ∧ ((¬ (f (a + 2) ((x2).toNat)) = (f (x1 + 2) ((x2).toNat)) → (r = ((il σ f g), [vI 0]))) ∧ ((f (a + 2) ((x2).toNat)) = (f (x1 + 2) ((x2).toNat)) → ((0 ≤ x2 ∧ x2 < 12)) ∧ (((f (a + 3) ((x2).toNat)) = (f (x1 + 3) ((x2).toNat)) → ((-2147483648 ≤ (x2 + 1) ∧ (x2 + 1) ≤ 2147483647)) ∧ (A_X7_isAlike_15 σ f g a x1 (x2 + 1) r)) ∧ (¬ (f (a + 3) ((x2).toNat)) = (f (x1 + 3) ((x2).toNat)) → (r = ((il σ f g), [vI 0]))))))))))) : A_X7_isAlike_15 σ f g a x1 x2 r := (show Gx mt 0 cd_X7_isAlike (il σ f g) b_X7_isAlike_15 [some (vR 7 (some a)), some (vR 7 (some x1)), some (vI x2)] [] r from (go_loadI rfl (go_loadA rfl (gi_getI (gq_icmp_ge (fun e3 => have h1 := h.1 e3; (go_pushI rfl (h1 ▸ (gq_retZ ⟨by decide, by decide⟩)))) (fun e3 => have h2 := h.2 e3; (go_loadA rfl (gi_getR (Sh7.r0 hs) (go_loadI rfl (gi_iald (inl_ (Sh7.l0 hs) h2.1.1) (go_loadA rfl (gi_getR (Sh7.r0 h2.1.2) (go_loadI rfl (gi_iald (inl_ (Sh7.l0 h2.1.2) h2.1.1) (gq_icmp_ne (fun e6 => have h4 := h2.2.1 e6; (go_pushI rfl (h4 ▸ (gq_retZ ⟨by decide, by decide⟩)))) (fun e6 => have h5 := h2.2.2 e6; (go_loadA rfl (gi_getR (Sh7.r1 hs) (go_loadI rfl (gi_iald (inl_ (Sh7.l1 hs) h5.1) (go_loadA rfl (gi_getR (Sh7.r1 h2.1.2) (go_loadI rfl (gi_iald (inl_ (Sh7.l1 h2.1.2) h5.1) (gq_icmp_ne (fun e9 => have h7 := h5.2.1 e9; (go_pushI rfl (h7 ▸ (gq_retZ ⟨by decide, by decide⟩)))) (fun e9 => have h8 := h5.2.2 e9; (go_loadA rfl (gi_getR (Sh7.r2 hs) (go_loadI rfl (gi_iald (inl_ (Sh7.l2 hs) h8.1) (go_loadA rfl (gi_getR (Sh7.r2 h2.1.2) (go_loadI rfl (gi_iald (inl_ (Sh7.l2 h2.1.2) h8.1) (gq_icmp_eq (fun e12 => have h10 := h8.2.1 e12; (go_iinc rfl h10.1 rfl (go_goto (h10.2)))) (fun e12 => have h11 := h8.2.2 e12; (go_fall (go_pushI rfl (h11 ▸ (gq_retZ ⟨by decide, by decide⟩))))))))))))))))))))))))))))))))))))))))
def A_X12_isUnlike_26 (σ : St) (f : FI) (g : FL) (a : Nat) (x1 : Int) (x2 : Int) (x3 : Int) (r : St × List Vl) : Prop := ∀ (y4 : Option Vl) (y5 : Option Vl), Gx mt 0 cd_X12_isUnlike (il σ f g) (cd_X12_isUnlike 26) [some (vR 12 (some a)), some (vI x1), some (vI x2), some (vI x3), y4, y5] [] r
theorem bk_X12_isUnlike_0 {σ : St} {f : FI} {g : FL} {a : Nat} {x1 : Int} {r : St × List Vl} (hs : Sh12 σ a) (h : ((0 ≤ x1 ∧ x1 < 16) ∧ (-2147483648 ≤ (8 + x1) ∧ (8 + x1) ≤ 2147483647) ∧ (0 ≤ (8 + x1) ∧ (8 + x1) < 16)) ∧ ((¬ (f (a + 21) ((x1).toNat)) = (f (a + 21) (((8 + x1)).toNat)) → (A_X12_isUnlike_26 σ f g a x1 0 0 r)) ∧ ((f (a + 21) ((x1).toNat)) = (f (a + 21) (((8 + x1)).toNat)) → (A_X12_isUnlike_26 σ f g a x1 1 0 r)))) : Ex mt 0 245 (il σ f g) [vR 12 (some a), vI x1] r := Ex.mk mt_245 (show Gx mt 0 cd_X12_isUnlike (il σ f g) b_X12_isUnlike_0 [some (vR 12 (some a)), some (vI x1), none, none, none, none] [] r from (go_loadA rfl (gi_getR (Sh12.r31 hs) (go_loadI rfl (gi_iald (inl_ (Sh12.l31 hs) h.1.1) (go_loadA rfl (gi_getR (Sh12.r31 hs) (go_pushI rfl (go_loadI rfl (go_iadd h.1.2.1 (gi_iald (inl_ (Sh12.l31 hs) h.1.2.2) (gq_icmp_ne (fun e3 => have h1 := h.2.1 e3; (go_pushI rfl (go_fall (go_stoI rfl rfl (go_pushI rfl (go_stoI rfl rfl (go_fall (h1 _ _)))))))) (fun e3 => have h2 := h.2.2 e3; (go_pushI rfl (go_goto (go_stoI rfl rfl (go_pushI rfl (go_stoI rfl rfl (go_fall (h2 _ _))))))))))))))))))))
theorem bk_X12_isUnlike_26 {σ : St} {f : FI} {g : FL} {a : Nat} {x1 : Int} {x2 : Int} {x3 : Int} {r : St × List Vl} (hs : Sh12 σ a) (h : ((0 ≤ x1 ∧ x1 < 16)) ∧ (((f (a + 21) ((x1).toNat)) ≤ x3 → ((¬ x2 = 0 → (r = ((il σ f g), [vI 0]))) ∧ (x2 = 0 → (r = ((il σ f g), [vI 1]))))) ∧ (¬ (f (a + 21) ((x1).toNat)) ≤ x3 → ((x2 = 0 → ((¬ x2 = 0 → (r = ((il σ f g), [vI 0]))) ∧ (x2 = 0 → (r = ((il σ f g), [vI 1]))))) ∧ (¬ x2 = 0 → ((-2147483648 ≤ (12 * x1) ∧ (12 * x1) ≤ 2147483647) ∧ (-2147483648 ≤ ((12 * x1) + x3) ∧ ((12 * x1) + x3) ≤ 2147483647) ∧ (-2147483648 ≤ (8 + x1) ∧ (8 + x1) ≤ 2147483647) ∧ (-2147483648 ≤ (12 * (8 + x1)) ∧ (12 * (8 + x1)) ≤ 2147483647) ∧ (-2147483648 ≤ ((12 * (8 + x1)) + x3) ∧ ((12 * (8 + x1)) + x3) ≤ 2147483647) ∧ (0 ≤ ((12 * x1) + x3) ∧ ((12 * x1) + x3) < 192) ∧ (0 ≤ ((12 * (8 + x1)) + x3) ∧ ((12 * (8 + x1)) + x3) < 192)) ∧ ((¬ (f (a + 18) ((((12 * x1) + x3)).toNat)) = (f (a + 18) ((((12 * (8 + x1)) + x3)).toNat)) → ((-2147483648 ≤ (x3 + 1) ∧ (x3 + 1) ≤ 2147483647)) ∧ (A_X12_isUnlike_26 σ f g a x1 0 (x3 + 1) r)) ∧ ((f (a + 18) ((((12 * x1) + x3)).toNat)) = (f (a + 18) ((((12 * (8 + x1)) + x3)).toNat)) → ((0 ≤ ((12 * x1) + x3) ∧ ((12 * x1) + x3) < 192) ∧ (0 ≤ ((12 * (8 + x1)) + x3) ∧ ((12 * (8 + x1)) + x3) < 192)) ∧ ((¬ (f (a + 19) ((((12 * x1) + x3)).toNat)) = (f (a + 19) ((((12 * (8 + x1)) + x3)).toNat)) → ((-2147483648 ≤ (x3 + 1) ∧ (x3 + 1) ≤ 2147483647)) ∧ (A_X12_isUnlike_26 σ f g a x1 0 (x3 + 1) r)) ∧ ((f (a + 19) ((((12 * x1) + x3)).toNat)) = (f (a + 19) ((((12 * (8 + x1)) + x3)).toNat)) → ((0 ≤ ((12 * x1) + x3) ∧ ((12 * x1) + x3) < 192) ∧ (0 ≤ ((12 * (8 + x1)) + x3) ∧ ((12 * (8 + x1)) + x3) < 192)) ∧ ((¬ (f (a + 20) ((((12 * x1) + x3)).toNat)) = (f (a + 20) ((((12 * (8 + x1)) + x3)).toNat)) → ((-2147483648 ≤ (x3 + 1) ∧ (x3 + 1) ≤ 2147483647)) ∧ (A_X12_isUnlike_26 σ f g a x1 0 (x3 + 1) r)) ∧ ((f (a + 20) ((((12 * x1) + x3)).toNat)) = (f (a + 20) ((((12 * (8 + x1)) + x3)).toNat)) → ((-2147483648 ≤ (x3 + 1) ∧ (x3 + 1) ≤ 2147483647)) ∧ (A_X12_isUnlike_26 σ f g a x1 1 (x3 + 1) r)))))))))))) : A_X12_isUnlike_26 σ f g a x1 x2 x3 r := fun y4 y5 => (show Gx mt 0 cd_X12_isUnlike (il σ f g) b_X12_isUnlike_26 [some (vR 12 (some a)), some (vI x1), some (vI x2), some (vI x3), y4, y5] [] r from (go_loadI rfl (go_loadA rfl (gi_getR (Sh12.r31 hs) (go_loadI rfl (gi_iald (inl_ (Sh12.l31 hs) h.1) (gq_icmp_ge (fun e3 => have h1 := h.2.1 e3; (go_loadI rfl (gq_if_ne (fun e6 => have h4 := h1.1 e6; (go_pushI rfl (go_fall (h4 ▸ (gq_retZ ⟨by decide, by decide⟩))))) (fun e6 => have h5 := h1.2 e6; (go_pushI rfl (go_goto (h5 ▸ (gq_retZ ⟨by decide, by decide⟩)))))))) (fun e3 => have h2 := h.2.2 e3; (go_loadI rfl (gq_if_eq (fun e9 => have h7 := h2.1 e9; (go_loadI rfl (gq_if_ne (fun e12 => have h10 := h7.1 e12; (go_pushI rfl (go_fall (h10 ▸ (gq_retZ ⟨by decide, by decide⟩))))) (fun e12 => have h11 := h7.2 e12; (go_pushI rfl (go_goto (h11 ▸ (gq_retZ ⟨by decide, by decide⟩)))))))) (fun e9 => have h8 := h2.2 e9; (go_pushI rfl (go_loadI rfl (go_imul h8.1.1 (go_loadI rfl (go_iadd h8.1.2.1 (go_stoI rfl rfl (go_pushI rfl (go_pushI rfl (go_loadI rfl (go_iadd h8.1.2.2.1 (go_imul h8.1.2.2.2.1 (go_loadI rfl (go_iadd h8.1.2.2.2.2.1 (go_stoI rfl rfl (go_loadA rfl (gi_getR (Sh12.r28 hs) (go_loadI rfl (gi_iald (inl_ (Sh12.l28 hs) h8.1.2.2.2.2.2.1) (go_loadA rfl (gi_getR (Sh12.r28 hs) (go_loadI rfl (gi_iald (inl_ (Sh12.l28 hs) h8.1.2.2.2.2.2.2) (gq_icmp_ne (fun e15 => have h13 := h8.2.1 e15; (go_pushI rfl (go_fall (go_stoI rfl rfl (go_iinc rfl h13.1 rfl (go_goto (h13.2 _ _))))))) (fun e15 => have h14 := h8.2.2 e15; (go_loadA rfl (gi_getR (Sh12.r29 hs) (go_loadI rfl (gi_iald (inl_ (Sh12.l29 hs) h14.1.1) (go_loadA rfl (gi_getR (Sh12.r29 hs) (go_loadI rfl (gi_iald (inl_ (Sh12.l29 hs) h14.1.2) (gq_icmp_ne (fun e18 => have h16 := h14.2.1 e18; (go_pushI rfl (go_fall (go_stoI rfl rfl (go_iinc rfl h16.1 rfl (go_goto (h16.2 _ _))))))) (fun e18 => have h17 := h14.2.2 e18; (go_loadA rfl (gi_getR (Sh12.r30 hs) (go_loadI rfl (gi_iald (inl_ (Sh12.l30 hs) h17.1.1) (go_loadA rfl (gi_getR (Sh12.r30 hs) (go_loadI rfl (gi_iald (inl_ (Sh12.l30 hs) h17.1.2) (gq_icmp_ne (fun e21 => have h19 := h17.2.1 e21; (go_pushI rfl (go_fall (go_stoI rfl rfl (go_iinc rfl h19.1 rfl (go_goto (h19.2 _ _))))))) (fun e21 => have h20 := h17.2.2 e21; (go_pushI rfl (go_goto (go_stoI rfl rfl (go_iinc rfl h20.1 rfl (go_goto (h20.2 _ _)))))))))))))))))))))))))))))))))))))))))))))))))))))))))))))
theorem x_isAlike {σ : St} {f : FI} {g : FL} {a c n m : Nat} (hs : Sh7 σ a) (hc : Sh7 σ c) (h1 : TC f a n) (h2 : TC f c m) : ∃ v : Int, (v = 0 ∨ v = 1) ∧ (v = 1 ↔ AL f a c n m) ∧ Ex mt 0 99 (il σ f g) [vR 7 (some a), vR 7 (some c)] (il σ f g, [vI v]) := by
  have n12 := h1.1.2
  by_cases hn : n = m
  · subst hn
    have loop : ∀ k i : Nat, i + k = n → (∀ j, j < i → f (a + 1) j = f (c + 1) j ∧ f (a + 2) j = f (c + 2) j ∧ f (a + 3) j = f (c + 3) j) → ∃ v : Int, (v = 0 ∨ v = 1) ∧ (v = 1 ↔ AL f a c n n) ∧ A_X7_isAlike_15 σ f g a c (i : Int) (il σ f g, [vI v]) := by
      intro k
      induction k with
      | zero =>
        intro i hi hj
        obtain rfl : i = n := by omega
        exact ⟨1, Or.inr rfl, ⟨fun _ => ⟨rfl, hj⟩, fun _ => rfl⟩, bk_X7_isAlike_15 hs ⟨fun _ => rfl, fun e => absurd (by rw [h1.1.1]; omega) e⟩⟩
      | succ k ih =>
        intro i hi hj
        have ei : (i : Int).toNat = i := rfl
        by_cases q : f (a + 1) i = f (c + 1) i ∧ f (a + 2) i = f (c + 2) i ∧ f (a + 3) i = f (c + 3) i
        · obtain ⟨v, v1, v2, v3⟩ := ih (i + 1) (by omega) fun j hj2 => by
            by_cases z : j = i
            · rw [z]; exact q
            · exact hj j (by omega)
          exact ⟨v, v1, v2, bk_X7_isAlike_15 hs ⟨fun e => absurd e (by rw [h1.1.1]; omega), fun _ => ⟨⟨by omega, hc⟩, fun e => absurd q.1 e, fun _ => ⟨by omega, fun e => absurd q.2.1 e, fun _ => ⟨by omega, fun _ => ⟨by omega, v3⟩, fun e => absurd q.2.2 e⟩⟩⟩⟩⟩
        · refine ⟨0, Or.inl rfl, ⟨fun e => absurd e (by decide), fun e => absurd (e.2 i (by omega)) q⟩, bk_X7_isAlike_15 hs ⟨fun e => absurd e (by rw [h1.1.1]; omega), fun _ => ⟨⟨by omega, hc⟩, fun _ => rfl, fun e1 => ⟨by omega, fun _ => rfl, fun e2 => ⟨by omega, fun e3 => absurd ⟨e1, e2, e3⟩ q, fun _ => rfl⟩⟩⟩⟩⟩
    obtain ⟨v, v1, v2, v3⟩ := loop n 0 (by omega) fun j hj => absurd hj (Nat.not_lt_zero j)
    exact ⟨v, v1, v2, bk_X7_isAlike_0 hs ⟨fun _ => v3, fun e => absurd (by rw [h1.1.1, h2.1.1]) e⟩⟩
  · exact ⟨0, Or.inl rfl, ⟨fun e => absurd e (by decide), fun e => absurd e.1 hn⟩, bk_X7_isAlike_0 hs ⟨fun e => absurd (by rw [h1.1.1, h2.1.1] at e; omega) hn, fun _ => rfl⟩⟩
/-- the model's tables (in f') are those of the class (in f) -/
def TMs (f' f : FI) (B : Nat) (nn : Nat → Nat) : Prop := ∀ t, t < 16 → nn t ≤ 12 ∧ f' (B + 165 + 21) t = (nn t : Int) ∧ ∀ k, k < nn t → f' (B + 165 + 18) (12 * t + k) = f (tB B t + 1) k ∧ f' (B + 165 + 19) (12 * t + k) = f (tB B t + 2) k ∧ f' (B + 165 + 20) (12 * t + k) = f (tB B t + 3) k
theorem ITb.ms {f : FI} {B : Nat} {nn : Nat → Nat} (h : ITb f B nn) : TMs f f B nn := fun t ht => ⟨(h t ht).1.1.2, (h t ht).2⟩
theorem TMs.of {f f' f1 : FI} {B : Nat} {nn : Nat → Nat} (h : TMs f' f B nn) (e : ∀ b, B + 165 + 18 ≤ b → b ≤ B + 165 + 21 → f1 b = f' b) : TMs f1 f B nn := fun t ht => by
  rw [e _ (by omega) (by omega), e _ (by omega) (by omega), e _ (by omega) (by omega), e _ (by omega) (by omega)]
  exact h t ht
theorem x_isUnlike {σ : St} {f f' : FI} {g : FL} {B b : Nat} {nn : Nat → Nat} (hm : Sh12 σ (B + 165)) (h : TMs f' f B nn) (hb : b < 8) : ∃ v : Int, (v = 0 ∨ v = 1) ∧ (v = 0 ↔ AL f (tB B b) (tB B (8 + b)) (nn b) (nn (8 + b))) ∧ Ex mt 0 245 (il σ f' g) [vR 12 (some (B + 165)), vI (b : Int)] (il σ f' g, [vI v]) := by
  obtain ⟨tc1, tm1⟩ := h b (by omega)
  obtain ⟨tc2, tm2⟩ := h (8 + b) (by omega)
  have n12 := tc1
  have e1 : (b : Int).toNat = b := rfl
  have e2 : (8 + (b : Int)).toNat = 8 + b := by omega
  have fin0 : ∀ i : Int, A_X12_isUnlike_26 σ f' g (B + 165) (b : Int) 0 i (il σ f' g, [vI 1]) := fun i => by
    refine bk_X12_isUnlike_26 hm ⟨by omega, fun _ => ⟨fun e => absurd rfl e, fun _ => rfl⟩, fun _ => ⟨fun _ => ⟨fun e => absurd rfl e, fun _ => rfl⟩, fun e => absurd rfl e⟩⟩
  by_cases hn : nn b = nn (8 + b)
  · have loop : ∀ k i : Nat, i + k = nn b → (∀ j, j < i → f (tB B b + 1) j = f (tB B (8 + b) + 1) j ∧ f (tB B b + 2) j = f (tB B (8 + b) + 2) j ∧ f (tB B b + 3) j = f (tB B (8 + b) + 3) j) → ∃ v : Int, (v = 0 ∨ v = 1) ∧ (v = 0 ↔ AL f (tB B b) (tB B (8 + b)) (nn b) (nn (8 + b))) ∧ A_X12_isUnlike_26 σ f' g (B + 165) (b : Int) 1 (i : Int) (il σ f' g, [vI v]) := by
      intro k
      induction k with
      | zero =>
        intro i hi hj
        obtain rfl : i = nn b := by omega
        refine ⟨0, Or.inl rfl, ⟨fun _ => ⟨hn, hj⟩, fun _ => rfl⟩, bk_X12_isUnlike_26 hm ?_⟩
        rw [e1, tm1.1]
        exact ⟨by omega, fun _ => ⟨fun _ => rfl, fun e => absurd e (by decide)⟩, fun e => absurd (Int.le_refl _) e⟩
      | succ k ih =>
        intro i hi hj
        have p1 := tm1.2 i (by omega)
        have p2 := tm2.2 i (by omega)
        have i1 : (12 * (b : Int) + (i : Int)).toNat = 12 * b + i := by omega
        have i2 : (12 * (8 + (b : Int)) + (i : Int)).toNat = 12 * (8 + b) + i := by omega
        by_cases q : f (tB B b + 1) i = f (tB B (8 + b) + 1) i ∧ f (tB B b + 2) i = f (tB B (8 + b) + 2) i ∧ f (tB B b + 3) i = f (tB B (8 + b) + 3) i
        · obtain ⟨v, v1, v2, v3⟩ := ih (i + 1) (by omega) fun j hj2 => by
            by_cases z : j = i
            · rw [z]; exact q
            · exact hj j (by omega)
          refine ⟨v, v1, v2, bk_X12_isUnlike_26 hm ?_⟩
          rw [e1, tm1.1, i1, i2, p1.1, p1.2.1, p1.2.2, p2.1, p2.2.1, p2.2.2]
          exact ⟨by omega, fun e => absurd e (by omega), fun _ => ⟨fun e => absurd e (by decide), fun _ => ⟨by omega, fun e => absurd q.1 e, fun _ => ⟨by omega, fun e => absurd q.2.1 e, fun _ => ⟨by omega, fun e => absurd q.2.2 e, fun _ => ⟨by omega, v3⟩⟩⟩⟩⟩⟩
        · refine ⟨1, Or.inr rfl, ⟨fun e => absurd e (by decide), fun e => absurd (e.2 i (by omega)) q⟩, bk_X12_isUnlike_26 hm ?_⟩
          rw [e1, tm1.1, i1, i2, p1.1, p1.2.1, p1.2.2, p2.1, p2.2.1, p2.2.2]
          exact ⟨by omega, fun e => absurd e (by omega), fun _ => ⟨fun e => absurd e (by decide), fun _ => ⟨by omega, fun _ => ⟨by omega, fin0 _⟩, fun q1 => ⟨by omega, fun _ => ⟨by omega, fin0 _⟩, fun q2 => ⟨by omega, fun _ => ⟨by omega, fin0 _⟩, fun q3 => absurd ⟨q1, q2, q3⟩ q⟩⟩⟩⟩⟩
    obtain ⟨v, v1, v2, v3⟩ := loop (nn b) 0 (by omega) fun j hj => absurd hj (Nat.not_lt_zero j)
    refine ⟨v, v1, v2, bk_X12_isUnlike_0 hm ?_⟩
    rw [e1, e2, tm1.1, tm2.1]
    exact ⟨by omega, fun e => absurd (by omega) e, fun _ => v3⟩
  · refine ⟨1, Or.inr rfl, ⟨fun e => absurd e (by decide), fun e => absurd e.1 hn⟩, bk_X12_isUnlike_0 hm ?_⟩
    rw [e1, e2, tm1.1, tm2.1]
    exact ⟨by omega, fun _ => fin0 0, fun e => absurd (by omega) hn⟩
/-- the set of the boxes whose tables are unlike -/
def UL (f : FI) (B : Nat) (nn : Nat → Nat) (u : Nat) : Prop := u < 256 ∧ ∀ b, b < 8 → (u.testBit b = true ↔ ¬ AL f (tB B b) (tB B (8 + b)) (nn b) (nn (8 + b)))
def A_X3_unlikeBoxes_4 (σ : St) (f : FI) (g : FL) (a : Nat) (x1 : Int) (x2 : Int) (r : St × List Vl) : Prop := Gx mt 1 cd_X3_unlikeBoxes (il σ f g) (cd_X3_unlikeBoxes 4) [some (vR 3 (some a)), some (vI x1), some (vI x2)] [] r
theorem bk_X3_unlikeBoxes_0 {σ : St} {f : FI} {g : FL} {a : Nat} {r : St × List Vl} (hs : Sh3 σ a) (h : (A_X3_unlikeBoxes_4 σ f g a 0 0 r)) : Ex mt 1 34 (il σ f g) [vR 3 (some a)] r := Ex.mk mt_34 (show Gx mt 1 cd_X3_unlikeBoxes (il σ f g) b_X3_unlikeBoxes_0 [some (vR 3 (some a)), none, none] [] r from (go_pushI rfl (go_stoI rfl rfl (go_pushI rfl (go_stoI rfl rfl (go_fall (h)))))))
theorem bk_X3_unlikeBoxes_4 {σ : St} {f : FI} {g : FL} {a : Nat} {x1 : Int} {x2 : Int} {r : St × List Vl} (hs : Sh3 σ a) (h : ((8 ≤ x2 → (r = ((il σ f g), [vI x1]))) ∧ (¬ 8 ≤ x2 → ((0 ≤ x2 ∧ x2 < 16) ∧ (-2147483648 ≤ (8 + x2) ∧ (8 + x2) ≤ 2147483647) ∧ (0 ≤ (8 + x2) ∧ (8 + x2) < 16)) ∧ (∃ (f4 : FI) (g5 : FL) (v7 : Int), Ex mt 0 99 (il σ f g) [vR 7 (some (tA a x2)), vR 7 (some (tA a (8 + x2)))] ((il σ f4 g5), [vI v7]) ∧ ((v7 = 0 → ((0 ≤ x2 ∧ x2 < 31)) ∧ ((-2147483648 ≤ (x2 + 1) ∧ (x2 + 1) ≤ 2147483647)) ∧ (A_X3_unlikeBoxes_4 σ f4 g5 a (iOr x1 (p2 x2)) (x2 + 1) r)) ∧ (¬ v7 = 0 → ((-2147483648 ≤ (x2 + 1) ∧ (x2 + 1) ≤ 2147483647)) ∧ (A_X3_unlikeBoxes_4 σ f4 g5 a (iOr x1 0) (x2 + 1) r))))))) : A_X3_unlikeBoxes_4 σ f g a x1 x2 r := (show Gx mt 1 cd_X3_unlikeBoxes (il σ f g) b_X3_unlikeBoxes_4 [some (vR 3 (some a)), some (vI x1), some (vI x2)] [] r from (go_loadI rfl (go_pushI rfl (gq_icmp_ge (fun e3 => have h1 := h.1 e3; (go_loadI rfl (h1 ▸ gq_retI))) (fun e3 => have h2 := h.2 e3; (go_loadI rfl (go_loadA rfl (gi_getR (Sh3.r0 hs) (go_loadI rfl (gi_aald (inl_ (Sh3.l0 hs) h2.1.1) (Sh3.t hs h2.1.1) (go_loadA rfl (gi_getR (Sh3.r0 hs) (go_pushI rfl (go_loadI rfl (go_iadd h2.1.2.1 (gi_aald (inl_ (Sh3.l0 hs) h2.1.2.2) (Sh3.t hs h2.1.2.2) (Exists.elim h2.2 fun f4 w11 => Exists.elim w11 fun g5 w12 => Exists.elim w12 fun v7 h6 => (go_callV rfl rfl rfl h6.1 (gq_if_eq (fun e10 => have h8 := h6.2.1 e10; (go_pushI rfl (go_loadI rfl (go_ishl (iShl_1 h8.1) (go_fall (go_ior rfl (go_stoI rfl rfl (go_iinc rfl h8.2.1 rfl (go_goto (h8.2.2)))))))))) (fun e10 => have h9 := h6.2.2 e10; (go_pushI rfl (go_goto (go_ior rfl (go_stoI rfl rfl (go_iinc rfl h9.1 rfl (go_goto (h9.2)))))))))))))))))))))))))))
def A_X12_unlikeMany_4 (σ : St) (f : FI) (g : FL) (a : Nat) (x1 : Int) (x2 : Int) (r : St × List Vl) : Prop := Gx mt 1 cd_X12_unlikeMany (il σ f g) (cd_X12_unlikeMany 4) [some (vR 12 (some a)), some (vI x1), some (vI x2)] [] r
theorem bk_X12_unlikeMany_0 {σ : St} {f : FI} {g : FL} {a : Nat} {r : St × List Vl} (hs : Sh12 σ a) (h : (A_X12_unlikeMany_4 σ f g a 0 0 r)) : Ex mt 1 246 (il σ f g) [vR 12 (some a)] r := Ex.mk mt_246 (show Gx mt 1 cd_X12_unlikeMany (il σ f g) b_X12_unlikeMany_0 [some (vR 12 (some a)), none, none] [] r from (go_pushI rfl (go_stoI rfl rfl (go_pushI rfl (go_stoI rfl rfl (go_fall (h)))))))
theorem bk_X12_unlikeMany_4 {σ : St} {f : FI} {g : FL} {a : Nat} {x1 : Int} {x2 : Int} {r : St × List Vl} (hs : Sh12 σ a) (h : ((8 ≤ x2 → (r = ((il σ f g), [vI x1]))) ∧ (¬ 8 ≤ x2 → (∃ (f4 : FI) (g5 : FL) (v7 : Int), Ex mt 0 245 (il σ f g) [vR 12 (some a), vI x2] ((il σ f4 g5), [vI v7]) ∧ ((v7 = 0 → ((-2147483648 ≤ (x1 + 0) ∧ (x1 + 0) ≤ 2147483647) ∧ (-2147483648 ≤ (x2 + 1) ∧ (x2 + 1) ≤ 2147483647)) ∧ (A_X12_unlikeMany_4 σ f4 g5 a (x1 + 0) (x2 + 1) r)) ∧ (¬ v7 = 0 → ((-2147483648 ≤ (x1 + 1) ∧ (x1 + 1) ≤ 2147483647) ∧ (-2147483648 ≤ (x2 + 1) ∧ (x2 + 1) ≤ 2147483647)) ∧ (A_X12_unlikeMany_4 σ f4 g5 a (x1 + 1) (x2 + 1) r))))))) : A_X12_unlikeMany_4 σ f g a x1 x2 r := (show Gx mt 1 cd_X12_unlikeMany (il σ f g) b_X12_unlikeMany_4 [some (vR 12 (some a)), some (vI x1), some (vI x2)] [] r from (go_loadI rfl (go_pushI rfl (gq_icmp_ge (fun e3 => have h1 := h.1 e3; (go_loadI rfl (h1 ▸ gq_retI))) (fun e3 => have h2 := h.2 e3; (go_loadI rfl (go_loadA rfl (go_loadI rfl (Exists.elim h2 fun f4 w11 => Exists.elim w11 fun g5 w12 => Exists.elim w12 fun v7 h6 => (go_callV rfl rfl rfl h6.1 (gq_if_eq (fun e10 => have h8 := h6.2.1 e10; (go_pushI rfl (go_fall (go_iadd h8.1.1 (go_stoI rfl rfl (go_iinc rfl h8.1.2 rfl (go_goto (h8.2)))))))) (fun e10 => have h9 := h6.2.2 e10; (go_pushI rfl (go_goto (go_iadd h9.1.1 (go_stoI rfl rfl (go_iinc rfl h9.1.2 rfl (go_goto (h9.2)))))))))))))))))))
theorem x_unlikeBoxes {σ : St} {f : FI} {g : FL} {B : Nat} {nn : Nat → Nat} (hs : Sh3 σ (B + 43)) (h : ITb f B nn) : ∃ u : Nat, UL f B nn u ∧ Ex mt 1 34 (il σ f g) [vR 3 (some (B + 43))] (il σ f g, [vI (u : Int)]) := by
  have loop : ∀ k i : Nat, i + k = 8 → ∀ u : Nat, u < 2 ^ i → (∀ b, b < i → (u.testBit b = true ↔ ¬ AL f (tB B b) (tB B (8 + b)) (nn b) (nn (8 + b)))) → ∃ u2 : Nat, UL f B nn u2 ∧ A_X3_unlikeBoxes_4 σ f g (B + 43) (u : Int) (i : Int) (il σ f g, [vI (u2 : Int)]) := by
    intro k
    induction k with
    | zero =>
      intro i hi u hu hb
      obtain rfl : i = 8 := by omega
      exact ⟨u, ⟨hu, hb⟩, bk_X3_unlikeBoxes_4 hs ⟨fun _ => rfl, fun e => absurd (by decide) e⟩⟩
    | succ k ih =>
      intro i hi u hu hb
      have hu2 : u < 2147483648 := Nat.lt_of_lt_of_le hu (Nat.le_trans (pow31 (by omega)) (by decide))
      obtain ⟨v, v1, v2, v3⟩ := x_isAlike (g := g) (hs.tb (t := i) (by omega)) (hs.tb (t := 8 + i) (by omega)) (h i (by omega)).1 (h (8 + i) (by omega)).1
      rw [← tA_tB, ← tA_tB, show ((8 + i : Nat) : Int) = 8 + (i : Int) by omega] at v3
      have hpw : 2 ^ i < 2 ^ (i + 1) := p2_lt (by omega)
      rcases v1 with rfl | rfl
      · obtain ⟨u2, U, A⟩ := ih (i + 1) (by omega) (u ||| 2 ^ i) (or_lt (by omega) (by omega)) fun b hb2 => by
          rw [or_bit]
          by_cases q : i = b
          · subst q
            have : ¬ AL f (tB B i) (tB B (8 + i)) (nn i) (nn (8 + i)) := fun z => absurd (v2.mpr z) (by decide)
            simp [this]
          · simp only [q, decide_false, Bool.or_false]
            exact hb b (by omega)
        refine ⟨u2, U, bk_X3_unlikeBoxes_4 hs ⟨fun e => absurd e (by omega), fun _ => ⟨by omega, f, g, _, v3, fun _ => ⟨by omega, by omega, ?_⟩, fun e => absurd rfl e⟩⟩⟩
        rw [iOr_p2 hu2 (by omega)]
        exact A
      · obtain ⟨u2, U, A⟩ := ih (i + 1) (by omega) u (by omega) fun b hb2 => by
          by_cases q : i = b
          · subst q
            rw [big_bit hu (Nat.le_refl _)]
            have := v2.mp rfl
            simp [this]
          · exact hb b (by omega)
        refine ⟨u2, U, bk_X3_unlikeBoxes_4 hs ⟨fun e => absurd e (by omega), fun _ => ⟨by omega, f, g, _, v3, fun e => absurd e (by decide), fun _ => ⟨by omega, ?_⟩⟩⟩⟩
        rw [iOr_0 hu2]
        exact A
  obtain ⟨u, U, A⟩ := loop 8 0 rfl 0 (by decide) fun b hb => absurd hb (Nat.not_lt_zero b)
  exact ⟨u, U, bk_X3_unlikeBoxes_0 hs A⟩
theorem cb_8_12 {u : Nat} (h : u < 256) : cb 12 u = cb 8 u := by
  unfold cb
  have z : fb_ct (fun k => u.testBit (8 + k)) 4 = 0 := fb_ct_zero.mpr fun k _ => big_bit (n := 8) h (by omega)
  rw [show (12 : Nat) = 8 + 4 from rfl, fb_ct_split, z]
  rfl
theorem x_unlikeMany {σ : St} {f f' : FI} {g : FL} {B : Nat} {nn : Nat → Nat} (hm : Sh12 σ (B + 165)) (h : TMs f' f B nn) {u : Nat} (hu : UL f B nn u) : Ex mt 1 246 (il σ f' g) [vR 12 (some (B + 165))] (il σ f' g, [vI (cb 8 u : Int)]) := by
  have loop : ∀ k i : Nat, i + k = 8 → A_X12_unlikeMany_4 σ f' g (B + 165) (cb i u : Int) (i : Int) (il σ f' g, [vI (cb 8 u : Int)]) := by
    intro k
    induction k with
    | zero =>
      intro i hi
      obtain rfl : i = 8 := by omega
      exact bk_X12_unlikeMany_4 hm ⟨fun _ => rfl, fun e => absurd (by decide) e⟩
    | succ k ih =>
      intro i hi
      have hle := cb_le i u
      have es : cb (i + 1) u = cb i u + (if u.testBit i then 1 else 0) := rfl
      obtain ⟨v, v1, v2, v3⟩ := x_isUnlike (g := g) hm h (b := i) (by omega)
      have A := ih (i + 1) (by omega)
      have hb := hu.2 i (by omega)
      rcases v1 with rfl | rfl
      · have : ¬ u.testBit i = true := fun z => hb.mp z (v2.mp rfl)
        rw [es, if_neg this] at A
        refine bk_X12_unlikeMany_4 hm ⟨fun e => absurd e (by omega), fun _ => ⟨f', g, _, v3, fun _ => ⟨by omega, ?_⟩, fun e => absurd rfl e⟩⟩
        rw [Int.add_zero]
        exact A
      · have : u.testBit i = true := hb.mpr fun z => absurd (v2.mpr z) (by decide)
        rw [es, if_pos this] at A
        exact bk_X12_unlikeMany_4 hm ⟨fun e => absurd e (by omega), fun _ => ⟨f', g, _, v3, fun e => absurd e (by decide), fun _ => ⟨by omega, A⟩⟩⟩
  exact bk_X12_unlikeMany_0 hm (loop 8 0 rfl)
theorem bk_J6_bitCount_0f7a4_0 {σ : St} {f : FI} {g : FL} {x0 : Int} {r : St × List Vl}  (h : ((-2147483648 ≤ (x0 - (iAnd (iUshr x0 1) 1431655765)) ∧ (x0 - (iAnd (iUshr x0 1) 1431655765)) ≤ 2147483647) ∧ (-2147483648 ≤ ((iAnd (x0 - (iAnd (iUshr x0 1) 1431655765)) 858993459) + (iAnd (iUshr (x0 - (iAnd (iUshr x0 1) 1431655765)) 2) 858993459)) ∧ ((iAnd (x0 - (iAnd (iUshr x0 1) 1431655765)) 858993459) + (iAnd (iUshr (x0 - (iAnd (iUshr x0 1) 1431655765)) 2) 858993459)) ≤ 2147483647) ∧ (-2147483648 ≤ (((iAnd (x0 - (iAnd (iUshr x0 1) 1431655765)) 858993459) + (iAnd (iUshr (x0 - (iAnd (iUshr x0 1) 1431655765)) 2) 858993459)) + (iUshr ((iAnd (x0 - (iAnd (iUshr x0 1) 1431655765)) 858993459) + (iAnd (iUshr (x0 - (iAnd (iUshr x0 1) 1431655765)) 2) 858993459)) 4)) ∧ (((iAnd (x0 - (iAnd (iUshr x0 1) 1431655765)) 858993459) + (iAnd (iUshr (x0 - (iAnd (iUshr x0 1) 1431655765)) 2) 858993459)) + (iUshr ((iAnd (x0 - (iAnd (iUshr x0 1) 1431655765)) 858993459) + (iAnd (iUshr (x0 - (iAnd (iUshr x0 1) 1431655765)) 2) 858993459)) 4)) ≤ 2147483647) ∧ (-2147483648 ≤ ((iAnd (((iAnd (x0 - (iAnd (iUshr x0 1) 1431655765)) 858993459) + (iAnd (iUshr (x0 - (iAnd (iUshr x0 1) 1431655765)) 2) 858993459)) + (iUshr ((iAnd (x0 - (iAnd (iUshr x0 1) 1431655765)) 858993459) + (iAnd (iUshr (x0 - (iAnd (iUshr x0 1) 1431655765)) 2) 858993459)) 4)) 252645135) + (iUshr (iAnd (((iAnd (x0 - (iAnd (iUshr x0 1) 1431655765)) 858993459) + (iAnd (iUshr (x0 - (iAnd (iUshr x0 1) 1431655765)) 2) 858993459)) + (iUshr ((iAnd (x0 - (iAnd (iUshr x0 1) 1431655765)) 858993459) + (iAnd (iUshr (x0 - (iAnd (iUshr x0 1) 1431655765)) 2) 858993459)) 4)) 252645135) 8)) ∧ ((iAnd (((iAnd (x0 - (iAnd (iUshr x0 1) 1431655765)) 858993459) + (iAnd (iUshr (x0 - (iAnd (iUshr x0 1) 1431655765)) 2) 858993459)) + (iUshr ((iAnd (x0 - (iAnd (iUshr x0 1) 1431655765)) 858993459) + (iAnd (iUshr (x0 - (iAnd (iUshr x0 1) 1431655765)) 2) 858993459)) 4)) 252645135) + (iUshr (iAnd (((iAnd (x0 - (iAnd (iUshr x0 1) 1431655765)) 858993459) + (iAnd (iUshr (x0 - (iAnd (iUshr x0 1) 1431655765)) 2) 858993459)) + (iUshr ((iAnd (x0 - (iAnd (iUshr x0 1) 1431655765)) 858993459) + (iAnd (iUshr (x0 - (iAnd (iUshr x0 1) 1431655765)) 2) 858993459)) 4)) 252645135) 8)) ≤ 2147483647) ∧ (-2147483648 ≤ (((iAnd (((iAnd (x0 - (iAnd (iUshr x0 1) 1431655765)) 858993459) + (iAnd (iUshr (x0 - (iAnd (iUshr x0 1) 1431655765)) 2) 858993459)) + (iUshr ((iAnd (x0 - (iAnd (iUshr x0 1) 1431655765)) 858993459) + (iAnd (iUshr (x0 - (iAnd (iUshr x0 1) 1431655765)) 2) 858993459)) 4)) 252645135) + (iUshr (iAnd (((iAnd (x0 - (iAnd (iUshr x0 1) 1431655765)) 858993459) + (iAnd (iUshr (x0 - (iAnd (iUshr x0 1) 1431655765)) 2) 858993459)) + (iUshr ((iAnd (x0 - (iAnd (iUshr x0 1) 1431655765)) 858993459) + (iAnd (iUshr (x0 - (iAnd (iUshr x0 1) 1431655765)) 2) 858993459)) 4)) 252645135) 8)) + (iUshr ((iAnd (((iAnd (x0 - (iAnd (iUshr x0 1) 1431655765)) 858993459) + (iAnd (iUshr (x0 - (iAnd (iUshr x0 1) 1431655765)) 2) 858993459)) + (iUshr ((iAnd (x0 - (iAnd (iUshr x0 1) 1431655765)) 858993459) + (iAnd (iUshr (x0 - (iAnd (iUshr x0 1) 1431655765)) 2) 858993459)) 4)) 252645135) + (iUshr (iAnd (((iAnd (x0 - (iAnd (iUshr x0 1) 1431655765)) 858993459) + (iAnd (iUshr (x0 - (iAnd (iUshr x0 1) 1431655765)) 2) 858993459)) + (iUshr ((iAnd (x0 - (iAnd (iUshr x0 1) 1431655765)) 858993459) + (iAnd (iUshr (x0 - (iAnd (iUshr x0 1) 1431655765)) 2) 858993459)) 4)) 252645135) 8)) 16)) ∧ (((iAnd (((iAnd (x0 - (iAnd (iUshr x0 1) 1431655765)) 858993459) + (iAnd (iUshr (x0 - (iAnd (iUshr x0 1) 1431655765)) 2) 858993459)) + (iUshr ((iAnd (x0 - (iAnd (iUshr x0 1) 1431655765)) 858993459) + (iAnd (iUshr (x0 - (iAnd (iUshr x0 1) 1431655765)) 2) 858993459)) 4)) 252645135) + (iUshr (iAnd (((iAnd (x0 - (iAnd (iUshr x0 1) 1431655765)) 858993459) + (iAnd (iUshr (x0 - (iAnd (iUshr x0 1) 1431655765)) 2) 858993459)) + (iUshr ((iAnd (x0 - (iAnd (iUshr x0 1) 1431655765)) 858993459) + (iAnd (iUshr (x0 - (iAnd (iUshr x0 1) 1431655765)) 2) 858993459)) 4)) 252645135) 8)) + (iUshr ((iAnd (((iAnd (x0 - (iAnd (iUshr x0 1) 1431655765)) 858993459) + (iAnd (iUshr (x0 - (iAnd (iUshr x0 1) 1431655765)) 2) 858993459)) + (iUshr ((iAnd (x0 - (iAnd (iUshr x0 1) 1431655765)) 858993459) + (iAnd (iUshr (x0 - (iAnd (iUshr x0 1) 1431655765)) 2) 858993459)) 4)) 252645135) + (iUshr (iAnd (((iAnd (x0 - (iAnd (iUshr x0 1) 1431655765)) 858993459) + (iAnd (iUshr (x0 - (iAnd (iUshr x0 1) 1431655765)) 2) 858993459)) + (iUshr ((iAnd (x0 - (iAnd (iUshr x0 1) 1431655765)) 858993459) + (iAnd (iUshr (x0 - (iAnd (iUshr x0 1) 1431655765)) 2) 858993459)) 4)) 252645135) 8)) 16)) ≤ 2147483647)) ∧ (r = ((il σ f g), [vI ((((iAnd (((iAnd (x0 - (iAnd (iUshr x0 1) 1431655765)) 858993459) + (iAnd (iUshr (x0 - (iAnd (iUshr x0 1) 1431655765)) 2) 858993459)) + (iUshr ((iAnd (x0 - (iAnd (iUshr x0 1) 1431655765)) 858993459) + (iAnd (iUshr (x0 - (iAnd (iUshr x0 1) 1431655765)) 2) 858993459)) 4)) 252645135) + (iUshr (iAnd (((iAnd (x0 - (iAnd (iUshr x0 1) 1431655765)) 858993459) + (iAnd (iUshr (x0 - (iAnd (iUshr x0 1) 1431655765)) 2) 858993459)) + (iUshr ((iAnd (x0 - (iAnd (iUshr x0 1) 1431655765)) 858993459) + (iAnd (iUshr (x0 - (iAnd (iUshr x0 1) 1431655765)) 2) 858993459)) 4)) 252645135) 8)) + (iUshr ((iAnd (((iAnd (x0 - (iAnd (iUshr x0 1) 1431655765)) 858993459) + (iAnd (iUshr (x0 - (iAnd (iUshr x0 1) 1431655765)) 2) 858993459)) + (iUshr ((iAnd (x0 - (iAnd (iUshr x0 1) 1431655765)) 858993459) + (iAnd (iUshr (x0 - (iAnd (iUshr x0 1) 1431655765)) 2) 858993459)) 4)) 252645135) + (iUshr (iAnd (((iAnd (x0 - (iAnd (iUshr x0 1) 1431655765)) 858993459) + (iAnd (iUshr (x0 - (iAnd (iUshr x0 1) 1431655765)) 2) 858993459)) + (iUshr ((iAnd (x0 - (iAnd (iUshr x0 1) 1431655765)) 858993459) + (iAnd (iUshr (x0 - (iAnd (iUshr x0 1) 1431655765)) 2) 858993459)) 4)) 252645135) 8)) 16)) % 64)]))) : Ex mt 0 312 (il σ f g) [vI x0] r := Ex.mk mt_312 (show Gx mt 0 cd_J6_bitCount_0f7a4 (il σ f g) b_J6_bitCount_0f7a4_0 [some (vI x0)] [] r from (go_loadI rfl (go_loadI rfl (go_pushI rfl (go_iushr rfl (go_pushI rfl (go_iand rfl (go_isub h.1.1 (go_stoI rfl rfl (go_loadI rfl (go_pushI rfl (go_iand rfl (go_loadI rfl (go_pushI rfl (go_iushr rfl (go_pushI rfl (go_iand rfl (go_iadd h.1.2.1 (go_stoI rfl rfl (go_loadI rfl (go_loadI rfl (go_pushI rfl (go_iushr rfl (go_iadd h.1.2.2.1 (go_pushI rfl (go_iand rfl (go_stoI rfl rfl (go_loadI rfl (go_loadI rfl (go_pushI rfl (go_iushr rfl (go_iadd h.1.2.2.2.1 (go_stoI rfl rfl (go_loadI rfl (go_loadI rfl (go_pushI rfl (go_iushr rfl (go_iadd h.1.2.2.2.2 (go_stoI rfl rfl (go_loadI rfl (go_pushI rfl (go_iand (iAnd_m63 _) (h.2 ▸ gq_retI)))))))))))))))))))))))))))))))))))))))))))
def e1 (x : Int) : Int := x - iAnd (iUshr x 1) 1431655765
def e2 (x : Int) : Int := iAnd x 858993459 + iAnd (iUshr x 2) 858993459
def e3a (x : Int) : Int := x + iUshr x 4
def e3 (x : Int) : Int := iAnd (e3a x) 252645135
def e4 (x : Int) : Int := x + iUshr x 8
def e5 (x : Int) : Int := x + iUshr x 16
set_option maxRecDepth 100000 in
theorem bcI_all : ∀ n : Nat, n < 4096 → (rgB (e1 n) && rgB (e2 (e1 n)) && rgB (e3a (e2 (e1 n))) && rgB (e4 (e3 (e2 (e1 n)))) && rgB (e5 (e4 (e3 (e2 (e1 n))))) && decide (e5 (e4 (e3 (e2 (e1 n)))) % 64 = pcI n)) = true := by decide +kernel
theorem pu_bitCountI {σ : St} {f : FI} {g : FL} {x : Int} (h : 0 ≤ x ∧ x < 4096) : Ex mt 0 312 (il σ f g) [vI x] (il σ f g, [vI (pcI x)]) := by
  obtain ⟨n, rfl⟩ := Int.eq_ofNat_of_zero_le h.1
  have q := bcI_all n (by omega)
  simp only [Bool.and_eq_true, rgB_iff, decide_eq_true_eq] at q
  exact bk_J6_bitCount_0f7a4_0 ⟨⟨q.1.1.1.1.1, q.1.1.1.1.2, q.1.1.1.2, q.1.1.2, q.1.2⟩, congrArg (fun v : Int => ((il σ f g), [vI v])) q.2.symm⟩
