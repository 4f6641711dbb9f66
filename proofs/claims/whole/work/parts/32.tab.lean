/-! tables: rows that match, what they do -/
theorem Gx.letF {mt : Nat → Nat × (Nat → List LI)} {d : Nat} {M : Nat → List LI} {σ : St} {g : FL} {cs : List LI} {ls : Ls} {st : List Vl} {r : St × List Vl} {e : FI} (k : ∀ f', f' = e → Gx mt d M (il σ f' g) cs ls st r) : Gx mt d M (il σ e g) cs ls st r := k e rfl
theorem Gx.letG {mt : Nat → Nat × (Nat → List LI)} {d : Nat} {M : Nat → List LI} {σ : St} {f : FI} {cs : List LI} {ls : Ls} {st : List Vl} {r : St × List Vl} {e : FL} (k : ∀ g', g' = e → Gx mt d M (il σ f g') cs ls st r) : Gx mt d M (il σ f e) cs ls st r := k e rfl
abbrev matP (m p : Int) : Prop := (m / 25 = 0 ∨ m / 25 = p / 16 % 4 + 1) ∧ (m / 5 % 5 = 0 ∨ m / 5 % 5 = p / 4 % 4 + 1) ∧ (m % 5 = 0 ∨ m % 5 = p % 4 + 1)
def set1 (s f p : Int) : Int := if tO s f = 0 then p else chg p f (tO s f - 1)
def setF (s p : Int) : Int := set1 s 2 (set1 s 1 (set1 s 0 p))
theorem chg_rg {p f v : Int} (hp : 0 ≤ p ∧ p < 512) (hv : 0 ≤ v ∧ v < 4) (hf : f = 0 ∨ f = 1 ∨ f = 2) : (0 ≤ chg p f v ∧ chg p f v < 512) ∧ chg p f v / 64 = p / 64 := by
  rcases hf with rfl | rfl | rfl <;> simp [chg] <;> omega
theorem tO_rg {s : Int} (h : 0 ≤ s ∧ s ≤ 124) (f : Int) : 0 ≤ tO s f ∧ tO s f ≤ 4 := by
  unfold tO
  split
  · omega
  · split <;> omega
theorem set1_rg {s f p : Int} (hs : 0 ≤ s ∧ s ≤ 124) (hp : 0 ≤ p ∧ p < 512) (hf : f = 0 ∨ f = 1 ∨ f = 2) : (0 ≤ set1 s f p ∧ set1 s f p < 512) ∧ set1 s f p / 64 = p / 64 := by
  unfold set1
  have := tO_rg hs f
  split
  · exact ⟨hp, rfl⟩
  · exact chg_rg hp (by omega) hf
theorem setF_rg {s p : Int} (hs : 0 ≤ s ∧ s ≤ 124) (hp : 0 ≤ p ∧ p < 512) : (0 ≤ setF s p ∧ setF s p < 512) ∧ setF s p / 64 = p / 64 := by
  have a := set1_rg hs hp (f := 0) (by decide)
  have b := set1_rg hs a.1 (f := 1) (by decide)
  have c := set1_rg hs b.1 (f := 2) (by decide)
  exact ⟨c.1, by unfold setF; rw [c.2, b.2, a.2]⟩
def A_X7_isMatch_2 (σ : St) (f : FI) (g : FL) (x0 : Int) (x1 : Int) (x2 : Int) (r : St × List Vl) : Prop := ∀ (y3 : Option Vl), Gx mt 1 cd_X7_isMatch (il σ f g) (cd_X7_isMatch 2) [some (vI x0), some (vI x1), some (vI x2), y3] [] r
theorem bk_X7_isMatch_0 {σ : St} {f : FI} {g : FL} {x0 : Int} {x1 : Int} {r : St × List Vl}  (h : (A_X7_isMatch_2 σ f g x0 x1 0 r)) : Ex mt 1 101 (il σ f g) [vI x0, vI x1] r := Ex.mk mt_101 (show Gx mt 1 cd_X7_isMatch (il σ f g) b_X7_isMatch_0 [some (vI x0), some (vI x1), none, none] [] r from (go_pushI rfl (go_stoI rfl rfl (go_fall (h _)))))
theorem bk_X7_isMatch_2 {σ : St} {f : FI} {g : FL} {x0 : Int} {x1 : Int} {x2 : Int} {r : St × List Vl}  (h : ((3 ≤ x2 → (r = ((il σ f g), [vI 1]))) ∧ (¬ 3 ≤ x2 → (0 ≤ x0) ∧ (((tO x0 x2) = 0 → ((-2147483648 ≤ (x2 + 1) ∧ (x2 + 1) ≤ 2147483647)) ∧ (A_X7_isMatch_2 σ f g x0 x1 (x2 + 1) r)) ∧ (¬ (tO x0 x2) = 0 → ((-2147483648 ≤ ((tO x0 x2) - 1) ∧ ((tO x0 x2) - 1) ≤ 2147483647) ∧ Stat σ f ∧ (-2147483648 ≤ x1 ∧ x1 ≤ 2147483647) ∧ (0 ≤ x2 ∧ x2 < 4)) ∧ ((((tO x0 x2) - 1) = (vO x1 x2) → ((-2147483648 ≤ (x2 + 1) ∧ (x2 + 1) ≤ 2147483647)) ∧ (A_X7_isMatch_2 σ f g x0 x1 (x2 + 1) r)) ∧ (¬ ((tO x0 x2) - 1) = (vO x1 x2) → (r = ((il σ f g), [vI 0]))))))))) : A_X7_isMatch_2 σ f g x0 x1 x2 r := fun y3 => (show Gx mt 1 cd_X7_isMatch (il σ f g) b_X7_isMatch_2 [some (vI x0), some (vI x1), some (vI x2), y3] [] r from (go_loadI rfl (go_pushI rfl (gq_icmp_ge (fun e3 => have h1 := h.1 e3; (go_pushI rfl (h1 ▸ (gq_retZ ⟨by decide, by decide⟩)))) (fun e3 => have h2 := h.2 e3; (go_loadI rfl (go_loadI rfl (go_callS rfl rfl rfl (pu_toldOf h2.1) (go_stoI rfl rfl (go_loadI rfl (gq_if_eq (fun e6 => have h4 := h2.2.1 e6; (go_iinc rfl h4.1 rfl (go_goto (h4.2 _)))) (fun e6 => have h5 := h2.2.2 e6; (go_loadI rfl (go_pushI rfl (go_isub h5.1.1 (go_loadI rfl (go_loadI rfl (go_callS rfl rfl rfl (pu_valueOf h5.1.2.1 h5.1.2.2.1 h5.1.2.2.2) (gq_icmp_eq (fun e9 => have h7 := h5.2.1 e9; (go_iinc rfl h7.1 rfl (go_goto (h7.2 _)))) (fun e9 => have h8 := h5.2.2 e9; (go_pushI rfl (h8 ▸ (gq_retZ ⟨by decide, by decide⟩)))))))))))))))))))))))
theorem bk_X12_matches_0 {σ : St} {f : FI} {g : FL} {x0 : Int} {x1 : Int} {r : St × List Vl}  (h : (0 ≤ x0 ∧ (-2147483648 ≤ x1 ∧ x1 ≤ 2147483647) ∧ (-2147483648 ≤ (fO x1 0) + 1 ∧ (fO x1 0) + 1 ≤ 2147483647)) ∧ ((¬ (((x0 / 25) = 0 ∨ (x0 / 25) = (fO x1 0) + 1)) → (r = ((il σ f g), [vI 0]))) ∧ ((((x0 / 25) = 0 ∨ (x0 / 25) = (fO x1 0) + 1)) → (0 ≤ x0 ∧ 0 ≤ (x0 / 5) ∧ (-2147483648 ≤ x1 ∧ x1 ≤ 2147483647) ∧ (-2147483648 ≤ (fO x1 1) + 1 ∧ (fO x1 1) + 1 ≤ 2147483647)) ∧ ((¬ ((((x0 / 5) % 5) = 0 ∨ ((x0 / 5) % 5) = (fO x1 1) + 1)) → (r = ((il σ f g), [vI 0]))) ∧ (((((x0 / 5) % 5) = 0 ∨ ((x0 / 5) % 5) = (fO x1 1) + 1)) → (0 ≤ x0 ∧ (-2147483648 ≤ x1 ∧ x1 ≤ 2147483647) ∧ (-2147483648 ≤ (fO x1 2) + 1 ∧ (fO x1 2) + 1 ≤ 2147483647)) ∧ ((¬ (((x0 % 5) = 0 ∨ (x0 % 5) = (fO x1 2) + 1)) → (r = ((il σ f g), [vI 0]))) ∧ ((((x0 % 5) = 0 ∨ (x0 % 5) = (fO x1 2) + 1)) → (r = ((il σ f g), [vI 1]))))))))) : Ex mt 1 251 (il σ f g) [vI x0, vI x1] r := Ex.mk mt_251 (show Gx mt 1 cd_X12_matches (il σ f g) b_X12_matches_0 [some (vI x0), some (vI x1)] [] r from (go_loadI rfl (go_pushI rfl (go_idiv ⟨h.1.1, by decide⟩ (go_loadI rfl (go_pushI rfl (go_callS rfl rfl rfl (pu_fieldOf h.1.2.1) (go_callS rfl rfl rfl (pu_isField h.1.2.2) (go_ifb_eq (fun e3 => have h1 := h.2.1 e3; (go_pushI rfl (go_fall (h1 ▸ (gq_retZ ⟨by decide, by decide⟩))))) (fun e3 => have h2 := h.2.2 e3; (go_loadI rfl (go_pushI rfl (go_idiv ⟨h2.1.1, by decide⟩ (go_pushI rfl (go_irem ⟨h2.1.2.1, by decide⟩ (go_loadI rfl (go_pushI rfl (go_callS rfl rfl rfl (pu_fieldOf h2.1.2.2.1) (go_callS rfl rfl rfl (pu_isField h2.1.2.2.2) (go_ifb_eq (fun e6 => have h4 := h2.2.1 e6; (go_pushI rfl (go_fall (h4 ▸ (gq_retZ ⟨by decide, by decide⟩))))) (fun e6 => have h5 := h2.2.2 e6; (go_loadI rfl (go_pushI rfl (go_irem ⟨h5.1.1, by decide⟩ (go_loadI rfl (go_pushI rfl (go_callS rfl rfl rfl (pu_fieldOf h5.1.2.1) (go_callS rfl rfl rfl (pu_isField h5.1.2.2) (go_ifb_eq (fun e9 => have h7 := h5.2.1 e9; (go_pushI rfl (go_fall (h7 ▸ (gq_retZ ⟨by decide, by decide⟩))))) (fun e9 => have h8 := h5.2.2 e9; (go_pushI rfl (go_goto (h8 ▸ (gq_retZ ⟨by decide, by decide⟩))))))))))))))))))))))))))))))))))
theorem bk_X12_set_0 {σ : St} {f : FI} {g : FL} {x0 : Int} {x1 : Int} {r : St × List Vl}  (h : (0 ≤ x0) ∧ (((x0 / 25) ≤ 0 → (0 ≤ x0 ∧ 0 ≤ (x0 / 5)) ∧ ((((x0 / 5) % 5) ≤ 0 → (0 ≤ x0) ∧ (((x0 % 5) ≤ 0 → (r = ((il σ f g), [vI x1]))) ∧ (¬ (x0 % 5) ≤ 0 → (0 ≤ x0 ∧ (-2147483648 ≤ ((x0 % 5) - 1) ∧ ((x0 % 5) - 1) ≤ 2147483647) ∧ (0 ≤ x1 ∧ x1 < 512) ∧ (0 ≤ (2 : Int) ∧ (2 : Int) < 4) ∧ (0 ≤ ((x0 % 5) - 1) ∧ ((x0 % 5) - 1) < 8) ∧ ((2 : Int) = 3 ∨ ((x0 % 5) - 1) < 4)) ∧ (r = ((il σ f g), [vI (chg x1 2 ((x0 % 5) - 1))]))))) ∧ (¬ ((x0 / 5) % 5) ≤ 0 → (0 ≤ x0 ∧ 0 ≤ (x0 / 5) ∧ (-2147483648 ≤ (((x0 / 5) % 5) - 1) ∧ (((x0 / 5) % 5) - 1) ≤ 2147483647) ∧ (0 ≤ x1 ∧ x1 < 512) ∧ (0 ≤ (1 : Int) ∧ (1 : Int) < 4) ∧ (0 ≤ (((x0 / 5) % 5) - 1) ∧ (((x0 / 5) % 5) - 1) < 8) ∧ ((1 : Int) = 3 ∨ (((x0 / 5) % 5) - 1) < 4)) ∧ (0 ≤ x0) ∧ (((x0 % 5) ≤ 0 → (r = ((il σ f g), [vI (chg x1 1 (((x0 / 5) % 5) - 1))]))) ∧ (¬ (x0 % 5) ≤ 0 → (0 ≤ x0 ∧ (-2147483648 ≤ ((x0 % 5) - 1) ∧ ((x0 % 5) - 1) ≤ 2147483647) ∧ (0 ≤ (chg x1 1 (((x0 / 5) % 5) - 1)) ∧ (chg x1 1 (((x0 / 5) % 5) - 1)) < 512) ∧ (0 ≤ (2 : Int) ∧ (2 : Int) < 4) ∧ (0 ≤ ((x0 % 5) - 1) ∧ ((x0 % 5) - 1) < 8) ∧ ((2 : Int) = 3 ∨ ((x0 % 5) - 1) < 4)) ∧ (r = ((il σ f g), [vI (chg (chg x1 1 (((x0 / 5) % 5) - 1)) 2 ((x0 % 5) - 1))]))))))) ∧ (¬ (x0 / 25) ≤ 0 → (0 ≤ x0 ∧ (-2147483648 ≤ ((x0 / 25) - 1) ∧ ((x0 / 25) - 1) ≤ 2147483647) ∧ (0 ≤ x1 ∧ x1 < 512) ∧ (0 ≤ (0 : Int) ∧ (0 : Int) < 4) ∧ (0 ≤ ((x0 / 25) - 1) ∧ ((x0 / 25) - 1) < 8) ∧ ((0 : Int) = 3 ∨ ((x0 / 25) - 1) < 4)) ∧ (0 ≤ x0 ∧ 0 ≤ (x0 / 5)) ∧ ((((x0 / 5) % 5) ≤ 0 → (0 ≤ x0) ∧ (((x0 % 5) ≤ 0 → (r = ((il σ f g), [vI (chg x1 0 ((x0 / 25) - 1))]))) ∧ (¬ (x0 % 5) ≤ 0 → (0 ≤ x0 ∧ (-2147483648 ≤ ((x0 % 5) - 1) ∧ ((x0 % 5) - 1) ≤ 2147483647) ∧ (0 ≤ (chg x1 0 ((x0 / 25) - 1)) ∧ (chg x1 0 ((x0 / 25) - 1)) < 512) ∧ (0 ≤ (2 : Int) ∧ (2 : Int) < 4) ∧ (0 ≤ ((x0 % 5) - 1) ∧ ((x0 % 5) - 1) < 8) ∧ ((2 : Int) = 3 ∨ ((x0 % 5) - 1) < 4)) ∧ (r = ((il σ f g), [vI (chg (chg x1 0 ((x0 / 25) - 1)) 2 ((x0 % 5) - 1))]))))) ∧ (¬ ((x0 / 5) % 5) ≤ 0 → (0 ≤ x0 ∧ 0 ≤ (x0 / 5) ∧ (-2147483648 ≤ (((x0 / 5) % 5) - 1) ∧ (((x0 / 5) % 5) - 1) ≤ 2147483647) ∧ (0 ≤ (chg x1 0 ((x0 / 25) - 1)) ∧ (chg x1 0 ((x0 / 25) - 1)) < 512) ∧ (0 ≤ (1 : Int) ∧ (1 : Int) < 4) ∧ (0 ≤ (((x0 / 5) % 5) - 1) ∧ (((x0 / 5) % 5) - 1) < 8) ∧ ((1 : Int) = 3 ∨ (((x0 / 5) % 5) - 1) < 4)) ∧ (0 ≤ x0) ∧ (((x0 % 5) ≤ 0 → (r = ((il σ f g), [vI (chg (chg x1 0 ((x0 / 25) - 1)) 1 (((x0 / 5) % 5) - 1))]))) ∧ (¬ (x0 % 5) ≤ 0 → (0 ≤ x0 ∧ (-2147483648 ≤ ((x0 % 5) - 1) ∧ ((x0 % 5) - 1) ≤ 2147483647) ∧ (0 ≤ (chg (chg x1 0 ((x0 / 25) - 1)) 1 (((x0 / 5) % 5) - 1)) ∧ (chg (chg x1 0 ((x0 / 25) - 1)) 1 (((x0 / 5) % 5) - 1)) < 512) ∧ (0 ≤ (2 : Int) ∧ (2 : Int) < 4) ∧ (0 ≤ ((x0 % 5) - 1) ∧ ((x0 % 5) - 1) < 8) ∧ ((2 : Int) = 3 ∨ ((x0 % 5) - 1) < 4)) ∧ (r = ((il σ f g), [vI (chg (chg (chg x1 0 ((x0 / 25) - 1)) 1 (((x0 / 5) % 5) - 1)) 2 ((x0 % 5) - 1))]))))))))) : Ex mt 1 252 (il σ f g) [vI x0, vI x1] r := Ex.mk mt_252 (show Gx mt 1 cd_X12_set (il σ f g) b_X12_set_0 [some (vI x0), some (vI x1), none] [] r from (go_loadI rfl (go_pushI rfl (go_idiv ⟨h.1, by decide⟩ (gq_if_le (fun e3 => have h1 := h.2.1 e3; (go_loadI rfl (go_fall (go_stoI rfl rfl (go_loadI rfl (go_pushI rfl (go_idiv ⟨h1.1.1, by decide⟩ (go_pushI rfl (go_irem ⟨h1.1.2, by decide⟩ (gq_if_le (fun e6 => have h4 := h1.2.1 e6; (go_loadI rfl (go_fall (go_stoI rfl rfl (go_loadI rfl (go_pushI rfl (go_irem ⟨h4.1, by decide⟩ (gq_if_le (fun e9 => have h7 := h4.2.1 e9; (go_loadI rfl (go_fall (h7 ▸ gq_retI)))) (fun e9 => have h8 := h4.2.2 e9; (go_loadI rfl (go_pushI rfl (go_loadI rfl (go_pushI rfl (go_irem ⟨h8.1.1, by decide⟩ (go_pushI rfl (go_isub h8.1.2.1 (go_callS rfl rfl rfl (pu_with h8.1.2.2.1 h8.1.2.2.2.1 h8.1.2.2.2.2.1 h8.1.2.2.2.2.2) (go_goto (h8.2 ▸ gq_retI))))))))))))))))))) (fun e6 => have h5 := h1.2.2 e6; (go_loadI rfl (go_pushI rfl (go_loadI rfl (go_pushI rfl (go_idiv ⟨h5.1.1, by decide⟩ (go_pushI rfl (go_irem ⟨h5.1.2.1, by decide⟩ (go_pushI rfl (go_isub h5.1.2.2.1 (go_callS rfl rfl rfl (pu_with h5.1.2.2.2.1 h5.1.2.2.2.2.1 h5.1.2.2.2.2.2.1 h5.1.2.2.2.2.2.2) (go_goto (go_stoI rfl rfl (go_loadI rfl (go_pushI rfl (go_irem ⟨h5.2.1, by decide⟩ (gq_if_le (fun e12 => have h10 := h5.2.2.1 e12; (go_loadI rfl (go_fall (h10 ▸ gq_retI)))) (fun e12 => have h11 := h5.2.2.2 e12; (go_loadI rfl (go_pushI rfl (go_loadI rfl (go_pushI rfl (go_irem ⟨h11.1.1, by decide⟩ (go_pushI rfl (go_isub h11.1.2.1 (go_callS rfl rfl rfl (pu_with h11.1.2.2.1 h11.1.2.2.2.1 h11.1.2.2.2.2.1 h11.1.2.2.2.2.2) (go_goto (h11.2 ▸ gq_retI)))))))))))))))))))))))))))))))))))))) (fun e3 => have h2 := h.2.2 e3; (go_loadI rfl (go_pushI rfl (go_loadI rfl (go_pushI rfl (go_idiv ⟨h2.1.1, by decide⟩ (go_pushI rfl (go_isub h2.1.2.1 (go_callS rfl rfl rfl (pu_with h2.1.2.2.1 h2.1.2.2.2.1 h2.1.2.2.2.2.1 h2.1.2.2.2.2.2) (go_goto (go_stoI rfl rfl (go_loadI rfl (go_pushI rfl (go_idiv ⟨h2.2.1.1, by decide⟩ (go_pushI rfl (go_irem ⟨h2.2.1.2, by decide⟩ (gq_if_le (fun e15 => have h13 := h2.2.2.1 e15; (go_loadI rfl (go_fall (go_stoI rfl rfl (go_loadI rfl (go_pushI rfl (go_irem ⟨h13.1, by decide⟩ (gq_if_le (fun e18 => have h16 := h13.2.1 e18; (go_loadI rfl (go_fall (h16 ▸ gq_retI)))) (fun e18 => have h17 := h13.2.2 e18; (go_loadI rfl (go_pushI rfl (go_loadI rfl (go_pushI rfl (go_irem ⟨h17.1.1, by decide⟩ (go_pushI rfl (go_isub h17.1.2.1 (go_callS rfl rfl rfl (pu_with h17.1.2.2.1 h17.1.2.2.2.1 h17.1.2.2.2.2.1 h17.1.2.2.2.2.2) (go_goto (h17.2 ▸ gq_retI))))))))))))))))))) (fun e15 => have h14 := h2.2.2.2 e15; (go_loadI rfl (go_pushI rfl (go_loadI rfl (go_pushI rfl (go_idiv ⟨h14.1.1, by decide⟩ (go_pushI rfl (go_irem ⟨h14.1.2.1, by decide⟩ (go_pushI rfl (go_isub h14.1.2.2.1 (go_callS rfl rfl rfl (pu_with h14.1.2.2.2.1 h14.1.2.2.2.2.1 h14.1.2.2.2.2.2.1 h14.1.2.2.2.2.2.2) (go_goto (go_stoI rfl rfl (go_loadI rfl (go_pushI rfl (go_irem ⟨h14.2.1, by decide⟩ (gq_if_le (fun e21 => have h19 := h14.2.2.1 e21; (go_loadI rfl (go_fall (h19 ▸ gq_retI)))) (fun e21 => have h20 := h14.2.2.2 e21; (go_loadI rfl (go_pushI rfl (go_loadI rfl (go_pushI rfl (go_irem ⟨h20.1.1, by decide⟩ (go_pushI rfl (go_isub h20.1.2.1 (go_callS rfl rfl rfl (pu_with h20.1.2.2.1 h20.1.2.2.2.1 h20.1.2.2.2.2.1 h20.1.2.2.2.2.2) (go_goto (h20.2 ▸ gq_retI))))))))))))))))))))))))))))))))))))))))))))))))))
theorem bk_X12_isTable_0 {σ : St} {f : FI} {g : FL} {x0 : Int} {x1 : Int} {r : St × List Vl}  (h : ((-2147483648 ≤ x0 ∧ x0 ≤ 2147483647)) ∧ ((¬ ((0 ≤ x0 ∧ x0 ≤ 1)) → (r = ((il σ f g), [vI 0]))) ∧ (((0 ≤ x0 ∧ x0 ≤ 1)) → ((-2147483648 ≤ x1 ∧ x1 ≤ 2147483647)) ∧ ((¬ ((0 ≤ x1 ∧ x1 ≤ 7)) → (r = ((il σ f g), [vI 0]))) ∧ (((0 ≤ x1 ∧ x1 ≤ 7)) → (r = ((il σ f g), [vI 1]))))))) : Ex mt 2 242 (il σ f g) [vI x0, vI x1] r := Ex.mk mt_242 (show Gx mt 2 cd_X12_isTable (il σ f g) b_X12_isTable_0 [some (vI x0), some (vI x1)] [] r from (go_loadI rfl (go_i2l (go_pushL rfl (go_pushL rfl (go_callS rfl rfl rfl (pu_in h.1 ⟨by decide, by decide⟩ ⟨by decide, by decide⟩ (v := x0) (lo := 0) (hi := 1)) (go_ifb_eq (fun e3 => have h1 := h.2.1 e3; (go_pushI rfl (go_fall (h1 ▸ (gq_retZ ⟨by decide, by decide⟩))))) (fun e3 => have h2 := h.2.2 e3; (go_loadI rfl (go_callS rfl rfl rfl (pu_isPlaceM h2.1) (go_ifb_eq (fun e6 => have h4 := h2.2.1 e6; (go_pushI rfl (go_fall (h4 ▸ (gq_retZ ⟨by decide, by decide⟩))))) (fun e6 => have h5 := h2.2.2 e6; (go_pushI rfl (go_goto (h5 ▸ (gq_retZ ⟨by decide, by decide⟩))))))))))))))))
theorem pu_isMatch {σ : St} {f : FI} {g : FL} {m p : Int} (hS : Stat σ f) (h1 : 0 ≤ m ∧ m ≤ 124) (h2 : 0 ≤ p ∧ p < 64) : Ex mt 1 101 (il σ f g) [vI m, vI p] (il σ f g, [vI (bI (matP m p))]) := by
  have stp : ∀ (k : Int) (r : St × List Vl), (0 ≤ k ∧ k < 3) → ((tO m k = 0 ∨ tO m k - 1 = vO p k) → A_X7_isMatch_2 σ f g m p (k + 1) r) → (¬ (tO m k = 0 ∨ tO m k - 1 = vO p k) → r = (il σ f g, [vI 0])) → A_X7_isMatch_2 σ f g m p k r := by
    intro k r hk k1 k2
    have := tO_rg h1 k
    refine bk_X7_isMatch_2 ⟨fun e => absurd e (by omega), fun _ => ⟨h1.1, fun e => ⟨by omega, k1 (Or.inl e)⟩, fun e => ⟨⟨by omega, hS, by omega, by omega⟩, fun e2 => ⟨by omega, k1 (Or.inr e2)⟩, fun e2 => k2 fun q => by rcases q with q | q <;> contradiction⟩⟩⟩
  have c0 : (tO m 0 = 0 ∨ tO m 0 - 1 = vO p 0) ↔ (m / 25 = 0 ∨ m / 25 = p / 16 % 4 + 1) := by simp [tO, vO]; omega
  have c1 : (tO m 1 = 0 ∨ tO m 1 - 1 = vO p 1) ↔ (m / 5 % 5 = 0 ∨ m / 5 % 5 = p / 4 % 4 + 1) := by simp [tO, vO]; omega
  have c2 : (tO m 2 = 0 ∨ tO m 2 - 1 = vO p 2) ↔ (m % 5 = 0 ∨ m % 5 = p % 4 + 1) := by simp [tO, vO]; omega
  refine bk_X7_isMatch_0 (stp 0 _ (by decide) (fun q0 => stp 1 _ (by decide) (fun q1 => stp 2 _ (by decide) (fun q2 => bk_X7_isMatch_2 ⟨fun _ => ?_, fun e => absurd (by decide) e⟩) fun n => ?_) fun n => ?_) fun n => ?_)
  · rw [bI_t ⟨c0.mp q0, c1.mp q1, c2.mp q2⟩]
  · rw [bI_f fun z => n (c2.mpr z.2.2)]
  · rw [bI_f fun z => n (c1.mpr z.2.1)]
  · rw [bI_f fun z => n (c0.mpr z.1)]
theorem pu_matches {σ : St} {f : FI} {g : FL} {m p : Int} (h1 : 0 ≤ m ∧ m ≤ 124) (h2 : 0 ≤ p ∧ p < 512) : Ex mt 1 251 (il σ f g) [vI m, vI p] (il σ f g, [vI (bI (matP m p))]) := by
  have f0 : fO p 0 = p / 16 % 4 := rfl
  have f1 : fO p 1 = p / 4 % 4 := rfl
  have f2 : fO p 2 = p % 4 := rfl
  refine bk_X12_matches_0 ?_
  rw [f0, f1, f2]
  refine ⟨⟨h1.1, by omega, by omega⟩, fun e => ?_, fun e0 => ⟨⟨h1.1, by omega, by omega, by omega⟩, fun e => ?_, fun e1 => ⟨⟨h1.1, by omega, by omega⟩, fun e => ?_, fun e2 => ?_⟩⟩⟩
  · rw [bI_f fun z => e z.1]
  · rw [bI_f fun z => e z.2.1]
  · rw [bI_f fun z => e z.2.2]
  · rw [bI_t ⟨e0, e1, e2⟩]
theorem pu_set {σ : St} {f : FI} {g : FL} {s p : Int} (h1 : 0 ≤ s ∧ s ≤ 124) (h2 : 0 ≤ p ∧ p < 512) : Ex mt 1 252 (il σ f g) [vI s, vI p] (il σ f g, [vI (setF s p)]) := by
  have t0 : tO s 0 = s / 25 := rfl
  have t1 : tO s 1 = s / 5 % 5 := rfl
  have t2 : tO s 2 = s % 5 := rfl
  have r0 : ¬ s / 25 ≤ 0 → (0 ≤ chg p 0 (s / 25 - 1) ∧ chg p 0 (s / 25 - 1) < 512) := fun e => (chg_rg h2 (by omega) (by decide)).1
  have r1 : ∀ q, (0 ≤ q ∧ q < 512) → ¬ s / 5 % 5 ≤ 0 → (0 ≤ chg q 1 (s / 5 % 5 - 1) ∧ chg q 1 (s / 5 % 5 - 1) < 512) := fun q hq e => (chg_rg hq (by omega) (by decide)).1
  refine bk_X12_set_0 ?_
  unfold setF set1
  rw [t0, t1, t2]
  refine ⟨h1.1, fun a => ⟨by omega, fun b => ⟨by omega, fun c => ?_, fun c => ⟨⟨by omega, by omega, h2, by decide, by omega, by omega⟩, ?_⟩⟩, fun b => ⟨⟨by omega, by omega, by omega, h2, by decide, by omega, by omega⟩, by omega, fun c => ?_, fun c => ⟨⟨by omega, by omega, r1 p h2 b, by decide, by omega, by omega⟩, ?_⟩⟩⟩, fun a => ⟨⟨by omega, by omega, h2, by decide, by omega, by omega⟩, by omega, fun b => ⟨by omega, fun c => ?_, fun c => ⟨⟨by omega, by omega, r0 a, by decide, by omega, by omega⟩, ?_⟩⟩, fun b => ⟨⟨by omega, by omega, by omega, r0 a, by decide, by omega, by omega⟩, by omega, fun c => ?_, fun c => ⟨⟨by omega, by omega, r1 _ (r0 a) b, by decide, by omega, by omega⟩, ?_⟩⟩⟩⟩
  · rw [if_pos (by omega), if_pos (by omega), if_pos (by omega)]
  · rw [if_neg (by omega), if_pos (by omega), if_pos (by omega)]
  · rw [if_pos (by omega), if_neg (by omega), if_pos (by omega)]
  · rw [if_neg (by omega), if_neg (by omega), if_pos (by omega)]
  · rw [if_pos (by omega), if_pos (by omega), if_neg (by omega)]
  · rw [if_neg (by omega), if_pos (by omega), if_neg (by omega)]
  · rw [if_pos (by omega), if_neg (by omega), if_neg (by omega)]
  · rw [if_neg (by omega), if_neg (by omega), if_neg (by omega)]
theorem pu_isTable {σ : St} {f : FI} {g : FL} {x y : Int} (h1 : -2147483648 ≤ x ∧ x ≤ 2147483647) (h2 : -2147483648 ≤ y ∧ y ≤ 2147483647) : Ex mt 2 242 (il σ f g) [vI x, vI y] (il σ f g, [vI (bI ((0 ≤ x ∧ x ≤ 1) ∧ (0 ≤ y ∧ y ≤ 7)))]) :=
  bk_X12_isTable_0 ⟨h1, fun e => by rw [bI_f fun z => e z.1], fun e => ⟨h2, fun e2 => by rw [bI_f fun z => e2 z.2], fun e2 => by rw [bI_t ⟨e, e2⟩]⟩⟩
/-- the first of n rows that matches -/
def frF (mt : Nat → Int) (p : Int) : Nat → Int
  | 0 => -1
  | n + 1 => if frF mt p n = -1 then (if matP (mt n) p then (n : Int) else -1) else frF mt p n
/-- what is done to a packet there: 64 * TO + the fields, or lost -/
def deF (st to : Nat → Int) (p r : Int) : Int := if r = -1 then -2 else if to r.toNat = 9 then -2 else 64 * to r.toNat + setF (st r.toNat) p
theorem frF_rg (mt : Nat → Int) (p : Int) : ∀ n, -1 ≤ frF mt p n ∧ frF mt p n < n ∨ frF mt p n = -1 ∧ n = 0
  | 0 => Or.inr ⟨rfl, rfl⟩
  | n + 1 => by
    left
    rw [frF]
    have := frF_rg mt p n
    split
    · split <;> omega
    · omega
theorem frF_spec (mt : Nat → Int) (p : Int) : ∀ n, (frF mt p n = -1 ∧ ∀ k, k < n → ¬ matP (mt k) p) ∨ ∃ k : Nat, frF mt p n = k ∧ k < n ∧ matP (mt k) p ∧ ∀ j, j < k → ¬ matP (mt j) p
  | 0 => Or.inl ⟨rfl, fun k hk => absurd hk (Nat.not_lt_zero k)⟩
  | n + 1 => by
    rw [frF]
    rcases frF_spec mt p n with ⟨h1, h2⟩ | ⟨k, h1, h2, h3, h4⟩
    · rw [if_pos h1]
      by_cases q : matP (mt n) p
      · rw [if_pos q]
        exact Or.inr ⟨n, rfl, by omega, q, h2⟩
      · rw [if_neg q]
        refine Or.inl ⟨rfl, fun k hk => ?_⟩
        by_cases e : k = n
        · rw [e]; exact q
        · exact h2 k (by omega)
    · rw [if_neg (by omega)]
      exact Or.inr ⟨k, h1, by omega, h3, h4⟩
theorem frF_cong {mt mt' : Nat → Int} {p p' : Int} : ∀ {n : Nat}, (∀ k, k < n → mt k = mt' k) → (∀ m, matP m p ↔ matP m p') → frF mt p n = frF mt' p' n
  | 0, _, _ => rfl
  | n + 1, h, hp => by
    rw [frF, frF, frF_cong (n := n) (fun k hk => h k (by omega)) hp, h n (by omega)]
    by_cases q : matP (mt' n) p
    · rw [if_pos q, if_pos ((hp _).mp q)]
    · rw [if_neg q, if_neg (fun z => q ((hp _).mpr z))]
def A_X7_deedOf_19 (σ : St) (f : FI) (g : FL) (a : Nat) (x1 : Int) (x3 : Int) (x4 : Int) (r : St × List Vl) : Prop := ∀ (y2 : Int) (y5 : Option Vl), Gx mt 1 cd_X7_deedOf (il σ f g) (cd_X7_deedOf 19) [some (vR 7 (some a)), some (vI x1), some (vI y2), some (vI x3), some (vI x4), y5] [] r
theorem bk_X7_deedOf_0 {σ : St} {f : FI} {g : FL} {a : Nat} {x1 : Int} {x2 : Int} {r : St × List Vl} (hs : Sh7 σ a) (h : ((0 ≤ x1 ∧ x1 < 12)) ∧ ((¬ (f (a + 3) ((x1).toNat)) = 9 → (A_X7_deedOf_19 σ f g a x1 x2 0 r)) ∧ ((f (a + 3) ((x1).toNat)) = 9 → (r = ((il σ f g), [vI (-2)]))))) : Ex mt 1 102 (il σ f g) [vR 7 (some a), vI x1, vI x2] r := Ex.mk mt_102 (show Gx mt 1 cd_X7_deedOf (il σ f g) b_X7_deedOf_0 [some (vR 7 (some a)), some (vI x1), some (vI x2), none, none, none] [] r from (go_loadA rfl (gi_getR (Sh7.r2 hs) (go_loadI rfl (gi_iald (inl_ (Sh7.l2 hs) h.1) (go_pushI rfl (gq_icmp_ne (fun e3 => have h1 := h.2.1 e3; (go_loadI rfl (go_stoI rfl rfl (go_pushI rfl (go_stoI rfl rfl (go_fall (h1 _ _))))))) (fun e3 => have h2 := h.2.2 e3; (go_pushI rfl (h2 ▸ gq_retI))))))))))
theorem bk_X7_deedOf_19 {σ : St} {f : FI} {g : FL} {a : Nat} {x1 : Int} {x3 : Int} {x4 : Int} {r : St × List Vl} (hs : Sh7 σ a) (h : ((3 ≤ x4 → ((0 ≤ x1 ∧ x1 < 12) ∧ (-2147483648 ≤ (64 * (f (a + 3) ((x1).toNat))) ∧ (64 * (f (a + 3) ((x1).toNat))) ≤ 2147483647) ∧ (-2147483648 ≤ ((64 * (f (a + 3) ((x1).toNat))) + x3) ∧ ((64 * (f (a + 3) ((x1).toNat))) + x3) ≤ 2147483647)) ∧ (r = ((il σ f g), [vI ((64 * (f (a + 3) ((x1).toNat))) + x3)]))) ∧ (¬ 3 ≤ x4 → ((0 ≤ x1 ∧ x1 < 12) ∧ 0 ≤ (f (a + 2) ((x1).toNat))) ∧ (((tO (f (a + 2) ((x1).toNat)) x4) = 0 → ((-2147483648 ≤ (x4 + 1) ∧ (x4 + 1) ≤ 2147483647)) ∧ (A_X7_deedOf_19 σ f g a x1 x3 (x4 + 1) r)) ∧ (¬ (tO (f (a + 2) ((x1).toNat)) x4) = 0 → ((-2147483648 ≤ ((tO (f (a + 2) ((x1).toNat)) x4) - 1) ∧ ((tO (f (a + 2) ((x1).toNat)) x4) - 1) ≤ 2147483647) ∧ Stat σ f ∧ (0 ≤ x3 ∧ x3 < 512) ∧ (0 ≤ x4 ∧ x4 < 4) ∧ (0 ≤ ((tO (f (a + 2) ((x1).toNat)) x4) - 1) ∧ ((tO (f (a + 2) ((x1).toNat)) x4) - 1) < 8) ∧ (x4 = 3 ∨ ((tO (f (a + 2) ((x1).toNat)) x4) - 1) < 4)) ∧ ((-2147483648 ≤ (x4 + 1) ∧ (x4 + 1) ≤ 2147483647)) ∧ (A_X7_deedOf_19 σ f g a x1 (chg x3 x4 ((tO (f (a + 2) ((x1).toNat)) x4) - 1)) (x4 + 1) r)))))) : A_X7_deedOf_19 σ f g a x1 x3 x4 r := fun y2 y5 => (show Gx mt 1 cd_X7_deedOf (il σ f g) b_X7_deedOf_19 [some (vR 7 (some a)), some (vI x1), some (vI y2), some (vI x3), some (vI x4), y5] [] r from (go_loadI rfl (go_pushI rfl (gq_icmp_ge (fun e3 => have h1 := h.1 e3; (go_pushI rfl (go_loadA rfl (gi_getR (Sh7.r2 hs) (go_loadI rfl (gi_iald (inl_ (Sh7.l2 hs) h1.1.1) (go_imul h1.1.2.1 (go_loadI rfl (go_iadd h1.1.2.2 (h1.2 ▸ gq_retI)))))))))) (fun e3 => have h2 := h.2 e3; (go_loadA rfl (gi_getR (Sh7.r1 hs) (go_loadI rfl (gi_iald (inl_ (Sh7.l1 hs) h2.1.1) (go_loadI rfl (go_callS rfl rfl rfl (pu_toldOf h2.1.2) (go_stoI rfl rfl (go_loadI rfl (gq_if_eq (fun e6 => have h4 := h2.2.1 e6; (go_iinc rfl h4.1 rfl (go_goto (h4.2 _ _)))) (fun e6 => have h5 := h2.2.2 e6; (go_loadI rfl (go_loadI rfl (go_loadI rfl (go_pushI rfl (go_isub h5.1.1 (go_callS rfl rfl rfl (pu_changed h5.1.2.1 h5.1.2.2.1 h5.1.2.2.2.1 h5.1.2.2.2.2.1 h5.1.2.2.2.2.2) (go_stoI rfl rfl (go_fall (go_iinc rfl h5.2.1 rfl (go_goto (h5.2.2 _ _))))))))))))))))))))))))))
theorem x_deedOf {σ : St} {f : FI} {g : FL} {a : Nat} {r p : Int} (hs : Sh7 σ a) (hS : Stat σ f) (hr : 0 ≤ r ∧ r < 12) (hp : 0 ≤ p ∧ p < 64) (hc : 0 ≤ f (a + 2) r.toNat ∧ f (a + 2) r.toNat ≤ 124) (ht : 0 ≤ f (a + 3) r.toNat ∧ f (a + 3) r.toNat ≤ 9) : Ex mt 1 102 (il σ f g) [vR 7 (some a), vI r, vI p] (il σ f g, [vI (deF (f (a + 2)) (f (a + 3)) p r)]) := by
  have stp : ∀ (k q : Int) (z : St × List Vl), (k = 0 ∨ k = 1 ∨ k = 2) → (0 ≤ q ∧ q < 512) → A_X7_deedOf_19 σ f g a r (set1 (f (a + 2) r.toNat) k q) (k + 1) z → A_X7_deedOf_19 σ f g a r q k z := by
    intro k q z hk hq kk
    have := tO_rg hc k
    unfold set1 at kk
    refine bk_X7_deedOf_19 hs ⟨fun e => absurd e (by omega), fun _ => ⟨⟨hr, hc.1⟩, fun e => ⟨by omega, ?_⟩, fun e => ⟨⟨by omega, hS, hq, by omega, by omega, by omega⟩, by omega, ?_⟩⟩⟩
    · rw [if_pos e] at kk
      exact kk
    · rw [if_neg e] at kk
      exact kk
  have h5 : 0 ≤ p ∧ p < 512 := by omega
  have a0 := set1_rg hc h5 (f := 0) (by decide)
  have a1 := set1_rg hc a0.1 (f := 1) (by decide)
  have a2 := set1_rg hc a1.1 (f := 2) (by decide)
  have hne : ¬ r = -1 := by omega
  refine bk_X7_deedOf_0 hs ⟨hr, fun e => stp 0 p _ (by decide) h5 (stp 1 _ _ (by decide) a0.1 (stp 2 _ _ (by decide) a1.1 (bk_X7_deedOf_19 hs ⟨fun _ => ⟨⟨hr, by omega, by omega⟩, ?_⟩, fun e => absurd (by decide) e⟩))), fun e => ?_⟩
  · unfold deF
    rw [if_neg hne, if_neg e]
    rfl
  · unfold deF
    rw [if_neg hne, if_pos e]
