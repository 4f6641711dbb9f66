/-! gap: back tick by tick (class) -/
def A_X5_goBackTo_2 (σ : St) (f : FI) (g : FL) (n : Nat) (x1 : Int) (x2 : Int) (r : St × List Vl) : Prop := ∀ (y3 : Option Vl) (y4 : Option Vl), Gx mt 2 cd_X5_goBackTo (il σ f g) (cd_X5_goBackTo 2) [some (vR 5 (some (n + 101))), some (vI x1), some (vI x2), y3, y4] [] r
theorem bk_X5_goBackTo_0 {σ : St} {f : FI} {g : FL} {n : Nat} {x1 : Int} {r : St × List Vl} (hs : Sh5 σ n) (h : (A_X5_goBackTo_2 σ f g n x1 0 r)) : Ex mt 2 84 (il σ f g) [vR 5 (some (n + 101)), vI x1] r := Ex.mk mt_84 (show Gx mt 2 cd_X5_goBackTo (il σ f g) b_X5_goBackTo_0 [some (vR 5 (some (n + 101))), some (vI x1), none, none, none] [] r from (go_pushI rfl (go_stoI rfl rfl (go_fall (h _ _)))))
theorem bk_X5_goBackTo_2 {σ : St} {f : FI} {g : FL} {n : Nat} {x1 : Int} {x2 : Int} {r : St × List Vl} (hs : Sh5 σ n) (h : ((512 ≤ x2 → (r = ((il σ f g), []))) ∧ (¬ 512 ≤ x2 → ((0 ≤ x2 ∧ x2 < 512) ∧ (-2147483648 ≤ x1 ∧ x1 ≤ 2147483647)) ∧ (∃ (f4 : FI) (g5 : FL) (v7 : Int), Ex mt 1 39 (il σ f g) [vR 3 (some n), vI x2, vI (x1 / p2 (x2 / 64) % 2)] ((il σ f4 g5), [vI v7]) ∧ (∃ q8, gR σ (n + 101) 10 = some q8 ∧ ((-2147483648 ≤ (2 * x2) ∧ (2 * x2) ≤ 2147483647)) ∧ ((¬ ((0 ≤ v7 ∧ v7 < 512)) → (v7 ≤ 2147483647) ∧ ((0 ≤ (2 * x2) ∧ (2 * x2) < (ln σ q8 : Int))) ∧ (∃ q13, gR σ (n + 101) 10 = some q13 ∧ ((-2147483648 ≤ (2 * x2) ∧ (2 * x2) ≤ 2147483647) ∧ (-2147483648 ≤ ((2 * x2) + 1) ∧ ((2 * x2) + 1) ≤ 2147483647)) ∧ ((¬ ((0 ≤ v7 ∧ v7 < 512)) → ((0 ≤ ((2 * x2) + 1) ∧ ((2 * x2) + 1) < (ln σ q13 : Int)) ∧ (-2147483648 ≤ (x2 + 1) ∧ (x2 + 1) ≤ 2147483647)) ∧ (A_X5_goBackTo_2 σ (up2 (up2 f4 q8 (((2 * x2)).toNat) (endB_ v7)) q13 ((((2 * x2) + 1)).toNat) 1) g5 n x1 (x2 + 1) r)) ∧ (((0 ≤ v7 ∧ v7 < 512)) → (∃ q18, gR σ (n + 101) 9 = some q18 ∧ ((-2147483648 ≤ (2 * v7) ∧ (2 * v7) ≤ 2147483647) ∧ (-2147483648 ≤ ((2 * v7) + 1) ∧ ((2 * v7) + 1) ≤ 2147483647) ∧ (0 ≤ ((2 * v7) + 1) ∧ ((2 * v7) + 1) < (ln σ q18 : Int)) ∧ (-2147483648 ≤ ((iMin ((up2 f4 q8 (((2 * x2)).toNat) (endB_ v7)) q18 ((((2 * v7) + 1)).toNat)) 100) + 1) ∧ ((iMin ((up2 f4 q8 (((2 * x2)).toNat) (endB_ v7)) q18 ((((2 * v7) + 1)).toNat)) 100) + 1) ≤ 2147483647)) ∧ ((0 ≤ ((2 * x2) + 1) ∧ ((2 * x2) + 1) < (ln σ q13 : Int)) ∧ (-2147483648 ≤ (x2 + 1) ∧ (x2 + 1) ≤ 2147483647)) ∧ (A_X5_goBackTo_2 σ (up2 (up2 f4 q8 (((2 * x2)).toNat) (endB_ v7)) q13 ((((2 * x2) + 1)).toNat) ((iMin ((up2 f4 q8 (((2 * x2)).toNat) (endB_ v7)) q18 ((((2 * v7) + 1)).toNat)) 100) + 1)) g5 n x1 (x2 + 1) r)))))) ∧ (((0 ≤ v7 ∧ v7 < 512)) → (∃ q20, gR σ (n + 101) 9 = some q20 ∧ ((-2147483648 ≤ (2 * v7) ∧ (2 * v7) ≤ 2147483647) ∧ (0 ≤ (2 * v7) ∧ (2 * v7) < (ln σ q20 : Int))) ∧ ((0 ≤ (2 * x2) ∧ (2 * x2) < (ln σ q8 : Int))) ∧ (∃ q22, gR σ (n + 101) 10 = some q22 ∧ ((-2147483648 ≤ (2 * x2) ∧ (2 * x2) ≤ 2147483647) ∧ (-2147483648 ≤ ((2 * x2) + 1) ∧ ((2 * x2) + 1) ≤ 2147483647)) ∧ ((¬ ((0 ≤ v7 ∧ v7 < 512)) → ((0 ≤ ((2 * x2) + 1) ∧ ((2 * x2) + 1) < (ln σ q22 : Int)) ∧ (-2147483648 ≤ (x2 + 1) ∧ (x2 + 1) ≤ 2147483647)) ∧ (A_X5_goBackTo_2 σ (up2 (up2 f4 q8 (((2 * x2)).toNat) (f4 q20 (((2 * v7)).toNat))) q22 ((((2 * x2) + 1)).toNat) 1) g5 n x1 (x2 + 1) r)) ∧ (((0 ≤ v7 ∧ v7 < 512)) → (∃ q27, gR σ (n + 101) 9 = some q27 ∧ ((-2147483648 ≤ (2 * v7) ∧ (2 * v7) ≤ 2147483647) ∧ (-2147483648 ≤ ((2 * v7) + 1) ∧ ((2 * v7) + 1) ≤ 2147483647) ∧ (0 ≤ ((2 * v7) + 1) ∧ ((2 * v7) + 1) < (ln σ q27 : Int)) ∧ (-2147483648 ≤ ((iMin ((up2 f4 q8 (((2 * x2)).toNat) (f4 q20 (((2 * v7)).toNat))) q27 ((((2 * v7) + 1)).toNat)) 100) + 1) ∧ ((iMin ((up2 f4 q8 (((2 * x2)).toNat) (f4 q20 (((2 * v7)).toNat))) q27 ((((2 * v7) + 1)).toNat)) 100) + 1) ≤ 2147483647)) ∧ ((0 ≤ ((2 * x2) + 1) ∧ ((2 * x2) + 1) < (ln σ q22 : Int)) ∧ (-2147483648 ≤ (x2 + 1) ∧ (x2 + 1) ≤ 2147483647)) ∧ (A_X5_goBackTo_2 σ (up2 (up2 f4 q8 (((2 * x2)).toNat) (f4 q20 (((2 * v7)).toNat))) q22 ((((2 * x2) + 1)).toNat) ((iMin ((up2 f4 q8 (((2 * x2)).toNat) (f4 q20 (((2 * v7)).toNat))) q27 ((((2 * v7) + 1)).toNat)) 100) + 1)) g5 n x1 (x2 + 1) r))))))))))))) : A_X5_goBackTo_2 σ f g n x1 x2 r := fun y3 y4 => (show Gx mt 2 cd_X5_goBackTo (il σ f g) b_X5_goBackTo_2 [some (vR 5 (some (n + 101))), some (vI x1), some (vI x2), y3, y4] [] r from (go_loadI rfl (go_pushI rfl (gq_icmp_ge (fun e3 => have h1 := h.1 e3; (h1 ▸ gq_retV)) (fun e3 => have h2 := h.2 e3; (go_loadA rfl (gi_getR (Sh5.r0 hs) (go_loadI rfl (go_loadI rfl (go_loadI rfl (go_callS rfl rfl rfl (pu_versionOf h2.1.1 h2.1.2) (Exists.elim h2.2 fun f4 w29 => Exists.elim w29 fun g5 w30 => Exists.elim w30 fun v7 h6 => (go_callV rfl rfl rfl h6.1 (go_stoI rfl rfl (go_loadI rfl (go_callS rfl rfl rfl (pu_goesOn) (go_stoI rfl rfl (go_loadA rfl (Exists.elim h6.2 fun q8 h9 => (gi_getR h9.1 (go_pushI rfl (go_loadI rfl (go_imul h9.2.1 (go_loadI rfl (go_ifb_eq (fun e12 => have h10 := h9.2.2.1 e12; (go_loadI rfl (go_callS rfl rfl rfl (pu_endBy h10.1) (go_fall (gi_iast h10.2.1 (go_loadA rfl (Exists.elim h10.2.2 fun q13 h14 => (gi_getR h14.1 (go_pushI rfl (go_loadI rfl (go_imul h14.2.1.1 (go_pushI rfl (go_iadd h14.2.1.2 (go_loadI rfl (go_ifb_eq (fun e17 => have h15 := h14.2.2.1 e17; (go_pushI rfl (go_fall (gi_iast h15.1.1 (go_iinc rfl h15.1.2 rfl (go_goto (h15.2 _ _))))))) (fun e17 => have h16 := h14.2.2.2 e17; (go_loadA rfl (Exists.elim h16 fun q18 h19 => (gi_getR h19.1 (go_pushI rfl (go_loadI rfl (go_imul h19.2.1.1 (go_pushI rfl (go_iadd h19.2.1.2.1 (gi_iald h19.2.1.2.2.1 (go_pushI rfl (go_min rfl (go_pushI rfl (go_iadd h19.2.1.2.2.2 (go_goto (gi_iast h19.2.2.1.1 (go_iinc rfl h19.2.2.1.2 rfl (go_goto (h19.2.2.2 _ _)))))))))))))))))))))))))))))))))) (fun e12 => have h11 := h9.2.2.2 e12; (go_loadA rfl (Exists.elim h11 fun q20 h21 => (gi_getR h21.1 (go_pushI rfl (go_loadI rfl (go_imul h21.2.1.1 (gi_iald h21.2.1.2 (go_goto (gi_iast h21.2.2.1 (go_loadA rfl (Exists.elim h21.2.2.2 fun q22 h23 => (gi_getR h23.1 (go_pushI rfl (go_loadI rfl (go_imul h23.2.1.1 (go_pushI rfl (go_iadd h23.2.1.2 (go_loadI rfl (go_ifb_eq (fun e26 => have h24 := h23.2.2.1 e26; (go_pushI rfl (go_fall (gi_iast h24.1.1 (go_iinc rfl h24.1.2 rfl (go_goto (h24.2 _ _))))))) (fun e26 => have h25 := h23.2.2.2 e26; (go_loadA rfl (Exists.elim h25 fun q27 h28 => (gi_getR h28.1 (go_pushI rfl (go_loadI rfl (go_imul h28.2.1.1 (go_pushI rfl (go_iadd h28.2.1.2.1 (gi_iald h28.2.1.2.2.1 (go_pushI rfl (go_min rfl (go_pushI rfl (go_iadd h28.2.1.2.2.2 (go_goto (gi_iast h28.2.2.1.1 (go_iinc rfl h28.2.2.1.2 rfl (go_goto (h28.2.2.2 _ _))))))))))))))))))))))))))))))))))))))))))))))))))))))))))))))))
def A_X5_isQuiet_27 (σ : St) (f : FI) (g : FL) (n : Nat) (x1 : Int) (x2 : Int) (r : St × List Vl) : Prop := ∀ (y3 : Option Vl), Gx mt 3 cd_X5_isQuiet (il σ f g) (cd_X5_isQuiet 27) [some (vR 5 (some (n + 101))), some (vI x1), some (vI x2), y3] [] r
theorem bk_X5_isQuiet_0 {σ : St} {f : FI} {g : FL} {n : Nat} {x1 : Int} {r : St × List Vl} (hs : Sh5 σ n) (h : (∃ q1, gR σ (n + 101) 9 = some q1 ∧ (((0 : Int) ≤ 1024 ∧ (0 : Int) ≤ 0 ∧ (0 : Int) ≤ 0 ∧ 0 + 1024 ≤ (ln σ (n + 108) : Int) ∧ 0 + 1024 ≤ (ln σ q1 : Int))) ∧ (∀ (f3 : FI), f3 = (up1 f q1 (cpyF (f (n + 108)) (f q1) 0 0 1024)) → ((-2147483648 ≤ ((f3 (n + 101) 3) - 1) ∧ ((f3 (n + 101) 3) - 1) ≤ 2147483647) ∧ (-2147483648 ≤ (x1 * ((f3 (n + 101) 3) - 1)) ∧ (x1 * ((f3 (n + 101) 3) - 1)) ≤ 2147483647) ∧ (-2147483648 ≤ ((x1 * ((f3 (n + 101) 3) - 1)) - 1) ∧ ((x1 * ((f3 (n + 101) 3) - 1)) - 1) ≤ 2147483647)) ∧ (A_X5_isQuiet_27 σ f3 g n x1 ((x1 * ((f3 (n + 101) 3) - 1)) - 1) r)))) : Ex mt 3 82 (il σ f g) [vR 5 (some (n + 101)), vI x1] r := Ex.mk mt_82 (show Gx mt 3 cd_X5_isQuiet (il σ f g) b_X5_isQuiet_0 [some (vR 5 (some (n + 101))), some (vI x1), none, none] [] r from (go_loadA rfl (gi_getR (Sh5.r8 hs) (go_pushI rfl (go_loadA rfl (Exists.elim h fun q1 h2 => (gi_getR h2.1 (go_pushI rfl (go_pushI rfl (gi_cpyI h2.2.1 rfl (Gx.letF (fun f3 e5 => have h4 := h2.2.2 f3 e5; (go_loadI rfl (go_loadA rfl (gi_getI (go_pushI rfl (go_isub h4.1.1 (go_imul h4.1.2.1 (go_pushI rfl (go_isub h4.1.2.2 (go_stoI rfl rfl (go_fall (h4.2 _)))))))))))))))))))))))
theorem bk_X5_isQuiet_27 {σ : St} {f : FI} {g : FL} {n : Nat} {x1 : Int} {x2 : Int} {r : St × List Vl} (hs : Sh5 σ n) (h : ((x2 < 0 → (r = ((il σ f g), [vI 1]))) ∧ (¬ x2 < 0 → (∃ (f4 : FI) (g5 : FL) (v7 : Int), Ex mt 0 83 (il σ f g) [vR 5 (some (n + 101)), vI x2, vI x1] ((il σ f4 g5), [vI v7]) ∧ (∃ (f8 : FI) (g9 : FL), Ex mt 2 84 (il σ f4 g5) [vR 5 (some (n + 101)), vI v7] ((il σ f8 g9), []) ∧ (∃ q11, gR σ (n + 101) 9 = some q11 ∧ (∃ q13, gR σ (n + 101) 10 = some q13 ∧ (∃ q15, gR (wR (wR σ (n + 101) 9 (some q13)) (n + 101) 10 (some q11)) (n + 101) 9 = some q15 ∧ (∃ (f17 : FI) (g18 : FL) (v20 : Int), Ex mt 2 85 (il (wR (wR σ (n + 101) 9 (some q13)) (n + 101) 10 (some q11)) f8 g9) [vR 5 (some (n + 101)), vR 14 (some q15)] ((il (wR (wR σ (n + 101) 9 (some q13)) (n + 101) 10 (some q11)) f17 g18), [vI v20]) ∧ ((¬ v20 = 0 → ((-2147483648 ≤ (x2 + (-1)) ∧ (x2 + (-1)) ≤ 2147483647)) ∧ (A_X5_isQuiet_27 (wR (wR σ (n + 101) 9 (some q13)) (n + 101) 10 (some q11)) f17 g18 n x1 (x2 + (-1)) r)) ∧ (v20 = 0 → (r = ((il (wR (wR σ (n + 101) 9 (some q13)) (n + 101) 10 (some q11)) f17 g18), [vI 0]))))))))))))) : A_X5_isQuiet_27 σ f g n x1 x2 r := fun y3 => (show Gx mt 3 cd_X5_isQuiet (il σ f g) b_X5_isQuiet_27 [some (vR 5 (some (n + 101))), some (vI x1), some (vI x2), y3] [] r from (go_loadI rfl (gq_if_lt (fun e3 => have h1 := h.1 e3; (go_pushI rfl (h1 ▸ (gq_retZ ⟨by decide, by decide⟩)))) (fun e3 => have h2 := h.2 e3; (go_loadA rfl (go_loadA rfl (go_loadI rfl (go_loadI rfl (Exists.elim h2 fun f4 w27 => Exists.elim w27 fun g5 w28 => Exists.elim w28 fun v7 h6 => (go_callV rfl rfl rfl h6.1 (Exists.elim h6.2 fun f8 w26 => Exists.elim w26 fun g9 h10 => (go_callV rfl rfl rfl h10.1 (go_loadA rfl (Exists.elim h10.2 fun q11 h12 => (gi_getR h12.1 (go_stoA rfl rfl (go_loadA rfl (go_loadA rfl (Exists.elim h12.2 fun q13 h14 => (gi_getR h14.1 (gi_putR (go_loadA rfl (go_loadA rfl (gi_putR (go_loadA rfl (go_loadA rfl (Exists.elim h14.2 fun q15 h16 => (gi_getR h16.1 (Exists.elim h16.2 fun f17 w24 => Exists.elim w24 fun g18 w25 => Exists.elim w25 fun v20 h19 => (go_callV rfl rfl rfl h19.1 (gq_if_ne (fun e23 => have h21 := h19.2.1 e23; (go_iinc rfl h21.1 rfl (go_goto (h21.2 _)))) (fun e23 => have h22 := h19.2.2 e23; (go_pushI rfl (h22 ▸ (gq_retZ ⟨by decide, by decide⟩)))))))))))))))))))))))))))))))))))
theorem x_goBackTo {σ : St} {f : FI} {g : FL} {B ah nw : Nat} {nn : Nat → Nat} {b : Int} (hs : Sh5 σ (B + 43)) (h9 : gR σ (B + 144) 9 = some ah) (h10 : gR σ (B + 144) 10 = some nw) (la : ln σ ah = 1024) (lw : ln σ nw = 1024) (hne : ah ≠ nw) (hw : B + 151 ≤ nw) (hT : TCs f B nn) (hb : 0 ≤ b ∧ b ≤ 255) (hS : ∀ p : Nat, p < 512 → 1 ≤ f ah (2 * p + 1) ∧ f ah (2 * p + 1) ≤ 101) : ∃ f' : FI, Ex mt 2 84 (il σ f g) [vR 5 (some (B + 144)), vI b] (il σ f' g, []) ∧ (∀ c, c ≠ nw → f' c = f c) ∧ ∀ p : Nat, p < 512 → (pk (GB f g B b (p : Int)) → f' nw (2 * p) = f ah (2 * (GB f g B b (p : Int)).toNat) ∧ f' nw (2 * p + 1) = (if 100 < f ah (2 * (GB f g B b (p : Int)).toNat + 1) then 100 else f ah (2 * (GB f g B b (p : Int)).toNat + 1)) + 1) ∧ (¬ pk (GB f g B b (p : Int)) → f' nw (2 * p) = endB_ (GB f g B b (p : Int)) ∧ f' nw (2 * p + 1) = 1) := by
  have loop : ∀ k i : Nat, i + k = 512 → ∀ fi : FI, (∀ c, c ≠ nw → fi c = f c) → (∀ p : Nat, p < i → (pk (GB f g B b (p : Int)) → fi nw (2 * p) = f ah (2 * (GB f g B b (p : Int)).toNat) ∧ fi nw (2 * p + 1) = (if 100 < f ah (2 * (GB f g B b (p : Int)).toNat + 1) then 100 else f ah (2 * (GB f g B b (p : Int)).toNat + 1)) + 1) ∧ (¬ pk (GB f g B b (p : Int)) → fi nw (2 * p) = endB_ (GB f g B b (p : Int)) ∧ fi nw (2 * p + 1) = 1)) → ∃ f' : FI, A_X5_goBackTo_2 σ fi g (B + 43) b (i : Int) (il σ f' g, []) ∧ (∀ c, c ≠ nw → f' c = f c) ∧ ∀ p : Nat, p < 512 → (pk (GB f g B b (p : Int)) → f' nw (2 * p) = f ah (2 * (GB f g B b (p : Int)).toNat) ∧ f' nw (2 * p + 1) = (if 100 < f ah (2 * (GB f g B b (p : Int)).toNat + 1) then 100 else f ah (2 * (GB f g B b (p : Int)).toNat + 1)) + 1) ∧ (¬ pk (GB f g B b (p : Int)) → f' nw (2 * p) = endB_ (GB f g B b (p : Int)) ∧ f' nw (2 * p + 1) = 1) := by
    intro k
    induction k with
    | zero =>
      intro i hi fi h1 h2
      obtain rfl : i = 512 := by omega
      exact ⟨fi, bk_X5_goBackTo_2 hs ⟨fun _ => rfl, fun z => absurd (by decide) z⟩, h1, h2⟩
    | succ k ih =>
      intro i hi fi h1 h2
      have eT : SameT f fi B := fun a h3 h4 => h1 a (by omega)
      have E := x_stepB (σ := σ) (f := fi) (g := g) (b := b) (p := (i : Int)) hs.o0 (by omega) (hT.of eT)
      have rg := GB_rg (g := g) hT (b := b) (p := (i : Int)) (by omega)
      have eG : GB fi g B b (i : Int) = GB f g B b (i : Int) := GB_of (by omega) eT rfl
      rw [eG] at E
      have i1 : (2 * (i : Int) + 1).toNat = 2 * i + 1 := by omega
      have i2 : (2 * (i : Int)).toNat = 2 * i := by omega
      have put : ∀ x y : Int, (pk (GB f g B b (i : Int)) → x = f ah (2 * (GB f g B b (i : Int)).toNat) ∧ y = (if 100 < f ah (2 * (GB f g B b (i : Int)).toNat + 1) then 100 else f ah (2 * (GB f g B b (i : Int)).toNat + 1)) + 1) → (¬ pk (GB f g B b (i : Int)) → x = endB_ (GB f g B b (i : Int)) ∧ y = 1) → ∃ f' : FI, A_X5_goBackTo_2 σ (up2 (up2 fi nw (2 * i) x) nw (2 * i + 1) y) g (B + 43) b ((i : Int) + 1) (il σ f' g, []) ∧ (∀ c, c ≠ nw → f' c = f c) ∧ ∀ p : Nat, p < 512 → (pk (GB f g B b (p : Int)) → f' nw (2 * p) = f ah (2 * (GB f g B b (p : Int)).toNat) ∧ f' nw (2 * p + 1) = (if 100 < f ah (2 * (GB f g B b (p : Int)).toNat + 1) then 100 else f ah (2 * (GB f g B b (p : Int)).toNat + 1)) + 1) ∧ (¬ pk (GB f g B b (p : Int)) → f' nw (2 * p) = endB_ (GB f g B b (p : Int)) ∧ f' nw (2 * p + 1) = 1) := fun x y p1 p2 => ih (i + 1) (by omega) _ (fun c hc => by rw [up2_ne hc, up2_ne hc]; exact h1 c hc) (fun p hp => by
        by_cases z : p = i
        · subst z
          rw [u2_s, u2_i (by omega), u2_s]
          exact ⟨p1, p2⟩
        · rw [u2_i (by omega), u2_i (by omega), u2_i (by omega), u2_i (by omega)]
          exact h2 p (by omega))
      by_cases z : pk (GB f g B b (i : Int))
      · have v1 : (2 * GB f g B b (i : Int) + 1).toNat = 2 * (GB f g B b (i : Int)).toNat + 1 := by omega
        have v2 : (2 * GB f g B b (i : Int)).toNat = 2 * (GB f g B b (i : Int)).toNat := by omega
        have bS := hS (GB f g B b (i : Int)).toNat (by omega)
        have ea : fi ah = f ah := h1 ah hne
        obtain ⟨f', A, r⟩ := put _ _ (fun _ => ⟨rfl, rfl⟩) (fun y => absurd z y)
        refine ⟨f', bk_X5_goBackTo_2 hs ⟨fun y => absurd y (by omega), fun _ => ⟨⟨by omega, by omega⟩, fi, g, _, E, nw, h10, by omega, fun y => absurd z y, fun _ => ⟨ah, h9, by rw [la]; omega, by rw [lw]; omega, nw, h10, by omega, fun y => absurd z y, fun _ => ⟨ah, h9, ?_⟩⟩⟩⟩, r⟩
        rw [i1, i2, v1, v2, u2_a hne, ea, lw, la]
        unfold iMin
        exact ⟨⟨by omega, by omega, by omega, by split <;> omega⟩, ⟨by omega, by omega⟩, A⟩
      · obtain ⟨f', A, r⟩ := put _ _ (fun y => absurd y z) (fun _ => ⟨rfl, rfl⟩)
        refine ⟨f', bk_X5_goBackTo_2 hs ⟨fun y => absurd y (by omega), fun _ => ⟨⟨by omega, by omega⟩, fi, g, _, E, nw, h10, by omega, fun _ => ⟨by omega, by rw [lw]; omega, nw, h10, by omega, fun _ => ?_, fun y => absurd y z⟩, fun y => absurd y z⟩⟩, r⟩
        rw [i1, i2, lw]
        exact ⟨⟨by omega, by omega⟩, A⟩
  obtain ⟨f', A, r1, r2⟩ := loop 512 0 rfl f (fun _ _ => rfl) fun p hp => absurd hp (Nat.not_lt_zero p)
  exact ⟨f', bk_X5_goBackTo_0 hs A, r1, r2⟩
/-- only the two rows ahead and now have changed places -/
def Sw (B : Nat) (σ σ' : St) : Prop := tg σ' = tg σ ∧ ln σ' = ln σ ∧ nx σ' = nx σ ∧ sl σ' = sl σ ∧ (∀ a k, ¬ (a = B + 144 ∧ (k = 9 ∨ k = 10)) → gR σ' a k = gR σ a k) ∧ ((gR σ' (B + 144) 9 = some (B + 152) ∧ gR σ' (B + 144) 10 = some (B + 153)) ∨ (gR σ' (B + 144) 9 = some (B + 153) ∧ gR σ' (B + 144) 10 = some (B + 152)))
theorem Sw.rfl' {σ : St} {B : Nat} (h : Sh5 σ (B + 43)) : Sw B σ σ := ⟨rfl, rfl, rfl, rfl, fun _ _ _ => rfl, h.sw⟩
theorem Sw.trans {σ σ1 σ2 : St} {B : Nat} (h : Sw B σ σ1) (h2 : Sw B σ1 σ2) : Sw B σ σ2 := ⟨h2.1.trans h.1, h2.2.1.trans h.2.1, h2.2.2.1.trans h.2.2.1, h2.2.2.2.1.trans h.2.2.2.1, fun a k hk => (h2.2.2.2.2.1 a k hk).trans (h.2.2.2.2.1 a k hk), h2.2.2.2.2.2⟩
theorem Sw.ks {σ σ' : St} {B : Nat} (h : Sw B σ σ') : KS B σ σ' := ⟨fun a _ => by rw [h.2.1], fun a k _ h1 _ _ _ => h.2.2.2.2.1 a k h1, h.2.2.2.2.2⟩
theorem wR_gR {σ : St} {a k b j : Nat} {v : Option Nat} : gR (wR σ a k v) b j = if b = a ∧ j = k then v else gR σ b j := rfl
theorem Sw.swap {σ : St} {B ah nw : Nat} (hw : (ah = B + 152 ∧ nw = B + 153) ∨ (ah = B + 153 ∧ nw = B + 152)) : Sw B σ (wR (wR σ (B + 144) 9 (some nw)) (B + 144) 10 (some ah)) := by
  refine ⟨rfl, rfl, rfl, rfl, fun a k hk => ?_, ?_⟩
  · rw [wR_gR, wR_gR, if_neg (by omega), if_neg (by omega)]
  · rw [wR_gR, wR_gR, wR_gR, wR_gR, if_neg (by omega), if_pos ⟨rfl, rfl⟩, if_pos ⟨rfl, rfl⟩]
    rcases hw with ⟨rfl, rfl⟩ | ⟨rfl, rfl⟩
    · exact Or.inr ⟨rfl, rfl⟩
    · exact Or.inl ⟨rfl, rfl⟩
/-- in this tick no packet at an entry is seen as neither -/
def Qu (f : FI) (B : Nat) (G : Int → Int → Int) (o1 o2 : Nat → Int) (t : Int) : Prop := ∀ q : Nat, q < 512 → En f B q → (sn G 100 t (q : Int) = o1 q ∨ sn G 100 t (q : Int) = o2 q)
theorem x_isQuiet {σ : St} {f : FI} {g : FL} {B n : Nat} {nn : Nat → Nat} {gp : Int} (hs : Sh5 σ (B + 43)) (hT : TCs f B nn) (hen : 0 ≤ f (B + 43) 2 ∧ f (B + 43) 2 ≤ 255) (hn : f (B + 144) 3 = (n : Int)) (h8 : 1 ≤ n ∧ n ≤ 8) (ho : ∀ i, i < n → 0 ≤ f (B + 146) i ∧ f (B + 146) i ≤ 7) (hd : ∀ i j, i < j → j < n → ¬ f (B + 146) i = f (B + 146) j) (hg : 1 ≤ gp ∧ gp ≤ 9) (hV : Vw (GK f g B (tkg (f (B + 146)) gp n)) (gp * ((n : Int) - 1)) (fun p => f (B + 151) (2 * p)) (fun p => f (B + 151) (2 * p + 1))) : ∃ (σ' : St) (f' : FI) (v : Int), (v = 0 ∨ v = 1) ∧ (v = 1 ↔ ∀ t : Int, 0 ≤ t → t < gp * ((n : Int) - 1) → Qu f B (GK f g B (tkg (f (B + 146)) gp n)) (f (B + 149)) (f (B + 150)) t) ∧ Ex mt 3 82 (il σ f g) [vR 5 (some (B + 144)), vI gp] (il σ' f' g, [vI v]) ∧ Sw B σ σ' ∧ (∀ c, c ≠ B + 152 → c ≠ B + 153 → f' c = f c) := by
  have T0 : 0 ≤ gp * ((n : Int) - 1) := Int.mul_nonneg (by omega) (by omega)
  have T1 : gp * ((n : Int) - 1) ≤ 9 * 7 := Int.mul_le_mul hg.2 (by omega) (by omega) (by omega)
  have loop : ∀ k : Nat, ∀ (σi : St) (fi : FI) (ah nw : Nat), Sw B σ σi → (∀ c, c ≠ B + 152 → c ≠ B + 153 → fi c = f c) → gR σi (B + 144) 9 = some ah → gR σi (B + 144) 10 = some nw → ((ah = B + 152 ∧ nw = B + 153) ∨ (ah = B + 153 ∧ nw = B + 152)) → k ≤ 63 → Vw (GK f g B (tkg (f (B + 146)) gp n)) (k : Int) (fun p => fi ah (2 * p)) (fun p => fi ah (2 * p + 1)) → ∃ (σ' : St) (f' : FI) (v : Int), (v = 0 ∨ v = 1) ∧ (v = 1 ↔ ∀ t : Int, 0 ≤ t → t < (k : Int) → Qu f B (GK f g B (tkg (f (B + 146)) gp n)) (f (B + 149)) (f (B + 150)) t) ∧ A_X5_isQuiet_27 σi fi g (B + 43) gp ((k : Int) + (-1)) (il σ' f' g, [vI v]) ∧ Sw B σ σ' ∧ (∀ c, c ≠ B + 152 → c ≠ B + 153 → f' c = f c) := by
    intro k
    induction k with
    | zero =>
      intro σi fi ah nw hSw hF h9 h10 haw _ hVi
      exact ⟨σi, fi, 1, Or.inr rfl, ⟨fun _ t h1 h2 => by omega, fun _ => rfl⟩, bk_X5_isQuiet_27 (hSw.ks.sh5 hs) ⟨fun _ => rfl, fun z => absurd (by decide) z⟩, hSw, hF⟩
    | succ k ih =>
      intro σi fi ah nw hSw hF h9 h10 haw hk hVi
      have hsi := hSw.ks.sh5 hs
      have eT : SameT f fi B := fun a h3 h4 => hF a (by omega) (by omega)
      have ek : ((k + 1 : Nat) : Int) + (-1) = (k : Int) := by omega
      rw [ek]
      have e146 : fi (B + 146) = f (B + 146) := hF _ (by omega) (by omega)
      have E1 := x_writtenBy (σ := σi) (f := fi) (g := g) (B := B) (n := n) (gp := gp) (t := (k : Int)) hsi (by rw [hF _ (by omega) (by omega)]; exact hn) h8.2 (by rw [e146]; exact ho) (by omega)
      rw [e146] at E1
      have wl : wbN (f (B + 146)) gp (k : Int) n < 256 := wbN_lt n ho
      have la : ln σi ah = 1024 := by rcases haw with ⟨rfl, -⟩ | ⟨rfl, -⟩; exact hsi.l9; exact hsi.l10
      have lw : ln σi nw = 1024 := by rcases haw with ⟨-, rfl⟩ | ⟨-, rfl⟩; exact hsi.l10; exact hsi.l9
      obtain ⟨f2, E2, c2, p2'⟩ := x_goBackTo (σ := σi) (f := fi) (g := g) (b := (wbN (f (B + 146)) gp (k : Int) n : Nat)) hsi h9 h10 la lw (by omega) (by omega) (hT.of eT) (by omega) (fun p hp => (hVi p hp).1)
      have eG : ∀ p : Nat, p < 512 → GB fi g B (wbN (f (B + 146)) gp (k : Int) n : Nat) (p : Int) = GK f g B (tkg (f (B + 146)) gp n) (k : Int) (p : Int) := fun p hp => (GB_of (by omega) eT rfl).trans (GB_wb ho hd (by omega) (by omega))
      have V2 : Vw (GK f g B (tkg (f (B + 146)) gp n)) (k : Int) (fun p => f2 nw (2 * p)) (fun p => f2 nw (2 * p + 1)) := by
        refine Vw.back (E := fun p => fi ah (2 * p)) (S := fun p => fi ah (2 * p + 1)) (by
          rw [show (k : Int) + 1 = ((k + 1 : Nat) : Int) by omega]
          exact hVi) fun p hp => ?_
        have := p2' p hp
        rw [eG p hp] at this
        exact this
      have hS1 : Sw B σi (wR (wR σi (B + 144) 9 (some nw)) (B + 144) 10 (some ah)) := Sw.swap haw
      have hF2 : ∀ c, c ≠ B + 152 → c ≠ B + 153 → f2 c = f c := fun c h1 h2 => by rw [c2 c (by omega)]; exact hF c h1 h2
      obtain ⟨v, v1, v2, E3⟩ := x_quietAhead (σ := wR (wR σi (B + 144) 9 (some nw)) (B + 144) 10 (some ah)) (f := f2) (g := g) (B := B) (e := nw) (hS1.ks.sh5 hsi) (by rw [hS1.2.1]; exact lw) (by rw [hF2 _ (by omega) (by omega)]; exact hen)
      have v2' : v = 1 ↔ Qu f B (GK f g B (tkg (f (B + 146)) gp n)) (f (B + 149)) (f (B + 150)) (k : Int) := by
        rw [v2]
        have eE : ∀ q : Int, En f2 B q ↔ En f B q := fun q => by unfold En; rw [hF2 _ (by omega) (by omega)]
        constructor
        · intro h q hq hE
          rw [V2.at hq]
          have := h q hq ((eE _).mpr hE)
          rw [hF2 (B + 149) (by omega) (by omega), hF2 (B + 150) (by omega) (by omega)] at this
          exact this
        · intro h q hq hE
          have := h q hq ((eE _).mp hE)
          rw [V2.at hq] at this
          rw [hF2 (B + 149) (by omega) (by omega), hF2 (B + 150) (by omega) (by omega)]
          exact this
      have g9 : gR (wR (wR σi (B + 144) 9 (some nw)) (B + 144) 10 (some ah)) (B + 144) 9 = some nw := by
        rw [wR_gR, wR_gR, if_neg (by omega), if_pos ⟨rfl, rfl⟩]
      have g10 : gR (wR (wR σi (B + 144) 9 (some nw)) (B + 144) 10 (some ah)) (B + 144) 10 = some ah := by
        rw [wR_gR, if_pos ⟨rfl, rfl⟩]
      rcases v1 with rfl | rfl
      · refine ⟨_, f2, 0, Or.inl rfl, ⟨fun z => absurd z (by decide), fun z => absurd (v2'.mpr (z k (by omega) (by omega))) (by decide)⟩, bk_X5_isQuiet_27 hsi ⟨fun z => absurd z (by omega), fun _ => ⟨fi, g, _, E1, f2, g, E2, ah, h9, nw, h10, nw, g9, f2, g, 0, E3, fun z => absurd rfl z, fun _ => rfl⟩⟩, hSw.trans hS1, hF2⟩
      · obtain ⟨σ', f', w, w1, w2, A, r⟩ := ih _ f2 nw ah (hSw.trans hS1) hF2 g9 g10 (by omega) (by omega) V2
        refine ⟨σ', f', w, w1, ?_, bk_X5_isQuiet_27 hsi ⟨fun z => absurd z (by omega), fun _ => ⟨fi, g, _, E1, f2, g, E2, ah, h9, nw, h10, nw, g9, f2, g, 1, E3, fun _ => ⟨by omega, A⟩, fun z => absurd z (by decide)⟩⟩, r⟩
        rw [w2]
        constructor
        · intro h t h1 h2
          by_cases z : t = (k : Int)
          · subst z
            exact v2'.mp rfl
          · exact h t h1 (by omega)
        · exact fun h t h1 h2 => h t h1 (by omega)
  have fin : ∀ ah nw : Nat, gR σ (B + 144) 9 = some ah → gR σ (B + 144) 10 = some nw → ((ah = B + 152 ∧ nw = B + 153) ∨ (ah = B + 153 ∧ nw = B + 152)) → ∃ (σ' : St) (f' : FI) (v : Int), (v = 0 ∨ v = 1) ∧ (v = 1 ↔ ∀ t : Int, 0 ≤ t → t < gp * ((n : Int) - 1) → Qu f B (GK f g B (tkg (f (B + 146)) gp n)) (f (B + 149)) (f (B + 150)) t) ∧ Ex mt 3 82 (il σ f g) [vR 5 (some (B + 144)), vI gp] (il σ' f' g, [vI v]) ∧ Sw B σ σ' ∧ (∀ c, c ≠ B + 152 → c ≠ B + 153 → f' c = f c) := by
    intro ah nw h9 h10 haw
    have la : ln σ ah = 1024 := by rcases haw with ⟨rfl, -⟩ | ⟨rfl, -⟩; exact hs.l9; exact hs.l10
    have hF : ∀ c, c ≠ B + 152 → c ≠ B + 153 → up1 f ah (cpyF (f (B + 43 + 108)) (f ah) 0 0 1024) c = f c := fun c h1 h2 => up1_ne' (by omega)
    obtain ⟨m, hm⟩ := Int.eq_ofNat_of_zero_le T0
    obtain ⟨σ', f', v, v1, v2, A, r⟩ := loop m σ (up1 f ah (cpyF (f (B + 43 + 108)) (f ah) 0 0 1024)) ah nw (Sw.rfl' hs) hF h9 h10 haw (by omega) (by
      rw [← hm]
      intro p hp
      have e1 : up1 f ah (cpyF (f (B + 43 + 108)) (f ah) 0 0 1024) ah (2 * p) = f (B + 151) (2 * p) := by
        rw [up1_at']
        unfold cpyF
        rw [if_pos (by omega)]
        congr 1
        omega
      have e2 : up1 f ah (cpyF (f (B + 43 + 108)) (f ah) 0 0 1024) ah (2 * p + 1) = f (B + 151) (2 * p + 1) := by
        rw [up1_at']
        unfold cpyF
        rw [if_pos (by omega)]
        congr 1
        omega
      simp only [e1, e2]
      exact hV p hp)
    rw [← hm] at v2 A
    refine ⟨σ', f', v, v1, v2, bk_X5_isQuiet_0 hs ⟨ah, h9, ⟨by decide, by decide, by decide, ?_, ?_⟩, fun f3 e3 => ?_⟩, r⟩
    · rw [show ln σ (B + 43 + 108) = 1024 from hs.l8]; decide
    · rw [la]; decide
    · have e4 : f3 (B + 43 + 101) 3 = (n : Int) := by
        rw [e3, hF _ (by omega) (by omega)]
        exact hn
      rw [e4]
      subst e3
      refine ⟨⟨by omega, by omega, by omega⟩, ?_⟩
      exact A
  rcases hs.sw with ⟨a, b⟩ | ⟨a, b⟩
  · exact fin _ _ a b (Or.inl ⟨rfl, rfl⟩)
  · exact fin _ _ a b (Or.inr ⟨rfl, rfl⟩)
