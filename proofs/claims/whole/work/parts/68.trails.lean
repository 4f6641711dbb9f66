/-! worst: lines in use, trails (class) -/
def A_X6_linesInUse_4 (σ : St) (f : FI) (g : FL) (n : Nat) (x1 : BitVec 64) (x3 : Int) (r : St × List Vl) : Prop := ∀ (y4 : Option Vl) (y5 : Option Vl), Gx mt 3 cd_X6_linesInUse (il σ f g) (cd_X6_linesInUse 4) [some (vR 6 (some (n + 111))), some (vL x1), none, some (vI x3), y4, y5] [] r
def A_X6_linesInUse_24 (σ : St) (f : FI) (g : FL) (n : Nat) (x1 : BitVec 64) (x3 : Int) (x4 : Nat) (x5 : Int) (r : St × List Vl) : Prop := Gx mt 3 cd_X6_linesInUse (il σ f g) (cd_X6_linesInUse 24) [some (vR 6 (some (n + 111))), some (vL x1), none, some (vI x3), some (vR 7 (some x4)), some (vI x5)] [] r
theorem bk_X6_linesInUse_0 {σ : St} {f : FI} {g : FL} {n : Nat} {r : St × List Vl} (hs : Sh6 σ n) (h : (A_X6_linesInUse_4 σ f g n (0#64) 0 r)) : Ex mt 3 91 (il σ f g) [vR 6 (some (n + 111))] r := Ex.mk mt_91 (show Gx mt 3 cd_X6_linesInUse (il σ f g) b_X6_linesInUse_0 [some (vR 6 (some (n + 111))), none, none, none, none, none] [] r from (go_pushL rfl (go_stoL rfl rfl (go_pushI rfl (go_stoI rfl rfl (go_fall (h _ _)))))))
theorem bk_X6_linesInUse_4 {σ : St} {f : FI} {g : FL} {n : Nat} {x1 : BitVec 64} {x3 : Int} {r : St × List Vl} (hs : Sh6 σ n) (h : ((8 ≤ x3 → (r = ((il σ f g), [vL (x1 &&& ((g n 1) ^^^ (18446744073709551615#64)))]))) ∧ (¬ 8 ≤ x3 → ((0 ≤ x3 ∧ x3 < 16)) ∧ (A_X6_linesInUse_24 σ f g n x1 x3 (tA n x3) 0 r)))) : A_X6_linesInUse_4 σ f g n x1 x3 r := fun y4 y5 => (show Gx mt 3 cd_X6_linesInUse (il σ f g) b_X6_linesInUse_4 [some (vR 6 (some (n + 111))), some (vL x1), none, some (vI x3), y4, y5] [] r from (go_loadI rfl (go_pushI rfl (gq_icmp_ge (fun e3 => have h1 := h.1 e3; (go_loadL rfl (go_loadA rfl (gi_getR (Sh6.r0 hs) (gi_getL (go_pushL rfl (go_lxor (go_land (h1 ▸ gq_retL))))))))) (fun e3 => have h2 := h.2 e3; (go_loadA rfl (gi_getR (Sh6.r0 hs) (gi_getR (Sh3.r0 (Sh6.o0 hs)) (go_loadI rfl (gi_aald (inl_ (Sh3.l0 (Sh6.o0 hs)) h2.1) (Sh3.t (Sh6.o0 hs) h2.1) (go_stoA rfl rfl (go_pushI rfl (go_stoI rfl rfl (go_fall (h2.2)))))))))))))))
theorem bk_X6_linesInUse_24 {σ : St} {f : FI} {g : FL} {n : Nat} {x1 : BitVec 64} {x3 : Int} {x4 : Nat} {x5 : Int} {r : St × List Vl} (hs : Sh6 σ n) (h : (((f x4 3) ≤ x5 → ((-2147483648 ≤ (x3 + 1) ∧ (x3 + 1) ≤ 2147483647)) ∧ (A_X6_linesInUse_4 σ f g n x1 (x3 + 1) r)) ∧ (¬ (f x4 3) ≤ x5 → (Sh7 σ x4 ∧ (0 ≤ x5 ∧ x5 < 12)) ∧ ((¬ (((0 ≤ x3 ∧ x3 ≤ 7) ∧ (0 ≤ (f (x4 + 3) ((x5).toNat)) ∧ (f (x4 + 3) ((x5).toNat)) ≤ 7) ∧ ¬ x3 = (f (x4 + 3) ((x5).toNat)))) → ((-2147483648 ≤ (x5 + 1) ∧ (x5 + 1) ≤ 2147483647)) ∧ (A_X6_linesInUse_24 σ f g n x1 x3 x4 (x5 + 1) r)) ∧ ((((0 ≤ x3 ∧ x3 ≤ 7) ∧ (0 ≤ (f (x4 + 3) ((x5).toNat)) ∧ (f (x4 + 3) ((x5).toNat)) ≤ 7) ∧ ¬ x3 = (f (x4 + 3) ((x5).toNat)))) → ((0 ≤ x5 ∧ x5 < 12) ∧ (0 ≤ x3 ∧ x3 < 8) ∧ (0 ≤ (f (x4 + 3) ((x5).toNat)) ∧ (f (x4 + 3) ((x5).toNat)) < 8)) ∧ ((-2147483648 ≤ (x5 + 1) ∧ (x5 + 1) ≤ 2147483647)) ∧ (A_X6_linesInUse_24 σ f g n (x1 ||| (1#64 <<< (8 * x3 + (f (x4 + 3) ((x5).toNat))).toNat)) x3 x4 (x5 + 1) r)))))) : A_X6_linesInUse_24 σ f g n x1 x3 x4 x5 r := (show Gx mt 3 cd_X6_linesInUse (il σ f g) b_X6_linesInUse_24 [some (vR 6 (some (n + 111))), some (vL x1), none, some (vI x3), some (vR 7 (some x4)), some (vI x5)] [] r from (go_loadI rfl (go_loadA rfl (gi_getI (gq_icmp_ge (fun e3 => have h1 := h.1 e3; (go_iinc rfl h1.1 rfl (go_goto (h1.2 _ _)))) (fun e3 => have h2 := h.2 e3; (go_loadI rfl (go_loadA rfl (gi_getR (Sh7.r2 h2.1.1) (go_loadI rfl (gi_iald (inl_ (Sh7.l2 h2.1.1) h2.1.2) (go_callS rfl rfl rfl (pu_isLine) (go_ifb_eq (fun e6 => have h4 := h2.2.1 e6; (go_iinc rfl h4.1 rfl (go_goto (h4.2)))) (fun e6 => have h5 := h2.2.2 e6; (go_loadL rfl (go_loadI rfl (go_loadA rfl (gi_getR (Sh7.r2 h2.1.1) (go_loadI rfl (gi_iald (inl_ (Sh7.l2 h2.1.1) h5.1.1) (go_callS rfl rfl rfl (pu_lineBit h5.1.2.1 h5.1.2.2) (go_lor (go_stoL rfl rfl (go_fall (go_iinc rfl h5.2.1 rfl (go_goto (h5.2.2)))))))))))))))))))))))))))
def A_X6_trailOf_8 (σ : St) (f : FI) (g : FL) (n : Nat) (x2 : BitVec 64) (x4 : Int) (x5 : Int) (r : St × List Vl) : Prop := ∀ (y1 : Int) (y6 : Option Vl), Gx mt 3 cd_X6_trailOf (il σ f g) (cd_X6_trailOf 8) [some (vR 6 (some (n + 111))), some (vI y1), some (vL x2), none, some (vI x4), some (vI x5), y6] [] r
theorem bk_X6_trailOf_0 {σ : St} {f : FI} {g : FL} {n : Nat} {x1 : Int} {r : St × List Vl} (hs : Sh6 σ n) (h : (A_X6_trailOf_8 σ f g n (0#64) x1 0 r)) : Ex mt 3 93 (il σ f g) [vR 6 (some (n + 111)), vI x1] r := Ex.mk mt_93 (show Gx mt 3 cd_X6_trailOf (il σ f g) b_X6_trailOf_0 [some (vR 6 (some (n + 111))), some (vI x1), none, none, none, none, none] [] r from (go_pushL rfl (go_stoL rfl rfl (go_loadI rfl (go_stoI rfl rfl (go_pushI rfl (go_stoI rfl rfl (go_fall (h _ _)))))))))
theorem bk_X6_trailOf_8 {σ : St} {f : FI} {g : FL} {n : Nat} {x2 : BitVec 64} {x4 : Int} {x5 : Int} {r : St × List Vl} (hs : Sh6 σ n) (h : ((512 ≤ x5 → (r = ((il σ f g), [vL x2]))) ∧ (¬ 512 ≤ x5 → (∃ (f4 : FI) (g5 : FL) (v7 : Int), Ex mt 1 39 (il σ f g) [vR 3 (some n), vI x4, vI 0] ((il σ f4 g5), [vI v7]) ∧ ((((0 ≤ v7 ∧ v7 < 512)) → ((-2147483648 ≤ x4 ∧ x4 ≤ 2147483647) ∧ (-2147483648 ≤ v7 ∧ v7 ≤ 2147483647)) ∧ ((¬ (((0 ≤ (x4 / 64) ∧ (x4 / 64) ≤ 7) ∧ (0 ≤ (v7 / 64) ∧ (v7 / 64) ≤ 7) ∧ ¬ (x4 / 64) = (v7 / 64))) → ((-2147483648 ≤ (x5 + 1) ∧ (x5 + 1) ≤ 2147483647)) ∧ (A_X6_trailOf_8 σ f4 g5 n x2 v7 (x5 + 1) r)) ∧ ((((0 ≤ (x4 / 64) ∧ (x4 / 64) ≤ 7) ∧ (0 ≤ (v7 / 64) ∧ (v7 / 64) ≤ 7) ∧ ¬ (x4 / 64) = (v7 / 64))) → ((-2147483648 ≤ x4 ∧ x4 ≤ 2147483647) ∧ (-2147483648 ≤ v7 ∧ v7 ≤ 2147483647) ∧ (0 ≤ (x4 / 64) ∧ (x4 / 64) < 8) ∧ (0 ≤ (v7 / 64) ∧ (v7 / 64) < 8)) ∧ ((-2147483648 ≤ (x5 + 1) ∧ (x5 + 1) ≤ 2147483647)) ∧ (A_X6_trailOf_8 σ f4 g5 n (x2 ||| (1#64 <<< (8 * (x4 / 64) + (v7 / 64)).toNat)) v7 (x5 + 1) r)))) ∧ (¬ ((0 ≤ v7 ∧ v7 < 512)) → (r = ((il σ f4 g5), [vL x2])))))))) : A_X6_trailOf_8 σ f g n x2 x4 x5 r := fun y1 y6 => (show Gx mt 3 cd_X6_trailOf (il σ f g) b_X6_trailOf_8 [some (vR 6 (some (n + 111))), some (vI y1), some (vL x2), none, some (vI x4), some (vI x5), y6] [] r from (go_loadI rfl (go_pushI rfl (gq_icmp_ge (fun e3 => have h1 := h.1 e3; (go_loadL rfl (h1 ▸ gq_retL))) (fun e3 => have h2 := h.2 e3; (go_loadA rfl (gi_getR (Sh6.r0 hs) (go_loadI rfl (go_pushI rfl (Exists.elim h2 fun f4 w14 => Exists.elim w14 fun g5 w15 => Exists.elim w15 fun v7 h6 => (go_callV rfl rfl rfl h6.1 (go_stoI rfl rfl (go_loadI rfl (go_callS rfl rfl rfl (pu_goesOn) (go_ifb_ne (fun e10 => have h8 := h6.2.1 e10; (go_loadI rfl (go_pushI rfl (go_ishr (iShr_6 h8.1.1) (go_loadI rfl (go_pushI rfl (go_ishr (iShr_6 h8.1.2) (go_callS rfl rfl rfl (pu_isLine) (go_ifb_eq (fun e13 => have h11 := h8.2.1 e13; (go_loadI rfl (go_stoI rfl rfl (go_iinc rfl h11.1 rfl (go_goto (h11.2 _ _)))))) (fun e13 => have h12 := h8.2.2 e13; (go_loadL rfl (go_loadI rfl (go_pushI rfl (go_ishr (iShr_6 h12.1.1) (go_loadI rfl (go_pushI rfl (go_ishr (iShr_6 h12.1.2.1) (go_callS rfl rfl rfl (pu_lineBit h12.1.2.2.1 h12.1.2.2.2) (go_lor (go_stoL rfl rfl (go_fall (go_loadI rfl (go_stoI rfl rfl (go_iinc rfl h12.2.1 rfl (go_goto (h12.2.2 _ _)))))))))))))))))))))))))) (fun e10 => have h9 := h6.2.2 e10; (go_loadL rfl (h9 ▸ gq_retL))))))))))))))))))
def A_X6_keepTrails_16 (σ : St) (f : FI) (g : FL) (n : Nat) (x1 : Nat) (x2 : Int) (r : St × List Vl) : Prop := Gx mt 5 cd_X6_keepTrails (il σ f g) (cd_X6_keepTrails 16) [some (vR 6 (some (n + 111))), some (vR 14 (some x1)), some (vI x2)] [] r
theorem bk_X6_keepTrails_0 {σ : St} {f : FI} {g : FL} {n : Nat} {r : St × List Vl} (hs : Sh6 σ n) (h : (∃ (f1 : FI) (g2 : FL) (q4 : Nat), Ex mt 4 45 (il σ f g) [vR 3 (some n), vI 0] ((il σ f1 g2), [vR 14 (some q4)]) ∧ (A_X6_keepTrails_16 σ (up2 f1 (n + 111) 5 0) g2 n q4 0 r))) : Ex mt 5 92 (il σ f g) [vR 6 (some (n + 111))] r := Ex.mk mt_92 (show Gx mt 5 cd_X6_keepTrails (il σ f g) b_X6_keepTrails_0 [some (vR 6 (some (n + 111))), none, none] [] r from (go_loadA rfl (gi_getR (Sh6.r0 hs) (go_pushI rfl (Exists.elim h fun f1 w5 => Exists.elim w5 fun g2 w6 => Exists.elim w6 fun q4 h3 => (go_callV rfl rfl rfl h3.1 (go_stoA rfl rfl (go_loadA rfl (go_pushI rfl (gi_putI (go_pushI rfl (go_stoI rfl rfl (go_fall (h3.2))))))))))))))
theorem bk_X6_keepTrails_16 {σ : St} {f : FI} {g : FL} {n : Nat} {x1 : Nat} {x2 : Int} {r : St × List Vl} (hs : Sh6 σ n) (h : ((512 ≤ x2 → (r = ((il σ f g), []))) ∧ (¬ 512 ≤ x2 → ((0 ≤ x2 ∧ x2 < 512) ∧ (0 ≤ f n 2 ∧ f n 2 ≤ 255)) ∧ ((¬ ((hB (f n 2) (x2 / 64))) → ((-2147483648 ≤ (x2 + 1) ∧ (x2 + 1) ≤ 2147483647)) ∧ (A_X6_keepTrails_16 σ f g n x1 (x2 + 1) r)) ∧ (((hB (f n 2) (x2 / 64))) → ((0 ≤ x2 ∧ x2 < (ln σ x1 : Int))) ∧ (((f x1 ((x2).toNat)) < 0 → ((-2147483648 ≤ (x2 + 1) ∧ (x2 + 1) ≤ 2147483647)) ∧ (A_X6_keepTrails_16 σ f g n x1 (x2 + 1) r)) ∧ (¬ (f x1 ((x2).toNat)) < 0 → (∃ (f10 : FI) (g11 : FL) (v13 : BitVec 64), Ex mt 3 93 (il σ f g) [vR 6 (some (n + 111)), vI x2] ((il σ f10 g11), [vL v13]) ∧ ((0 ≤ (f (n + 111) 5) ∧ (f (n + 111) 5) < 512) ∧ (-2147483648 ≤ ((f10 (n + 111) 5) + 1) ∧ ((f10 (n + 111) 5) + 1) ≤ 2147483647)) ∧ ((-2147483648 ≤ (x2 + 1) ∧ (x2 + 1) ≤ 2147483647)) ∧ (A_X6_keepTrails_16 σ (up2 f10 (n + 111) 5 ((f10 (n + 111) 5) + 1)) (up2 g11 (n + 113) (((f (n + 111) 5)).toNat) v13) n x1 (x2 + 1) r))))))))) : A_X6_keepTrails_16 σ f g n x1 x2 r := (show Gx mt 5 cd_X6_keepTrails (il σ f g) b_X6_keepTrails_16 [some (vR 6 (some (n + 111))), some (vR 14 (some x1)), some (vI x2)] [] r from (go_loadI rfl (go_pushI rfl (gq_icmp_ge (fun e3 => have h1 := h.1 e3; (h1 ▸ gq_retV)) (fun e3 => have h2 := h.2 e3; (go_loadA rfl (gi_getR (Sh6.r0 hs) (go_loadI rfl (go_callV rfl rfl rfl (pu_isEntry (Sh6.o0 hs) h2.1.1 h2.1.2) (go_ifb_eq (fun e6 => have h4 := h2.2.1 e6; (go_iinc rfl h4.1 rfl (go_goto (h4.2)))) (fun e6 => have h5 := h2.2.2 e6; (go_loadA rfl (go_loadI rfl (gi_iald h5.1 (gq_if_lt (fun e9 => have h7 := h5.2.1 e9; (go_iinc rfl h7.1 rfl (go_goto (h7.2)))) (fun e9 => have h8 := h5.2.2 e9; (go_loadA rfl (gi_getR (Sh6.r4 hs) (go_loadA rfl (gi_getI (go_loadA rfl (go_loadI rfl (Exists.elim h8 fun f10 w14 => Exists.elim w14 fun g11 w15 => Exists.elim w15 fun v13 h12 => (go_callV rfl rfl rfl h12.1 (gi_last (inl_ (Sh6.l4 hs) h12.2.1.1) (go_loadA rfl (go_dupA (gi_getI (go_pushI rfl (go_iadd h12.2.1.2 (gi_putI (go_fall (go_iinc rfl h12.2.2.1 rfl (go_goto (h12.2.2.2)))))))))))))))))))))))))))))))))))
/-- a line that some old row goes by, that has not fallen -/
def Lu (f : FI) (g : FL) (B : Nat) (nn : Nat → Nat) (l : Nat) : Prop := ¬ l / 8 = l % 8 ∧ (g (B + 43) 1).getLsbD l = false ∧ ∃ k, k < nn (l / 8) ∧ f (tB B (l / 8) + 3) k = ((l % 8 : Nat) : Int)
theorem x_linesInUse {σ : St} {f : FI} {g : FL} {B : Nat} {nn : Nat → Nat} (hs : Sh6 σ (B + 43)) (hT : TCs f B nn) : ∃ L : BitVec 64, (∀ l, l < 64 → (L.getLsbD l = true ↔ Lu f g B nn l)) ∧ Ex mt 3 91 (il σ f g) [vR 6 (some (B + 154))] (il σ f g, [vL L]) := by
  have inner : ∀ b : Nat, b < 8 → ∀ k i : Nat, i + k = nn b → ∀ X : BitVec 64, ∃ Y : BitVec 64, (∀ l, l < 64 → (Y.getLsbD l = true ↔ X.getLsbD l = true ∨ (l / 8 = b ∧ ¬ l / 8 = l % 8 ∧ ∃ j, i ≤ j ∧ j < nn b ∧ f (tB B b + 3) j = ((l % 8 : Nat) : Int)))) ∧ ∀ r, A_X6_linesInUse_4 σ f g (B + 43) Y ((b : Int) + 1) r → A_X6_linesInUse_24 σ f g (B + 43) X (b : Int) (tB B b) (i : Int) r := by
    intro b hb k
    have hTb := hT b (by omega)
    have e7 : Sh7 σ (tB B b) := by
      rw [← tA_tB]
      exact hs.o0.s ⟨by omega, by omega⟩
    induction k with
    | zero =>
      intro i hi X
      refine ⟨X, fun l hl => ⟨fun z => Or.inl z, fun z => z.elim (fun y => y) fun ⟨_, _, j, h1, h2, _⟩ => by omega⟩, fun r A => bk_X6_linesInUse_24 hs ⟨fun _ => ⟨by omega, A⟩, fun z => absurd (by rw [hTb.1.1]; omega) z⟩⟩
    | succ k ih =>
      intro i hi X
      have n12 := hTb.1.2
      have to := (hTb.2.1 i (by omega)).2.2
      by_cases c : (0 ≤ f (tB B b + 3) i ∧ f (tB B b + 3) i ≤ 7) ∧ ¬ (b : Int) = f (tB B b + 3) i
      · have e1 : (8 * (b : Int) + f (tB B b + 3) i).toNat = 8 * b + (f (tB B b + 3) i).toNat := by omega
        obtain ⟨Y, hY, K⟩ := ih (i + 1) (by omega) (X ||| (1#64 <<< (8 * b + (f (tB B b + 3) i).toNat)))
        refine ⟨Y, fun l hl => ?_, fun r A => bk_X6_linesInUse_24 hs ⟨fun z => absurd z (by rw [hTb.1.1]; omega), fun _ => ⟨⟨e7, by omega⟩, fun z => absurd ⟨by omega, c.1, c.2⟩ z, fun _ => ⟨⟨by omega, by omega, ?_⟩, by omega, ?_⟩⟩⟩⟩
        · rw [hY l hl, orb (by omega), Bool.or_eq_true, decide_eq_true_iff]
          constructor
          · rintro ((h1 | h1) | ⟨h1, h2, j, h3, h4, h5⟩)
            · exact Or.inl h1
            · exact Or.inr ⟨by omega, by omega, i, by omega, by omega, by omega⟩
            · exact Or.inr ⟨h1, h2, j, by omega, h4, h5⟩
          · rintro (h1 | ⟨h1, h2, j, h3, h4, h5⟩)
            · exact Or.inl (Or.inl h1)
            · by_cases z : j = i
              · subst z
                exact Or.inl (Or.inr (by omega))
              · exact Or.inr ⟨h1, h2, j, by omega, h4, h5⟩
        · show 0 ≤ f (tB B b + 3) i ∧ f (tB B b + 3) i < 8
          omega
        · show A_X6_linesInUse_24 σ f g (B + 43) (X ||| (1#64 <<< (8 * (b : Int) + f (tB B b + 3) i).toNat)) _ _ _ r
          rw [e1]
          exact K r A
      · obtain ⟨Y, hY, K⟩ := ih (i + 1) (by omega) X
        refine ⟨Y, fun l hl => ?_, fun r A => bk_X6_linesInUse_24 hs ⟨fun z => absurd z (by rw [hTb.1.1]; omega), fun _ => ⟨⟨e7, by omega⟩, fun _ => ⟨by omega, K r A⟩, fun z => absurd z.2 c⟩⟩⟩
        rw [hY l hl]
        constructor
        · rintro (h1 | ⟨h1, h2, j, h3, h4, h5⟩)
          · exact Or.inl h1
          · exact Or.inr ⟨h1, h2, j, by omega, h4, h5⟩
        · rintro (h1 | ⟨h1, h2, j, h3, h4, h5⟩)
          · exact Or.inl h1
          · by_cases z : j = i
            · subst z
              exact absurd (show (0 ≤ f (tB B b + 3) j ∧ f (tB B b + 3) j ≤ 7) ∧ ¬ (b : Int) = f (tB B b + 3) j by omega) c
            · exact Or.inr ⟨h1, h2, j, by omega, h4, h5⟩
  have outer : ∀ k b : Nat, b + k = 8 → ∀ X : BitVec 64, (∀ l, l < 64 → (X.getLsbD l = true ↔ l / 8 < b ∧ ¬ l / 8 = l % 8 ∧ ∃ j, j < nn (l / 8) ∧ f (tB B (l / 8) + 3) j = ((l % 8 : Nat) : Int))) → ∃ L : BitVec 64, (∀ l, l < 64 → (L.getLsbD l = true ↔ Lu f g B nn l)) ∧ A_X6_linesInUse_4 σ f g (B + 43) X (b : Int) (il σ f g, [vL L]) := by
    intro k
    induction k with
    | zero =>
      intro b hb X hX
      obtain rfl : b = 8 := by omega
      refine ⟨X &&& (g (B + 43) 1 ^^^ 18446744073709551615#64), fun l hl => ?_, bk_X6_linesInUse_4 hs ⟨fun _ => rfl, fun z => absurd (by decide) z⟩⟩
      rw [show (18446744073709551615#64) = BitVec.allOnes 64 from by decide, BitVec.xor_allOnes, BitVec.getLsbD_and, BitVec.getLsbD_not, decide_eq_true hl, Bool.true_and, Bool.and_eq_true, hX l hl]
      unfold Lu
      cases (g (B + 43) 1).getLsbD l
      · exact ⟨fun h => ⟨h.1.2.1, rfl, h.1.2.2⟩, fun h => ⟨⟨by omega, h.1, h.2.2⟩, rfl⟩⟩
      · exact ⟨fun h => absurd h.2 (by decide), fun h => absurd h.2.1 (by decide)⟩
    | succ k ih =>
      intro b hb X hX
      obtain ⟨Y, hY, K⟩ := inner b (by omega) (nn b) 0 (by omega) X
      obtain ⟨L, hL, A⟩ := ih (b + 1) (by omega) Y (fun l hl => by
        rw [hY l hl, hX l hl]
        constructor
        · rintro (⟨h1, h2, h3⟩ | ⟨h1, h2, j, h3, h4, h5⟩)
          · exact ⟨by omega, h2, h3⟩
          · subst h1
            exact ⟨by omega, h2, j, h4, h5⟩
        · rintro ⟨h1, h2, j, h3, h4⟩
          by_cases z : l / 8 = b
          · subst z
            exact Or.inr ⟨rfl, h2, j, by omega, h3, h4⟩
          · exact Or.inl ⟨by omega, h2, j, h3, h4⟩)
      refine ⟨L, hL, bk_X6_linesInUse_4 hs ⟨fun z => absurd z (by omega), fun _ => ⟨by omega, ?_⟩⟩⟩
      rw [tA_tB]
      exact K _ A
  obtain ⟨L, hL, A⟩ := outer 8 0 rfl (0#64) (fun l hl => by
    rw [BitVec.getLsbD_zero]
    exact ⟨fun z => absurd z (by decide), fun z => absurd z.1 (Nat.not_lt_zero _)⟩)
  exact ⟨L, hL, bk_X6_linesInUse_0 hs A⟩
/-- a packet goes by this line -/
def Tb (G : Int → Int) (p : Int) (l : Nat) : Prop := ∃ k, pk (itr G p (k + 1)) ∧ 8 * (itr G p k / 64) + itr G p (k + 1) / 64 = (l : Int)
theorem x_trailOf {σ : St} {f : FI} {g : FL} {B : Nat} {nn : Nat → Nat} {q : Int} (hs : Sh6 σ (B + 43)) (hT : TCs f B nn) (hq : pk q) (he : ¬ pk (itr (GB f g B 0) q 512)) : ∃ T : BitVec 64, (∀ l, l < 64 → (T.getLsbD l = true ↔ ¬ l / 8 = l % 8 ∧ Tb (GB f g B 0) q l)) ∧ Ex mt 3 93 (il σ f g) [vR 6 (some (B + 154)), vI q] (il σ f g, [vL T]) := by
  have loop : ∀ k i : Nat, i + k = 512 → pk (itr (GB f g B 0) q i) → ∀ X : BitVec 64, (∀ l, l < 64 → (X.getLsbD l = true ↔ ¬ l / 8 = l % 8 ∧ ∃ j, j < i ∧ 8 * (itr (GB f g B 0) q j / 64) + itr (GB f g B 0) q (j + 1) / 64 = (l : Int))) → ∃ T : BitVec 64, (∀ l, l < 64 → (T.getLsbD l = true ↔ ¬ l / 8 = l % 8 ∧ Tb (GB f g B 0) q l)) ∧ A_X6_trailOf_8 σ f g (B + 43) X (itr (GB f g B 0) q i) (i : Int) (il σ f g, [vL T]) := by
    intro k
    induction k with
    | zero =>
      intro i hi hp X hX
      obtain rfl : i = 512 := by omega
      exact absurd hp he
    | succ k ih =>
      intro i hi hp X hX
      have E := x_stepB (σ := σ) (f := f) (g := g) (b := 0) (p := itr (GB f g B 0) q i) hs.o0 hp hT
      rw [Int.zero_ediv, show (0 : Int) % 2 = 0 from rfl, ← itr_s hp] at E
      by_cases z : pk (itr (GB f g B 0) q (i + 1))
      · by_cases y : itr (GB f g B 0) q i / 64 = itr (GB f g B 0) q (i + 1) / 64
        · obtain ⟨T, hT2, A⟩ := ih (i + 1) (by omega) z X (fun l hl => by
            rw [hX l hl]
            constructor
            · rintro ⟨h1, j, h2, h3⟩
              exact ⟨h1, j, by omega, h3⟩
            · rintro ⟨h1, j, h2, h3⟩
              by_cases w : j = i
              · subst w
                omega
              · exact ⟨h1, j, by omega, h3⟩)
          exact ⟨T, hT2, bk_X6_trailOf_8 hs ⟨fun x => absurd x (by omega), fun _ => ⟨f, g, _, E, fun _ => ⟨⟨by omega, by omega⟩, fun _ => ⟨by omega, A⟩, fun x => absurd y x.2.2⟩, fun x => absurd z x⟩⟩⟩
        · have e1 : (8 * (itr (GB f g B 0) q i / 64) + itr (GB f g B 0) q (i + 1) / 64).toNat < 64 := by omega
          obtain ⟨T, hT2, A⟩ := ih (i + 1) (by omega) z (X ||| (1#64 <<< (8 * (itr (GB f g B 0) q i / 64) + itr (GB f g B 0) q (i + 1) / 64).toNat)) (fun l hl => by
            rw [orb e1, Bool.or_eq_true, decide_eq_true_iff, hX l hl]
            constructor
            · rintro (⟨h1, j, h2, h3⟩ | h1)
              · exact ⟨h1, j, by omega, h3⟩
              · exact ⟨by omega, i, by omega, by omega⟩
            · rintro ⟨h1, j, h2, h3⟩
              by_cases w : j = i
              · subst w
                exact Or.inr (by omega)
              · exact Or.inl ⟨h1, j, by omega, h3⟩)
          exact ⟨T, hT2, bk_X6_trailOf_8 hs ⟨fun x => absurd x (by omega), fun _ => ⟨f, g, _, E, fun _ => ⟨⟨by omega, by omega⟩, fun x => absurd ⟨by omega, by omega, y⟩ x, fun _ => ⟨⟨by omega, by omega, by omega, by omega⟩, by omega, A⟩⟩, fun x => absurd z x⟩⟩⟩
      · refine ⟨X, fun l hl => ?_, bk_X6_trailOf_8 hs ⟨fun x => absurd x (by omega), fun _ => ⟨f, g, _, E, fun x => absurd x z, fun _ => rfl⟩⟩⟩
        rw [hX l hl]
        constructor
        · rintro ⟨h1, j, h2, h3⟩
          exact ⟨h1, j, itr_pre hp (by omega), h3⟩
        · rintro ⟨h1, j, h2, h3⟩
          refine ⟨h1, j, ?_, h3⟩
          apply Classical.byContradiction
          intro w
          exact z (itr_pre h2 (by omega))
  obtain ⟨T, hT2, A⟩ := loop 512 0 rfl hq (0#64) (fun l hl => by
    rw [BitVec.getLsbD_zero]
    exact ⟨fun z => absurd z (by decide), fun ⟨_, j, h, _⟩ => absurd h (Nat.not_lt_zero j)⟩)
  exact ⟨T, hT2, bk_X6_trailOf_0 hs A⟩
def enB (f : FI) (g : FL) (B q : Nat) : Bool := decide (hB (f (B + 43) 2) ((q : Int) / 64)) && decide (0 ≤ enD (GB f g B 0) (q : Int))
noncomputable def tbB (G : Int → Int) (p : Int) (l : Nat) : Bool := @decide (Tb G p l) (Classical.propDecidable _)
theorem tbB_iff {G : Int → Int} {p : Int} {l : Nat} : tbB G p l = true ↔ Tb G p l := @decide_eq_true_iff _ (Classical.propDecidable _)
theorem bool_of {a b : Bool} (h : a = true ↔ b = true) : a = b := by
  cases a <;> cases b
  · rfl
  · exact absurd (h.mpr rfl) (by decide)
  · exact absurd (h.mp rfl) (by decide)
  · rfl
/-- the row of trails counts as the packets do -/
def Trl (f : FI) (g : FL) (B n : Nat) (tr : Nat → BitVec 64) (c : Nat) : Prop := ∀ (a b : Nat) (h : Bool → Bool → Bool), a < 64 → b < 64 → ¬ a / 8 = a % 8 → ¬ b / 8 = b % 8 → fb_ct (fun i => h ((tr i).getLsbD a) ((tr i).getLsbD b)) c = fb_ct (fun q => enB f g B q && h (tbB (GB f g B 0) (q : Int) a) (tbB (GB f g B 0) (q : Int) b)) n
theorem x_keepTrails {σ : St} {f : FI} {g : FL} {B : Nat} {nn : Nat → Nat} (hs : Sh6 σ (B + 43)) (hT : TCs f B nn) (hen : 0 ≤ f (B + 43) 2 ∧ f (B + 43) 2 ≤ 255) : ∃ (f' : FI) (g' : FL) (c : Nat), Ex mt 5 92 (il σ f g) [vR 6 (some (B + 154))] (il σ f' g', []) ∧ c ≤ 512 ∧ f' (B + 154) 5 = (c : Int) ∧ Trl f g B 512 (g' (B + 156)) c ∧ (∀ a, a ≠ B + 156 → g' a = g a) ∧ Fr (fun a k => a = B + 143 ∨ (a = B + 154 ∧ k = 5)) f f' := by
  obtain ⟨f0, E0, a0, b0⟩ := x_endsBy (σ := σ) (f := f) (g := g) (b := 0) hs.o0 (by omega) hT hen
  have loop : ∀ k i : Nat, i + k = 512 → ∀ (fi : FI) (gi : FL) (c : Nat), c ≤ i → fi (B + 154) 5 = (c : Int) → Trl f g B i (gi (B + 156)) c → (∀ a, a ≠ B + 156 → gi a = g a) → Fr (fun a k => a = B + 154 ∧ k = 5) f0 fi → ∃ (f' : FI) (g' : FL) (c : Nat), A_X6_keepTrails_16 σ fi gi (B + 43) (B + 143) (i : Int) (il σ f' g', []) ∧ c ≤ 512 ∧ f' (B + 154) 5 = (c : Int) ∧ Trl f g B 512 (g' (B + 156)) c ∧ (∀ a, a ≠ B + 156 → g' a = g a) ∧ Fr (fun a k => a = B + 154 ∧ k = 5) f0 f' := by
    intro k
    induction k with
    | zero =>
      intro i hi fi gi c hc h5 hTr hg hF
      obtain rfl : i = 512 := by omega
      exact ⟨fi, gi, c, bk_X6_keepTrails_16 hs ⟨fun _ => rfl, fun z => absurd (by decide) z⟩, hc, h5, hTr, hg, hF⟩
    | succ k ih =>
      intro i hi fi gi c hc h5 hTr hg hF
      have e2 : fi (B + 43) 2 = f (B + 43) 2 := by rw [hF _ _ (by omega), a0 _ (by omega)]
      have ob : ((0 : Int) ≤ (i : Int) ∧ (i : Int) < 512) ∧ ((0 : Int) ≤ fi (B + 43) 2 ∧ fi (B + 43) 2 ≤ 255) := by rw [e2]; exact ⟨by omega, hen⟩
      -- a packet that doesn't count
      have skip : enB f g B i = false → ∃ (f' : FI) (g' : FL) (c : Nat), A_X6_keepTrails_16 σ fi gi (B + 43) (B + 143) ((i : Int) + 1) (il σ f' g', []) ∧ c ≤ 512 ∧ f' (B + 154) 5 = (c : Int) ∧ Trl f g B 512 (g' (B + 156)) c ∧ (∀ a, a ≠ B + 156 → g' a = g a) ∧ Fr (fun a k => a = B + 154 ∧ k = 5) f0 f' := fun hf => ih (i + 1) (by omega) fi gi c (by omega) h5 (fun a b h h1 h2 h3 h4 => by
        rw [hTr a b h h1 h2 h3 h4, fb_ct_succ, hf]
        rfl) hg hF
      by_cases hE : En f B (i : Int)
      · have v0 : fi (B + 143) i = enD (GB f g B 0) (i : Int) := by rw [hF _ _ (by omega)]; exact b0 i (by omega) hE
        by_cases hv : enD (GB f g B 0) (i : Int) < 0
        · obtain ⟨f', g', c', A, r⟩ := skip (by
            unfold enB
            rw [decide_eq_false (p := 0 ≤ enD (GB f g B 0) (i : Int)) (by omega), Bool.and_false])
          refine ⟨f', g', c', bk_X6_keepTrails_16 hs ⟨fun z => absurd z (by omega), fun _ => ⟨ob, fun z => absurd (by rw [e2]; exact hE) z, fun _ => ⟨?_, fun _ => ⟨by omega, A⟩, fun z => absurd (show fi (B + 143) i < 0 by rw [v0]; exact hv) z⟩⟩⟩, r⟩
          rw [show ln σ (B + 143) = 512 from hs.o0.l6]; omega
        · have eT : SameT f fi B := fun a h1 h2 => by
            funext j
            rw [hF a j (by omega), a0 a (by omega)]
          have eg : gi (B + 43) = g (B + 43) := hg _ (by omega)
          have eG : ∀ z, pk z → GB fi gi B 0 z = GB f g B 0 z := fun z hz => GB_of hz eT (by rw [eg])
          have ne : ¬ pk (itr (GB f g B 0) (i : Int) 512) := fun z => by
            rw [enD_in z] at hv
            exact hv (by decide)
          have ne2 : ¬ pk (itr (GB fi gi B 0) (i : Int) 512) := by rw [itr_cong eG]; exact ne
          obtain ⟨T, hT2, E⟩ := x_trailOf (σ := σ) (f := fi) (g := gi) (q := (i : Int)) hs (hT.of eT) (by omega) ne2
          have hT3 : ∀ l, l < 64 → ¬ l / 8 = l % 8 → T.getLsbD l = tbB (GB f g B 0) (i : Int) l := fun l hl h1 => bool_of (by
            rw [hT2 l hl, tbB_iff]
            unfold Tb
            constructor
            · rintro ⟨_, j, h2, h3⟩
              rw [itr_cong eG, itr_cong eG] at h3
              rw [itr_cong eG] at h2
              exact ⟨j, h2, h3⟩
            · rintro ⟨j, h2, h3⟩
              refine ⟨h1, j, ?_, ?_⟩
              · rw [itr_cong eG]; exact h2
              · rw [itr_cong eG, itr_cong eG]; exact h3)
          have he : enB f g B i = true := by
            unfold enB
            rw [decide_eq_true (p := hB (f (B + 43) 2) ((i : Int) / 64)) hE, decide_eq_true (p := 0 ≤ enD (GB f g B 0) (i : Int)) (by omega)]
            rfl
          obtain ⟨f', g', c', A, r⟩ := ih (i + 1) (by omega) (up2 fi (B + 154) 5 ((c + 1 : Nat) : Int)) (up2 gi (B + 156) c T) (c + 1) (by omega) u2_s (fun a b h h1 h2 h3 h4 => by
            rw [fb_ct_succ, fb_ct_succ, u2_s, he, hT3 a h1 h3, hT3 b h2 h4, ← hTr a b h h1 h2 h3 h4]
            congr 1
            exact fb_ct_cong fun j hj => by rw [u2_i (by omega)]) (fun a ha => by rw [up2_ne ha]; exact hg a ha) (hF.up ⟨rfl, rfl⟩)
          refine ⟨f', g', c', bk_X6_keepTrails_16 hs ⟨fun z => absurd z (by omega), fun _ => ⟨ob, fun z => absurd (by rw [e2]; exact hE) z, fun _ => ⟨?_, fun z => absurd (show fi (B + 143) i < 0 from z) (by rw [v0]; exact hv), fun _ => ⟨fi, gi, T, E, ⟨?_, ?_⟩, by omega, ?_⟩⟩⟩⟩, r⟩
          · rw [show ln σ (B + 143) = 512 from hs.o0.l6]; omega
          · rw [show fi (B + 43 + 111) 5 = (c : Int) from h5]; omega
          · rw [show fi (B + 43 + 111) 5 = (c : Int) from h5]; omega
          · rw [show fi (B + 43 + 111) 5 = (c : Int) from h5]
            exact A
      · obtain ⟨f', g', c', A, r⟩ := skip (by
          unfold enB
          rw [decide_eq_false (p := hB (f (B + 43) 2) ((i : Int) / 64)) hE, Bool.false_and])
        exact ⟨f', g', c', bk_X6_keepTrails_16 hs ⟨fun z => absurd z (by omega), fun _ => ⟨ob, fun _ => ⟨by omega, A⟩, fun z => absurd (by rw [e2] at z; exact z) hE⟩⟩, r⟩
  obtain ⟨f', g', c, A, r1, r2, r3, r4, r5⟩ := loop 512 0 rfl (up2 f0 (B + 154) 5 0) g 0 (by omega) u2_s (fun a b h h1 h2 h3 h4 => rfl) (fun _ _ => rfl) (Fr.rfl'.up ⟨rfl, rfl⟩)
  exact ⟨f', g', c, bk_X6_keepTrails_0 hs ⟨f0, g, B + 143, E0, A⟩, r1, r2, r3, r4, fun a k hk => by rw [r5 a k (by omega), a0 a (by omega)]⟩
