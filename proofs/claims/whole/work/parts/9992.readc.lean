/-! the class reads the text of a wish -/
theorem bk_X4_read_w {σ : St} {f : FI} {g : FL} {b : Nat} {x1 : Nat} {x2 : Int} {r : St × List Vl} (hs : Sh4w σ b) (h : ((ln (wR σ (b + 5) 3 (some x1)) x1 : Int) < 2147483648 ∧ Sh4 (wR σ (b + 5) 3 (some x1)) b) ∧ (A_X4_read_63 (wR σ (b + 5) 3 (some x1)) (up2 (up2 (up2 (up2 (up2 (up2 (up2 (up2 (up2 f (b + 5) 4 (iMin x2 (ln (wR σ (b + 5) 3 (some x1)) x1 : Int))) (b + 5) 5 0) (b + 6) 3 0) (b + 5) 6 0) (b + 5) 7 0) (b + 5) 8 0) (b + 5) 9 0) (b + 5) 10 0) (b + 5) 11 0) g b 1 0 r)) : Ex mt 5 50 (il σ f g) [vR 4 (some (b + 5)), vR 14 (some x1), vI x2] r := Ex.mk mt_50 (show Gx mt 5 cd_X4_read (il σ f g) b_X4_read_0 [some (vR 4 (some (b + 5))), some (vR 14 (some x1)), some (vI x2), none, none] [] r from (go_loadA rfl (go_loadA rfl (gi_putR (go_loadA rfl (go_loadI rfl (go_loadA rfl (gi_alen h.1.1 rfl (go_min rfl (gi_putI (go_loadA rfl (go_pushI rfl (gi_putI (go_loadA rfl (gi_getR (Sh4.r0 h.1.2) (go_pushI rfl (gi_putI (go_loadA rfl (go_pushI rfl (gi_putI (go_loadA rfl (go_pushI rfl (gi_putI (go_loadA rfl (go_pushI rfl (gi_putI (go_loadA rfl (go_pushI rfl (gi_putI (go_loadA rfl (go_pushI rfl (gi_putI (go_loadA rfl (go_pushI rfl (gi_putZ ⟨by decide, by decide⟩ (go_pushI rfl (go_stoI rfl rfl (go_pushI rfl (go_stoI rfl rfl (go_fall (h.2 _ _)))))))))))))))))))))))))))))))))))))))))
theorem sh4_of {σ : St} {B : Nat} (hs : Sh11 σ B) : Sh4 (wR σ (B + 5) 3 (some (B + 1))) B := by
  have h := hs.o6
  have h9 := h.2.1
  have k : ∀ b j, ¬ (b = B + 5 ∧ j = 3) → gR (wR σ (B + 5) 3 (some (B + 1))) b j = gR σ b j := fun b j hb => by rw [wR_gR, if_neg hb]
  exact ⟨(k _ _ (by omega)).trans h.1, ⟨(k _ _ (by omega)).trans h9.1, h9.2.1, (k _ _ (by omega)).trans h9.2.2.1, h9.2.2.2.1, (k _ _ (by omega)).trans h9.2.2.2.2.1, h9.2.2.2.2.2⟩, (k _ _ (by omega)).trans h.2.2.1, h.2.2.2.1, (k _ _ (by omega)).trans h.2.2.2.2.1, h.2.2.2.2.2, by rw [wR_gR, if_pos ⟨rfl, rfl⟩], hs.2.1⟩
theorem exw_text {σ : St} {B : Nat} : ExW B σ (wR σ (B + 5) 3 (some (B + 1))) := ⟨Nat.le_refl _, fun a _ => ⟨rfl, rfl, fun k h1 _ _ => by rw [wR_gR, if_neg h1]⟩⟩
theorem x_readC {σ : St} {f fc' : FI} {g : FL} {B n : Nat} {F : Int} (hs : Sh11 σ B) (hn : n ≤ 200) (A : A_X4_read_63 (wR σ (B + 5) 3 (some (B + 1))) (inc f B (n : Int)) g B 1 0 (il (wR σ (B + 5) 3 (some (B + 1))) fc' g, [vI F])) : Ex mt 5 50 (il σ f g) [vR 4 (some (B + 5)), vR 14 (some (B + 1)), vI (n : Int)] (il (wR σ (B + 5) 3 (some (B + 1))) fc' g, [vI F]) := by
  have s4 := sh4_of hs
  have l1 : ln (wR σ (B + 5) 3 (some (B + 1))) (B + 1) = 200 := hs.2.1
  have im : iMin (n : Int) ((200 : Nat) : Int) = (n : Int) := by
    unfold iMin
    split <;> omega
  refine bk_X4_read_w hs.o6 ?_
  rw [l1, im]
  exact ⟨⟨by decide, s4⟩, A⟩
