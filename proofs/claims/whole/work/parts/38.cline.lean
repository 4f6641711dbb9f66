/-! line, count, needs, worth -/
theorem bk_X3_setFallen_0 {σ : St} {f : FI} {g : FL} {a : Nat} {x1 : Int} {x2 : Int} {x3 : Int} {r : St × List Vl} (hs : Sh3 σ a) (h : ((x3 = 0 → ((0 ≤ x1 ∧ x1 < 8) ∧ (0 ≤ x2 ∧ x2 < 8)) ∧ ((((g a 1) &&& ((1#64 <<< (8 * x1 + x2).toNat) ^^^ (18446744073709551615#64))) = (g a 1) → (r = ((il σ f (up2 g a 1 ((g a 1) &&& ((1#64 <<< (8 * x1 + x2).toNat) ^^^ (18446744073709551615#64))))), [vI 0]))) ∧ (¬ ((g a 1) &&& ((1#64 <<< (8 * x1 + x2).toNat) ^^^ (18446744073709551615#64))) = (g a 1) → (r = ((il σ f (up2 g a 1 ((g a 1) &&& ((1#64 <<< (8 * x1 + x2).toNat) ^^^ (18446744073709551615#64))))), [vI 1]))))) ∧ (¬ x3 = 0 → ((0 ≤ x1 ∧ x1 < 8) ∧ (0 ≤ x2 ∧ x2 < 8)) ∧ ((((g a 1) ||| (1#64 <<< (8 * x1 + x2).toNat)) = (g a 1) → (r = ((il σ f (up2 g a 1 ((g a 1) ||| (1#64 <<< (8 * x1 + x2).toNat)))), [vI 0]))) ∧ (¬ ((g a 1) ||| (1#64 <<< (8 * x1 + x2).toNat)) = (g a 1) → (r = ((il σ f (up2 g a 1 ((g a 1) ||| (1#64 <<< (8 * x1 + x2).toNat)))), [vI 1]))))))) : Ex mt 1 37 (il σ f g) [vR 3 (some a), vI x1, vI x2, vI x3] r := Ex.mk mt_37 (show Gx mt 1 cd_X3_setFallen (il σ f g) b_X3_setFallen_0 [some (vR 3 (some a)), some (vI x1), some (vI x2), some (vI x3), none, none] [] r from (go_loadA rfl (gi_getL (go_stoL rfl rfl (go_loadA rfl (go_loadI rfl (gq_if_eq (fun e3 => have h1 := h.1 e3; (go_loadL rfl (go_loadI rfl (go_loadI rfl (go_callS rfl rfl rfl (pu_lineBit h1.1.1 h1.1.2) (go_pushL rfl (go_lxor (go_land (go_fall (gi_putL (go_loadA rfl (gi_getLe u2_s (go_loadL rfl (go_lcmp rfl (go_lif_eq (fun e6 => have h4 := h1.2.1 e6; (go_pushI rfl (go_fall (h4 ▸ (gq_retZ ⟨by decide, by decide⟩))))) (fun e6 => have h5 := h1.2.2 e6; (go_pushI rfl (go_goto (h5 ▸ (gq_retZ ⟨by decide, by decide⟩)))))))))))))))))))) (fun e3 => have h2 := h.2 e3; (go_loadL rfl (go_loadI rfl (go_loadI rfl (go_callS rfl rfl rfl (pu_lineBit h2.1.1 h2.1.2) (go_lor (go_goto (gi_putL (go_loadA rfl (gi_getLe u2_s (go_loadL rfl (go_lcmp rfl (go_lif_eq (fun e9 => have h7 := h2.2.1 e9; (go_pushI rfl (go_fall (h7 ▸ (gq_retZ ⟨by decide, by decide⟩))))) (fun e9 => have h8 := h2.2.2 e9; (go_pushI rfl (go_goto (h8 ▸ (gq_retZ ⟨by decide, by decide⟩)))))))))))))))))))))))))
theorem bk_X11_line_0 {σ : St} {f : FI} {g : FL} {a : Nat} {x1 : Int} {x2 : Int} {x3 : Int} {r : St × List Vl} (hs : Sh11 σ a) (h : ((¬ (((0 ≤ x1 ∧ x1 ≤ 7) ∧ (0 ≤ x2 ∧ x2 ≤ 7) ∧ ¬ x1 = x2)) → (r = ((il σ f g), [vI 0]))) ∧ ((((0 ≤ x1 ∧ x1 ≤ 7) ∧ (0 ≤ x2 ∧ x2 ≤ 7) ∧ ¬ x1 = x2)) → (∃ (f4 : FI) (g5 : FL) (v7 : Int), Ex mt 1 37 (il σ f g) [vR 3 (some (a + 43)), vI x1, vI x2, vI x3] ((il σ f4 g5), [vI v7]) ∧ ((v7 = 0 → (r = ((il σ f4 g5), [vI 0]))) ∧ (¬ v7 = 0 → (r = ((il σ f4 g5), [vI 1])))))))) : Ex mt 3 159 (il σ f g) [vR 11 (some a), vI x1, vI x2, vI x3] r := Ex.mk mt_159 (show Gx mt 3 cd_X11_line (il σ f g) b_X11_line_0 [some (vR 11 (some a)), some (vI x1), some (vI x2), some (vI x3)] [] r from (go_loadI rfl (go_loadI rfl (go_callS rfl rfl rfl (pu_isLine) (go_ifb_eq (fun e3 => have h1 := h.1 e3; (go_pushI rfl (go_fall (h1 ▸ (gq_retZ ⟨by decide, by decide⟩))))) (fun e3 => have h2 := h.2 e3; (go_loadA rfl (gi_getR (Sh11.r9 hs) (go_loadI rfl (go_loadI rfl (go_loadI rfl (Exists.elim h2 fun f4 w11 => Exists.elim w11 fun g5 w12 => Exists.elim w12 fun v7 h6 => (go_callV rfl rfl rfl h6.1 (gq_if_eq (fun e10 => have h8 := h6.2.1 e10; (go_pushI rfl (go_fall (h8 ▸ (gq_retZ ⟨by decide, by decide⟩))))) (fun e10 => have h9 := h6.2.2 e10; (go_pushI rfl (go_goto (h9 ▸ (gq_retZ ⟨by decide, by decide⟩)))))))))))))))))))
theorem bk_X12_line_0 {σ : St} {f : FI} {g : FL} {a : Nat} {x1 : Int} {x2 : Int} {x3 : Int} {r : St × List Vl} (hs : Sh12 σ a) (h : ((-2147483648 ≤ x1 ∧ x1 ≤ 2147483647)) ∧ ((¬ ((0 ≤ x1 ∧ x1 ≤ 7)) → (r = ((il σ f g), [vI 0]))) ∧ (((0 ≤ x1 ∧ x1 ≤ 7)) → ((-2147483648 ≤ x2 ∧ x2 ≤ 2147483647)) ∧ ((¬ ((0 ≤ x2 ∧ x2 ≤ 7)) → (r = ((il σ f g), [vI 0]))) ∧ (((0 ≤ x2 ∧ x2 ≤ 7)) → ((x1 = x2 → (r = ((il σ f g), [vI 0]))) ∧ (¬ x1 = x2 → ((-2147483648 ≤ (8 * x1) ∧ (8 * x1) ≤ 2147483647) ∧ (-2147483648 ≤ ((8 * x1) + x2) ∧ ((8 * x1) + x2) ≤ 2147483647) ∧ (0 ≤ ((8 * x1) + x2) ∧ ((8 * x1) + x2) < 64)) ∧ ((¬ (f (a + 22) ((((8 * x1) + x2)).toNat)) = x3 → ((-2147483648 ≤ (8 * x1) ∧ (8 * x1) ≤ 2147483647) ∧ (-2147483648 ≤ ((8 * x1) + x2) ∧ ((8 * x1) + x2) ≤ 2147483647) ∧ (0 ≤ ((8 * x1) + x2) ∧ ((8 * x1) + x2) < 64) ∧ (0 ≤ x3 ∧ x3 ≤ 1)) ∧ ((x3 = 0 → ((-2147483648 ≤ ((f a 34) + (-1)) ∧ ((f a 34) + (-1)) ≤ 2147483647)) ∧ (r = ((il σ (up2 (up2 f (a + 22) ((((8 * x1) + x2)).toNat) x3) a 34 ((f a 34) + (-1))) g), [vI 1]))) ∧ (¬ x3 = 0 → ((-2147483648 ≤ ((f a 34) + 1) ∧ ((f a 34) + 1) ≤ 2147483647)) ∧ (r = ((il σ (up2 (up2 f (a + 22) ((((8 * x1) + x2)).toNat) x3) a 34 ((f a 34) + 1)) g), [vI 1]))))) ∧ ((f (a + 22) ((((8 * x1) + x2)).toNat)) = x3 → (r = ((il σ f g), [vI 0]))))))))))) : Ex mt 2 248 (il σ f g) [vR 12 (some a), vI x1, vI x2, vI x3] r := Ex.mk mt_248 (show Gx mt 2 cd_X12_line (il σ f g) b_X12_line_0 [some (vR 12 (some a)), some (vI x1), some (vI x2), some (vI x3)] [] r from (go_loadI rfl (go_callS rfl rfl rfl (pu_isPlaceM h.1) (go_ifb_eq (fun e3 => have h1 := h.2.1 e3; (go_pushI rfl (h1 ▸ (gq_retZ ⟨by decide, by decide⟩)))) (fun e3 => have h2 := h.2.2 e3; (go_loadI rfl (go_callS rfl rfl rfl (pu_isPlaceM h2.1) (go_ifb_eq (fun e6 => have h4 := h2.2.1 e6; (go_pushI rfl (h4 ▸ (gq_retZ ⟨by decide, by decide⟩)))) (fun e6 => have h5 := h2.2.2 e6; (go_loadI rfl (go_loadI rfl (gq_icmp_eq (fun e9 => have h7 := h5.1 e9; (go_pushI rfl (h7 ▸ (gq_retZ ⟨by decide, by decide⟩)))) (fun e9 => have h8 := h5.2 e9; (go_loadA rfl (gi_getR (Sh12.r32 hs) (go_pushI rfl (go_loadI rfl (go_imul h8.1.1 (go_loadI rfl (go_iadd h8.1.2.1 (gi_zald (inl_ (Sh12.l32 hs) h8.1.2.2) (go_loadI rfl (gq_icmp_ne (fun e12 => have h10 := h8.2.1 e12; (go_loadA rfl (gi_getR (Sh12.r32 hs) (go_pushI rfl (go_loadI rfl (go_imul h10.1.1 (go_loadI rfl (go_iadd h10.1.2.1 (go_loadI rfl (gi_zast (inl_ (Sh12.l32 hs) h10.1.2.2.1) h10.1.2.2.2 (go_loadA rfl (go_dupA (gi_getIe (u2_a (by omega)) (go_loadI rfl (gq_if_eq (fun e15 => have h13 := h10.2.1 e15; (go_pushI rfl (go_fall (go_iadd h13.1 (gi_putI (go_pushI rfl (h13.2 ▸ (gq_retZ ⟨by decide, by decide⟩)))))))) (fun e15 => have h14 := h10.2.2 e15; (go_pushI rfl (go_goto (go_iadd h14.1 (gi_putI (go_pushI rfl (h14.2 ▸ (gq_retZ ⟨by decide, by decide⟩))))))))))))))))))))))) (fun e12 => have h11 := h8.2.2 e12; (go_fall (go_pushI rfl (h11 ▸ (gq_retZ ⟨by decide, by decide⟩))))))))))))))))))))))))))))
/-- the lines that have fallen -/
def IL (f : FI) (g : FL) (B : Nat) : Prop := (∀ l : Nat, l < 64 → f (B + 165 + 22) l = if (g (B + 43) 1).getLsbD l then 1 else 0) ∧ f (B + 165) 34 = (pc (g (B + 43) 1) : Int) ∧ ∀ b, b < 8 → (g (B + 43) 1).getLsbD (9 * b) = false
theorem sh1_bit {l : Nat} (hl : l < 64) (j : Nat) : (1#64 <<< l).getLsbD j = decide (l = j) := by
  rw [← BitVec.twoPow_eq, BitVec.getLsbD_twoPow]
  simp [hl]
theorem orb {x : BitVec 64} {l : Nat} (hl : l < 64) (j : Nat) : (x ||| (1#64 <<< l)).getLsbD j = (x.getLsbD j || decide (l = j)) := by
  rw [BitVec.getLsbD_or, sh1_bit hl]
theorem anb {x : BitVec 64} {l : Nat} (hl : l < 64) {j : Nat} (hj : j < 64) : (x &&& ((1#64 <<< l) ^^^ 18446744073709551615#64)).getLsbD j = (x.getLsbD j && !decide (l = j)) := by
  rw [show (18446744073709551615#64) = BitVec.allOnes 64 from by decide, BitVec.xor_allOnes, BitVec.getLsbD_and, BitVec.getLsbD_not, sh1_bit hl]
  simp [hj]
theorem pc_upd {x y : BitVec 64} {l : Nat} {b : Bool} (hl : l < 64) (h : ∀ j, j < 64 → y.getLsbD j = if j = l then b else x.getLsbD j) : pc y + (if x.getLsbD l then 1 else 0) = pc x + (if b then 1 else 0) := by
  rw [pc_ct, pc_ct, fb_ct_cong h]
  exact fb_ct_upd (fun j => x.getLsbD j) b hl
theorem c_line {σ : St} {f : FI} {g : FL} {B : Nat} (hs : Sh11 σ B) (hm : Sh12 σ (B + 165)) (h : IL f g B) {x y z : Int} (rx : -2147483648 ≤ x ∧ x ≤ 2147483647) (ry : -2147483648 ≤ y ∧ y ≤ 2147483647) (hz : z = 0 ∨ z = 1) : ∃ (v : Int) (f2 : FI) (g1 : FL), Ex mt 3 159 (il σ f g) [vR 11 (some B), vI x, vI y, vI z] (il σ f g1, [vI v]) ∧ Ex mt 2 248 (il σ f g1) [vR 12 (some (B + 165)), vI x, vI y, vI z] (il σ f2 g1, [vI v]) ∧ IL f2 g1 B ∧ Fr (fun a k => a = B + 165 + 22 ∨ (a = B + 165 ∧ k = 34)) f f2 ∧ ∀ a k, ¬ (a = B + 43 ∧ k = 1) → g1 a k = g a k := by
  by_cases hc : (0 ≤ x ∧ x ≤ 7) ∧ (0 ≤ y ∧ y ≤ 7) ∧ ¬ x = y
  · obtain ⟨i, rfl⟩ := Int.eq_ofNat_of_zero_le hc.1.1
    obtain ⟨j, rfl⟩ := Int.eq_ofNat_of_zero_le hc.2.1.1
    have e : (8 * (i : Int) + (j : Int)).toNat = 8 * i + j := by omega
    have hl : 8 * i + j < 64 := by omega
    have hf := h.1 _ hl
    have hp := pc_le (g (B + 43) 1)
    have h34 := h.2.1
    have hdg := h.2.2
    have hall := h.1
    generalize hl0 : 8 * i + j = l at *
    generalize hX : g (B + 43) 1 = X at *
    -- the class's new word and the model's new row
    have go : ∀ (Y : BitVec 64) (b : Bool), (∀ k, k < 64 → Y.getLsbD k = if k = l then b else X.getLsbD k) → z = (if b then 1 else 0) → (Ex mt 1 37 (il σ f g) [vR 3 (some (B + 43)), vI (i : Int), vI (j : Int), vI z] (il σ f (up2 g (B + 43) 1 Y), [vI (if Y = X then 0 else 1)])) → ∃ (v : Int) (f2 : FI) (g1 : FL), Ex mt 3 159 (il σ f g) [vR 11 (some B), vI (i : Int), vI (j : Int), vI z] (il σ f g1, [vI v]) ∧ Ex mt 2 248 (il σ f g1) [vR 12 (some (B + 165)), vI (i : Int), vI (j : Int), vI z] (il σ f2 g1, [vI v]) ∧ IL f2 g1 B ∧ Fr (fun a k => a = B + 165 + 22 ∨ (a = B + 165 ∧ k = 34)) f f2 ∧ ∀ a k, ¬ (a = B + 43 ∧ k = 1) → g1 a k = g a k := by
      intro Y b hY hzb hE
      have hpu := pc_upd hl hY
      have g1n : ∀ a k, ¬ (a = B + 43 ∧ k = 1) → up2 g (B + 43) 1 Y a k = g a k := fun a k hk => by rw [u2, if_neg hk]
      by_cases hb : X.getLsbD l = b
      · have hYX : Y = X := BitVec.eq_of_getLsbD_eq fun k hk => by
          rw [hY k hk]
          by_cases q : k = l
          · rw [if_pos q, q, hb]
          · rw [if_neg q]
        rw [if_pos hYX] at hE
        refine ⟨0, f, up2 g (B + 43) 1 Y, bk_X11_line_0 hs ⟨fun e => absurd hc e, fun _ => ⟨f, _, _, hE, fun _ => rfl, fun e => absurd rfl e⟩⟩, ?_, ⟨fun k hk => by rw [u2_s, hYX]; exact hall k hk, by rw [u2_s, hYX]; exact h34, fun b hb => by rw [u2_s, hYX]; exact hdg b hb⟩, Fr.rfl', g1n⟩
        refine bk_X12_line_0 hm ?_
        rw [e, hf]
        exact ⟨by omega, fun e => absurd hc.1 e, fun _ => ⟨by omega, fun e => absurd hc.2.1 e, fun _ => ⟨fun e => absurd e hc.2.2, fun _ => ⟨by omega, fun e => absurd (by rw [hzb, hb]) e, fun _ => rfl⟩⟩⟩⟩
      · have hYX : ¬ Y = X := fun q => hb (by rw [← q, hY l hl, if_pos rfl])
        rw [if_neg hYX] at hE
        refine ⟨1, up2 (up2 f (B + 165 + 22) l z) (B + 165) 34 (pc Y : Int), up2 g (B + 43) 1 Y, bk_X11_line_0 hs ⟨fun e => absurd hc e, fun _ => ⟨f, _, _, hE, fun e => absurd e (by decide), fun _ => rfl⟩⟩, ?_, ⟨fun k hk => ?_, ?_, fun b hb => by rw [u2_s, hY _ (by omega), if_neg (by omega)]; exact hdg b hb⟩, (Fr.rfl'.up (Or.inl rfl)).up (Or.inr ⟨rfl, rfl⟩), g1n⟩
        · refine bk_X12_line_0 hm ?_
          rw [e, hf, h34]
          have hne : ¬ (if X.getLsbD l = true then (1 : Int) else 0) = z := by
            rw [hzb]
            cases hx : X.getLsbD l <;> cases b <;> simp_all
          refine ⟨by omega, fun e => absurd hc.1 e, fun _ => ⟨by omega, fun e => absurd hc.2.1 e, fun _ => ⟨fun e => absurd e hc.2.2, fun _ => ⟨by omega, fun _ => ⟨⟨by omega, by omega, by omega, by omega⟩, fun z0 => ⟨by omega, ?_⟩, fun z1 => ⟨by omega, ?_⟩⟩, fun e => absurd e hne⟩⟩⟩⟩
          · have hbf : b = false := by cases b <;> simp_all
            have hxt : X.getLsbD l = true := by subst hbf; simpa using hb
            rw [hbf, hxt] at hpu
            simp at hpu
            rw [show (pc X : Int) + -1 = (pc Y : Int) by omega]
          · have hbf : b = true := by cases b <;> simp_all
            have hxt : X.getLsbD l = false := by subst hbf; simpa using hb
            rw [hbf, hxt] at hpu
            simp at hpu
            rw [show (pc X : Int) + 1 = (pc Y : Int) by omega]
        · rw [u2_a (by omega), u2, u2_s, hY k hk]
          by_cases q : k = l
          · rw [if_pos ⟨rfl, q⟩, if_pos q, hzb]
          · rw [if_neg (fun w => q w.2), if_neg q]
            exact hall k hk
        · rw [u2_s, u2_s]
    rcases hz with rfl | rfl
    · refine go (X &&& ((1#64 <<< l) ^^^ 18446744073709551615#64)) false (fun k hk => ?_) rfl ?_
      · rw [anb hl hk]
        by_cases q : k = l
        · simp [q]
        · have : ¬ l = k := fun w => q w.symm
          simp [q, this]
      · refine bk_X3_setFallen_0 hs.net ⟨fun _ => ?_, fun e => absurd rfl e⟩
        rw [e, hX]
        exact ⟨by omega, fun q => by rw [if_pos q], fun q => by rw [if_neg q]⟩
    · refine go (X ||| (1#64 <<< l)) true (fun k hk => ?_) rfl ?_
      · rw [orb hl]
        by_cases q : k = l
        · simp [q]
        · have : ¬ l = k := fun w => q w.symm
          simp [q, this]
      · refine bk_X3_setFallen_0 hs.net ⟨fun e => absurd e (by decide), fun _ => ?_⟩
        rw [e, hX]
        exact ⟨by omega, fun q => by rw [if_pos q], fun q => by rw [if_neg q]⟩
  · exact ⟨0, f, g, bk_X11_line_0 hs ⟨fun _ => rfl, fun e => absurd e hc⟩, bk_X12_line_0 hm ⟨by omega, fun _ => rfl, fun e1 => ⟨by omega, fun _ => rfl, fun e2 => ⟨fun _ => rfl, fun e3 => absurd ⟨e1, e2, e3⟩ hc⟩⟩⟩, h, Fr.rfl', fun _ _ _ => rfl⟩
def A_X3_countRows_4 (σ : St) (f : FI) (g : FL) (a : Nat) (x1 : Int) (x2 : Int) (x3 : Int) (r : St × List Vl) : Prop := Gx mt 0 cd_X3_countRows (il σ f g) (cd_X3_countRows 4) [some (vR 3 (some a)), some (vI x1), some (vI x2), some (vI x3)] [] r
theorem bk_X3_countRows_0 {σ : St} {f : FI} {g : FL} {a : Nat} {x1 : Int} {r : St × List Vl} (hs : Sh3 σ a) (h : (A_X3_countRows_4 σ f g a x1 0 0 r)) : Ex mt 0 33 (il σ f g) [vR 3 (some a), vI x1] r := Ex.mk mt_33 (show Gx mt 0 cd_X3_countRows (il σ f g) b_X3_countRows_0 [some (vR 3 (some a)), some (vI x1), none, none] [] r from (go_pushI rfl (go_stoI rfl rfl (go_pushI rfl (go_stoI rfl rfl (go_fall (h)))))))
theorem bk_X3_countRows_4 {σ : St} {f : FI} {g : FL} {a : Nat} {x1 : Int} {x2 : Int} {x3 : Int} {r : St × List Vl} (hs : Sh3 σ a) (h : ((8 ≤ x3 → (r = ((il σ f g), [vI x2]))) ∧ (¬ 8 ≤ x3 → ((-2147483648 ≤ (8 * x1) ∧ (8 * x1) ≤ 2147483647) ∧ (-2147483648 ≤ ((8 * x1) + x3) ∧ ((8 * x1) + x3) ≤ 2147483647) ∧ (0 ≤ ((8 * x1) + x3) ∧ ((8 * x1) + x3) < 16) ∧ (-2147483648 ≤ (x2 + (f (tA a ((8 * x1) + x3)) 3)) ∧ (x2 + (f (tA a ((8 * x1) + x3)) 3)) ≤ 2147483647) ∧ (-2147483648 ≤ (x3 + 1) ∧ (x3 + 1) ≤ 2147483647)) ∧ (A_X3_countRows_4 σ f g a x1 (x2 + (f (tA a ((8 * x1) + x3)) 3)) (x3 + 1) r)))) : A_X3_countRows_4 σ f g a x1 x2 x3 r := (show Gx mt 0 cd_X3_countRows (il σ f g) b_X3_countRows_4 [some (vR 3 (some a)), some (vI x1), some (vI x2), some (vI x3)] [] r from (go_loadI rfl (go_pushI rfl (gq_icmp_ge (fun e3 => have h1 := h.1 e3; (go_loadI rfl (h1 ▸ gq_retI))) (fun e3 => have h2 := h.2 e3; (go_loadI rfl (go_loadA rfl (gi_getR (Sh3.r0 hs) (go_pushI rfl (go_loadI rfl (go_imul h2.1.1 (go_loadI rfl (go_iadd h2.1.2.1 (gi_aald (inl_ (Sh3.l0 hs) h2.1.2.2.1) (Sh3.t hs h2.1.2.2.1) (gi_getI (go_iadd h2.1.2.2.2.1 (go_stoI rfl rfl (go_iinc rfl h2.1.2.2.2.2 rfl (go_goto (h2.2))))))))))))))))))))
theorem bk_X11_count_0 {σ : St} {f : FI} {g : FL} {a : Nat} {x1 : Int} {r : St × List Vl} (hs : Sh11 σ a) (h : ((x1 = 0 → (r = ((il σ f g), [vI (f a 3)]))) ∧ (x1 = 1 → (∃ (f3 : FI) (g4 : FL) (v6 : Int), Ex mt 0 33 (il σ f g) [vR 3 (some (a + 43)), vI 0] ((il σ f3 g4), [vI v6]) ∧ (r = ((il σ f3 g4), [vI v6])))) ∧ (x1 = 2 → (∃ (f10 : FI) (g11 : FL) (v13 : Int), Ex mt 0 33 (il σ f g) [vR 3 (some (a + 43)), vI 1] ((il σ f10 g11), [vI v13]) ∧ (r = ((il σ f10 g11), [vI v13])))) ∧ (x1 = 3 → (r = ((il σ f g), [vI (pc (g (a + 43) 1) : Int)]))) ∧ (x1 = 4 → (r = ((il σ f g), [vI (f a 1)]))) ∧ (x1 = 5 → (∃ (f19 : FI) (g20 : FL) (v22 : Int), Ex mt 1 34 (il σ f g) [vR 3 (some (a + 43))] ((il σ f19 g20), [vI v22]) ∧ ((0 ≤ v22 ∧ v22 < 4096)) ∧ (r = ((il σ f19 g20), [vI (pcI v22)])))) ∧ (x1 = 6 → (r = ((il σ f g), [vI (f (a + 36) 1)]))) ∧ (x1 = 7 → (r = ((il σ f g), [vI (f (a + 162) 2)])))) ∧ (¬ (0 ≤ x1 ∧ x1 < 8) → (r = ((il σ f g), [vI (-1)])))) : Ex mt 2 187 (il σ f g) [vR 11 (some a), vI x1] r := Ex.mk mt_187 (show Gx mt 2 cd_X11_count (il σ f g) b_X11_count_0 [some (vR 11 (some a)), some (vI x1)] [] r from (go_loadI rfl (go_sw (fun j hj => match j, hj with | 0, _ => fun e => have h1 := h.1.1 e; (go_fall (go_loadA rfl (gi_getI (h1 ▸ gq_retI)))) | 1, _ => fun e => have h2 := h.1.2.1 e; (go_fall (go_loadA rfl (gi_getR (Sh11.r9 hs) (go_pushI rfl (Exists.elim h2 fun f3 w7 => Exists.elim w7 fun g4 w8 => Exists.elim w8 fun v6 h5 => (go_callV rfl rfl rfl h5.1 (h5.2 ▸ gq_retI))))))) | 2, _ => fun e => have h9 := h.1.2.2.1 e; (go_fall (go_loadA rfl (gi_getR (Sh11.r9 hs) (go_pushI rfl (Exists.elim h9 fun f10 w14 => Exists.elim w14 fun g11 w15 => Exists.elim w15 fun v13 h12 => (go_callV rfl rfl rfl h12.1 (h12.2 ▸ gq_retI))))))) | 3, _ => fun e => have h16 := h.1.2.2.2.1 e; (go_fall (go_loadA rfl (gi_getR (Sh11.r9 hs) (gi_getL (go_callS rfl rfl rfl (pu_bitCountL) (h16 ▸ gq_retI)))))) | 4, _ => fun e => have h17 := h.1.2.2.2.2.1 e; (go_fall (go_loadA rfl (gi_getI (h17 ▸ gq_retI)))) | 5, _ => fun e => have h18 := h.1.2.2.2.2.2.1 e; (go_fall (go_loadA rfl (gi_getR (Sh11.r9 hs) (Exists.elim h18 fun f19 w23 => Exists.elim w23 fun g20 w24 => Exists.elim w24 fun v22 h21 => (go_callV rfl rfl rfl h21.1 (go_callS rfl rfl rfl (pu_bitCountI h21.2.1) (h21.2.2 ▸ gq_retI))))))) | 6, _ => fun e => have h25 := h.1.2.2.2.2.2.2.1 e; (go_fall (go_loadA rfl (gi_getR (Sh11.r8 hs) (gi_getI (h25 ▸ gq_retI))))) | 7, _ => fun e => have h26 := h.1.2.2.2.2.2.2.2 e; (go_fall (go_loadA rfl (gi_getR (Sh11.r13 hs) (gi_getI (h26 ▸ gq_retI))))) | (k + 8), hk => fun _ => absurd hk (by omega)) (fun e => have h27 := h.2 e; (go_pushI rfl (h27 ▸ gq_retI))))))
def A_X12_count_55 (σ : St) (f : FI) (g : FL) (a : Nat) (x1 : Int) (x2 : Int) (x3 : Int) (r : St × List Vl) : Prop := Gx mt 2 cd_X12_count (il σ f g) (cd_X12_count 55) [some (vR 12 (some a)), some (vI x1), some (vI x2), some (vI x3)] [] r
theorem bk_X12_count_0 {σ : St} {f : FI} {g : FL} {a : Nat} {x1 : Int} {r : St × List Vl} (hs : Sh12 σ a) (h : ((x1 = 0 → (r = ((il σ f g), [vI (f a 4)]))) ∧ (x1 = 1 → (A_X12_count_55 σ f g a x1 0 0 r)) ∧ (x1 = 2 → (A_X12_count_55 σ f g a x1 0 0 r)) ∧ (x1 = 3 → (r = ((il σ f g), [vI (f a 34)]))) ∧ (x1 = 4 → (r = ((il σ f g), [vI (f a 1)]))) ∧ (x1 = 5 → (∃ (f7 : FI) (g8 : FL) (v10 : Int), Ex mt 1 246 (il σ f g) [vR 12 (some a)] ((il σ f7 g8), [vI v10]) ∧ (r = ((il σ f7 g8), [vI v10])))) ∧ (x1 = 6 → (r = ((il σ f g), [vI (f a 67)]))) ∧ (x1 = 7 → (r = ((il σ f g), [vI (f a 69)])))) ∧ (¬ (0 ≤ x1 ∧ x1 < 8) → (r = ((il σ f g), [vI (-1)])))) : Ex mt 2 311 (il σ f g) [vR 12 (some a), vI x1] r := Ex.mk mt_311 (show Gx mt 2 cd_X12_count (il σ f g) b_X12_count_0 [some (vR 12 (some a)), some (vI x1), none, none] [] r from (go_pushI rfl (go_stoI rfl rfl (go_loadI rfl (go_sw (fun j hj => match j, hj with | 0, _ => fun e => have h1 := h.1.1 e; (go_fall (go_loadA rfl (gi_getI (h1 ▸ gq_retI)))) | 1, _ => fun e => have h2 := h.1.2.1 e; (go_fall (go_pushI rfl (go_stoI rfl rfl (go_fall (h2))))) | 2, _ => fun e => have h3 := h.1.2.2.1 e; (go_fall (go_pushI rfl (go_stoI rfl rfl (go_fall (h3))))) | 3, _ => fun e => have h4 := h.1.2.2.2.1 e; (go_fall (go_loadA rfl (gi_getI (h4 ▸ gq_retI)))) | 4, _ => fun e => have h5 := h.1.2.2.2.2.1 e; (go_fall (go_loadA rfl (gi_getI (h5 ▸ gq_retI)))) | 5, _ => fun e => have h6 := h.1.2.2.2.2.2.1 e; (go_fall (go_loadA rfl (Exists.elim h6 fun f7 w11 => Exists.elim w11 fun g8 w12 => Exists.elim w12 fun v10 h9 => (go_callV rfl rfl rfl h9.1 (h9.2 ▸ gq_retI))))) | 6, _ => fun e => have h13 := h.1.2.2.2.2.2.2.1 e; (go_fall (go_loadA rfl (gi_getI (h13 ▸ gq_retI)))) | 7, _ => fun e => have h14 := h.1.2.2.2.2.2.2.2 e; (go_fall (go_loadA rfl (gi_getI (h14 ▸ gq_retI)))) | (k + 8), hk => fun _ => absurd hk (by omega)) (fun e => have h15 := h.2 e; (go_pushI rfl (h15 ▸ gq_retI))))))))
theorem bk_X12_count_55 {σ : St} {f : FI} {g : FL} {a : Nat} {x1 : Int} {x2 : Int} {x3 : Int} {r : St × List Vl} (hs : Sh12 σ a) (h : ((8 ≤ x3 → (r = ((il σ f g), [vI x2]))) ∧ (¬ 8 ≤ x3 → ((-2147483648 ≤ (x1 - 1) ∧ (x1 - 1) ≤ 2147483647) ∧ (-2147483648 ≤ (8 * (x1 - 1)) ∧ (8 * (x1 - 1)) ≤ 2147483647) ∧ (-2147483648 ≤ ((8 * (x1 - 1)) + x3) ∧ ((8 * (x1 - 1)) + x3) ≤ 2147483647) ∧ (0 ≤ ((8 * (x1 - 1)) + x3) ∧ ((8 * (x1 - 1)) + x3) < 16) ∧ (-2147483648 ≤ (x2 + (f (a + 21) ((((8 * (x1 - 1)) + x3)).toNat))) ∧ (x2 + (f (a + 21) ((((8 * (x1 - 1)) + x3)).toNat))) ≤ 2147483647) ∧ (-2147483648 ≤ (x3 + 1) ∧ (x3 + 1) ≤ 2147483647)) ∧ (A_X12_count_55 σ f g a x1 (x2 + (f (a + 21) ((((8 * (x1 - 1)) + x3)).toNat))) (x3 + 1) r)))) : A_X12_count_55 σ f g a x1 x2 x3 r := (show Gx mt 2 cd_X12_count (il σ f g) b_X12_count_55 [some (vR 12 (some a)), some (vI x1), some (vI x2), some (vI x3)] [] r from (go_loadI rfl (go_pushI rfl (gq_icmp_ge (fun e3 => have h1 := h.1 e3; (go_loadI rfl (h1 ▸ gq_retI))) (fun e3 => have h2 := h.2 e3; (go_loadI rfl (go_loadA rfl (gi_getR (Sh12.r31 hs) (go_pushI rfl (go_loadI rfl (go_pushI rfl (go_isub h2.1.1 (go_imul h2.1.2.1 (go_loadI rfl (go_iadd h2.1.2.2.1 (gi_iald (inl_ (Sh12.l31 hs) h2.1.2.2.2.1) (go_iadd h2.1.2.2.2.2.1 (go_stoI rfl rfl (go_iinc rfl h2.1.2.2.2.2.2 rfl (go_goto (h2.2)))))))))))))))))))))
theorem c_count {σ : St} {f : FI} {g : FL} {B : Nat} (hs : Sh11 σ B) (hm : Sh12 σ (B + 165)) {w : Nat} {q md nn : Nat → Nat} (h : IW σ f g B w q md) (hT : IT f B) (hB : ITb f B nn) (hL : IL f g B) (hX : IX f B) (hC : IC f B) {x : Int} (rx : -2147483648 ≤ x ∧ x ≤ 2147483647) : ∃ v : Int, Ex mt 2 187 (il σ f g) [vR 11 (some B), vI x] (il σ f g, [vI v]) ∧ Ex mt 2 311 (il σ f g) [vR 12 (some (B + 165)), vI x] (il σ f g, [vI v]) := by
  have rows : ∀ s : Nat, s ≤ 1 → ∃ v : Int, Ex mt 0 33 (il σ f g) [vR 3 (some (B + 43)), vI (s : Int)] (il σ f g, [vI v]) ∧ A_X12_count_55 σ f g (B + 165) ((s : Int) + 1) 0 0 (il σ f g, [vI v]) := by
    intro s hs1
    have loop : ∀ k i : Nat, i + k = 8 → ∀ n : Int, 0 ≤ n → n ≤ 12 * i → ∃ v : Int, A_X3_countRows_4 σ f g (B + 43) (s : Int) n (i : Int) (il σ f g, [vI v]) ∧ A_X12_count_55 σ f g (B + 165) ((s : Int) + 1) n (i : Int) (il σ f g, [vI v]) := by
      intro k
      induction k with
      | zero =>
        intro i hi n h0 hn
        obtain rfl : i = 8 := by omega
        exact ⟨n, bk_X3_countRows_4 hs.net ⟨fun _ => rfl, fun e => absurd (by decide) e⟩, bk_X12_count_55 hm ⟨fun _ => rfl, fun e => absurd (by decide) e⟩⟩
      | succ k ih =>
        intro i hi n h0 hn
        obtain ⟨tc, tm⟩ := hB (8 * s + i) (by omega)
        have n12 := tc.1.2
        have e1 : tA (B + 43) (8 * (s : Int) + (i : Int)) = tB B (8 * s + i) := by rw [← tA_tB]; congr 1
        have e2 : (8 * ((s : Int) + 1 - 1) + (i : Int)).toNat = 8 * s + i := by omega
        obtain ⟨v, a1, a2⟩ := ih (i + 1) (by omega) (n + (nn (8 * s + i) : Int)) (by omega) (by omega)
        refine ⟨v, bk_X3_countRows_4 hs.net ⟨fun e => absurd e (by omega), fun _ => ?_⟩, bk_X12_count_55 hm ⟨fun e => absurd e (by omega), fun _ => ?_⟩⟩
        · rw [e1, tc.1.1]
          exact ⟨by omega, a1⟩
        · rw [e2, tm.1]
          exact ⟨by omega, a2⟩
    obtain ⟨v, a1, a2⟩ := loop 8 0 rfl 0 (by decide) (by decide)
    exact ⟨v, bk_X3_countRows_0 hs.net a1, a2⟩
  have kC : ∀ r, (((x = 0 → (r = ((il σ f g), [vI (f B 3)]))) ∧ (x = 1 → (∃ (f3 : FI) (g4 : FL) (v6 : Int), Ex mt 0 33 (il σ f g) [vR 3 (some (B + 43)), vI 0] ((il σ f3 g4), [vI v6]) ∧ (r = ((il σ f3 g4), [vI v6])))) ∧ (x = 2 → (∃ (f10 : FI) (g11 : FL) (v13 : Int), Ex mt 0 33 (il σ f g) [vR 3 (some (B + 43)), vI 1] ((il σ f10 g11), [vI v13]) ∧ (r = ((il σ f10 g11), [vI v13])))) ∧ (x = 3 → (r = ((il σ f g), [vI (pc (g (B + 43) 1) : Int)]))) ∧ (x = 4 → (r = ((il σ f g), [vI (f B 1)]))) ∧ (x = 5 → (∃ (f19 : FI) (g20 : FL) (v22 : Int), Ex mt 1 34 (il σ f g) [vR 3 (some (B + 43))] ((il σ f19 g20), [vI v22]) ∧ ((0 : Int) ≤ v22 ∧ v22 < 4096) ∧ (r = ((il σ f19 g20), [vI (pcI v22)])))) ∧ (x = 6 → (r = ((il σ f g), [vI (f (B + 36) 1)]))) ∧ (x = 7 → (r = ((il σ f g), [vI (f (B + 162) 2)])))) ∧ (¬ (0 ≤ x ∧ x < 8) → (r = ((il σ f g), [vI (-1)])))) → Ex mt 2 187 (il σ f g) [vR 11 (some B), vI x] r := fun r hr => bk_X11_count_0 hs hr
  by_cases hx : 0 ≤ x ∧ x < 8
  · have hc : x = 0 ∨ x = 1 ∨ x = 2 ∨ x = 3 ∨ x = 4 ∨ x = 5 ∨ x = 6 ∨ x = 7 := by omega
    rcases hc with rfl | rfl | rfl | rfl | rfl | rfl | rfl | rfl
    · exact ⟨f B 3, kC _ (by simp), bk_X12_count_0 hm (by simp [h.1.2.1, h.1.2.2])⟩
    · obtain ⟨v, a1, a2⟩ := rows 0 (by decide)
      exact ⟨v, kC _ ⟨⟨fun e => absurd e (by decide), fun _ => ⟨f, g, v, a1, rfl⟩, fun e => absurd e (by decide), fun e => absurd e (by decide), fun e => absurd e (by decide), fun e => absurd e (by decide), fun e => absurd e (by decide), fun e => absurd e (by decide)⟩, fun e => absurd hx e⟩, bk_X12_count_0 hm ⟨⟨fun e => absurd e (by decide), fun _ => a2, fun e => absurd e (by decide), fun e => absurd e (by decide), fun e => absurd e (by decide), fun e => absurd e (by decide), fun e => absurd e (by decide), fun e => absurd e (by decide)⟩, fun e => absurd hx e⟩⟩
    · obtain ⟨v, a1, a2⟩ := rows 1 (by decide)
      exact ⟨v, kC _ ⟨⟨fun e => absurd e (by decide), fun e => absurd e (by decide), fun _ => ⟨f, g, v, a1, rfl⟩, fun e => absurd e (by decide), fun e => absurd e (by decide), fun e => absurd e (by decide), fun e => absurd e (by decide), fun e => absurd e (by decide)⟩, fun e => absurd hx e⟩, bk_X12_count_0 hm ⟨⟨fun e => absurd e (by decide), fun e => absurd e (by decide), fun _ => a2, fun e => absurd e (by decide), fun e => absurd e (by decide), fun e => absurd e (by decide), fun e => absurd e (by decide), fun e => absurd e (by decide)⟩, fun e => absurd hx e⟩⟩
    · exact ⟨_, kC _ (by simp; rfl), bk_X12_count_0 hm (by simp [hL.2.1])⟩
    · exact ⟨_, kC _ (by simp; rfl), bk_X12_count_0 hm (by simp [hT.1.1])⟩
    · obtain ⟨u, U, E⟩ := x_unlikeBoxes (g := g) hs.net hB
      have u1 := U.1
      have E2 := x_unlikeMany (g := g) hm hB.ms U
      refine ⟨(cb 8 u : Int), kC _ ⟨⟨fun e => absurd e (by decide), fun e => absurd e (by decide), fun e => absurd e (by decide), fun e => absurd e (by decide), fun e => absurd e (by decide), fun _ => ⟨f, g, _, E, by omega, by rw [pcI_cb, cb_8_12 u1]⟩, fun e => absurd e (by decide), fun e => absurd e (by decide)⟩, fun e => absurd hx e⟩, bk_X12_count_0 hm ⟨⟨fun e => absurd e (by decide), fun e => absurd e (by decide), fun e => absurd e (by decide), fun e => absurd e (by decide), fun e => absurd e (by decide), fun _ => ⟨f, g, _, E2, rfl⟩, fun e => absurd e (by decide), fun e => absurd e (by decide)⟩, fun e => absurd hx e⟩⟩
    · exact ⟨_, kC _ (by simp; rfl), bk_X12_count_0 hm (by simp [hX.1.1])⟩
    · exact ⟨_, kC _ (by simp; rfl), bk_X12_count_0 hm (by simp [hC.1.1])⟩
  · exact ⟨-1, kC _ ⟨⟨fun e => absurd (by omega) hx, fun e => absurd (by omega) hx, fun e => absurd (by omega) hx, fun e => absurd (by omega) hx, fun e => absurd (by omega) hx, fun e => absurd (by omega) hx, fun e => absurd (by omega) hx, fun e => absurd (by omega) hx⟩, fun _ => rfl⟩, bk_X12_count_0 hm ⟨⟨fun e => absurd (by omega) hx, fun e => absurd (by omega) hx, fun e => absurd (by omega) hx, fun e => absurd (by omega) hx, fun e => absurd (by omega) hx, fun e => absurd (by omega) hx, fun e => absurd (by omega) hx, fun e => absurd (by omega) hx⟩, fun _ => rfl⟩⟩
