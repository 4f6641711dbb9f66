/-! ends: the model, and the call -/
def A_X12_endsAs_17 (σ : St) (f : FI) (g : FL) (a : Nat) (x2 : Int) (x3 : Int) (r : St × List Vl) : Prop := ∀ (y1 : Int) (y4 : Option Vl) (y5 : Option Vl), Gx mt 4 cd_X12_endsAs (il σ f g) (cd_X12_endsAs 17) [some (vR 12 (some a)), some (vI y1), some (vI x2), some (vI x3), y4, y5] [] r
theorem bk_X12_endsAs_0 {σ : St} {f : FI} {g : FL} {a : Nat} {x1 : Int} {x2 : Int} {r : St × List Vl} (hs : Sh12 σ a) (h : ((-2147483648 ≤ ((f a 39) + 1) ∧ ((f a 39) + 1) ≤ 2147483647)) ∧ (A_X12_endsAs_17 σ (up2 (up2 f a 39 ((f a 39) + 1)) a 38 0) g a x2 x1 r)) : Ex mt 4 255 (il σ f g) [vR 12 (some a), vI x1, vI x2] r := Ex.mk mt_255 (show Gx mt 4 cd_X12_endsAs (il σ f g) b_X12_endsAs_0 [some (vR 12 (some a)), some (vI x1), some (vI x2), none, none, none] [] r from (go_loadA rfl (go_dupA (gi_getI (go_pushI rfl (go_iadd h.1 (gi_putI (go_loadI rfl (go_stoI rfl rfl (go_loadA rfl (go_pushI rfl (gi_putI (go_fall (h.2 _ _ _))))))))))))))
theorem bk_X12_endsAs_17 {σ : St} {f : FI} {g : FL} {a : Nat} {x2 : Int} {x3 : Int} {r : St × List Vl} (hs : Sh12 σ a) (h : ((0 ≤ x3 ∧ x3 < 512)) ∧ ((¬ (f (a + 24) ((x3).toNat)) = (f a 39) → ((0 ≤ x3 ∧ x3 < 512) ∧ (-2147483648 ≤ x3 ∧ x3 ≤ 2147483647) ∧ (-2147483648 ≤ x2 ∧ x2 ≤ 2147483647) ∧ (0 ≤ (x3 / 64) ∧ (x3 / 64) < 32) ∧ (-2147483648 ≤ (8 * ((x2 / p2 (x3 / 64)) % 2)) ∧ (8 * ((x2 / p2 (x3 / 64)) % 2)) ≤ 2147483647) ∧ (-2147483648 ≤ ((8 * ((x2 / p2 (x3 / 64)) % 2)) + (x3 / 64)) ∧ ((8 * ((x2 / p2 (x3 / 64)) % 2)) + (x3 / 64)) ≤ 2147483647)) ∧ (∃ (f4 : FI) (g5 : FL) (v7 : Int), Ex mt 3 254 (il σ (up2 f (a + 24) ((x3).toNat) (f a 39)) g) [vR 12 (some a), vI ((8 * ((x2 / p2 (x3 / 64)) % 2)) + (x3 / 64)), vI x3] ((il σ f4 g5), [vI v7]) ∧ ((¬ (f4 a 40) = (-1) → ((-2147483648 ≤ (16 * (x3 / 64)) ∧ (16 * (x3 / 64)) ≤ 2147483647) ∧ 0 ≤ (f4 a 40) ∧ (-2147483648 ≤ ((16 * (x3 / 64)) + ((f4 a 40) % 12)) ∧ ((16 * (x3 / 64)) + ((f4 a 40) % 12)) ≤ 2147483647)) ∧ ((0 ≤ (f4 a 38) ∧ (f4 a 38) < 513) ∧ (-2147483648 ≤ ((f4 a 38) + 1) ∧ ((f4 a 38) + 1) ≤ 2147483647)) ∧ (((f4 a 41) ≤ 0 → (A_X12_endsAs_17 σ (up2 (up2 f4 (a + 23) (((f4 a 38)).toNat) ((16 * (x3 / 64)) + ((f4 a 40) % 12))) a 38 ((f4 a 38) + 1)) g5 a x2 v7 r)) ∧ (¬ (f4 a 41) ≤ 0 → ((¬ (f4 a 41) = 1 → (r = ((il σ (up2 (up2 f4 (a + 23) (((f4 a 38)).toNat) ((16 * (x3 / 64)) + ((f4 a 40) % 12))) a 38 ((f4 a 38) + 1)) g5), [vI (-2)]))) ∧ ((f4 a 41) = 1 → (r = ((il σ (up2 (up2 f4 (a + 23) (((f4 a 38)).toNat) ((16 * (x3 / 64)) + ((f4 a 40) % 12))) a 38 ((f4 a 38) + 1)) g5), [vI v7]))))))) ∧ ((f4 a 40) = (-1) → ((0 ≤ (f4 a 38) ∧ (f4 a 38) < 513) ∧ (-2147483648 ≤ ((f4 a 38) + 1) ∧ ((f4 a 38) + 1) ≤ 2147483647)) ∧ (((f4 a 41) ≤ 0 → (A_X12_endsAs_17 σ (up2 (up2 f4 (a + 23) (((f4 a 38)).toNat) (-2)) a 38 ((f4 a 38) + 1)) g5 a x2 v7 r)) ∧ (¬ (f4 a 41) ≤ 0 → ((¬ (f4 a 41) = 1 → (r = ((il σ (up2 (up2 f4 (a + 23) (((f4 a 38)).toNat) (-2)) a 38 ((f4 a 38) + 1)) g5), [vI (-2)]))) ∧ ((f4 a 41) = 1 → (r = ((il σ (up2 (up2 f4 (a + 23) (((f4 a 38)).toNat) (-2)) a 38 ((f4 a 38) + 1)) g5), [vI v7])))))))))) ∧ ((f (a + 24) ((x3).toNat)) = (f a 39) → (r = ((il σ f g), [vI (-3)]))))) : A_X12_endsAs_17 σ f g a x2 x3 r := fun y1 y4 y5 => (show Gx mt 4 cd_X12_endsAs (il σ f g) b_X12_endsAs_17 [some (vR 12 (some a)), some (vI y1), some (vI x2), some (vI x3), y4, y5] [] r from (go_loadA rfl (gi_getR (Sh12.r36 hs) (go_loadI rfl (gi_iald (inl_ (Sh12.l36 hs) h.1) (go_loadA rfl (gi_getI (gq_icmp_ne (fun e3 => have h1 := h.2.1 e3; (go_loadA rfl (gi_getR (Sh12.r36 hs) (go_loadI rfl (go_loadA rfl (gi_getI (gi_iast (inl_ (Sh12.l36 hs) h1.1.1) (go_loadI rfl (go_pushI rfl (go_ishr (iShr_6 h1.1.2.1) (go_stoI rfl rfl (go_loadA rfl (go_pushI rfl (go_loadI rfl (go_loadI rfl (go_ishr (iShr_v h1.1.2.2.1 h1.1.2.2.2.1) (go_pushI rfl (go_iand (iAnd_m1 _) (go_imul h1.1.2.2.2.2.1 (go_loadI rfl (go_iadd h1.1.2.2.2.2.2 (go_loadI rfl (Exists.elim h1.2 fun f4 w23 => Exists.elim w23 fun g5 w24 => Exists.elim w24 fun v7 h6 => (go_callV rfl rfl rfl h6.1 (go_stoI rfl rfl (go_loadA rfl (gi_getR (Sh12.r35 hs) (go_loadA rfl (gi_getI (go_loadA rfl (gi_getI (go_pushI rfl (gq_icmp_ne (fun e10 => have h8 := h6.2.1 e10; (go_pushI rfl (go_loadI rfl (go_imul h8.1.1 (go_loadA rfl (gi_getI (go_pushI rfl (go_irem ⟨h8.1.2.1, by decide⟩ (go_iadd h8.1.2.2 (go_fall (gi_iast (inl_ (Sh12.l35 hs) h8.2.1.1) (go_loadA rfl (go_dupA (gi_getIe (u2_a (by omega)) (go_pushI rfl (go_iadd h8.2.1.2 (gi_putI (go_loadA rfl (gi_getIe (Eq.trans (u2_i (by decide)) (u2_a (by omega))) (gq_if_le (fun e13 => have h11 := h8.2.2.1 e13; (go_loadI rfl (go_stoI rfl rfl (go_goto (h11 _ _ _))))) (fun e13 => have h12 := h8.2.2.2 e13; (go_loadA rfl (gi_getIe (Eq.trans (u2_i (by decide)) (u2_a (by omega))) (go_pushI rfl (gq_icmp_ne (fun e16 => have h14 := h12.1 e16; (go_pushI rfl (go_fall (h14 ▸ gq_retI)))) (fun e16 => have h15 := h12.2 e16; (go_loadI rfl (go_goto (h15 ▸ gq_retI))))))))))))))))))))))))))))) (fun e10 => have h9 := h6.2.2 e10; (go_pushI rfl (go_goto (gi_iast (inl_ (Sh12.l35 hs) h9.1.1) (go_loadA rfl (go_dupA (gi_getIe (u2_a (by omega)) (go_pushI rfl (go_iadd h9.1.2 (gi_putI (go_loadA rfl (gi_getIe (Eq.trans (u2_i (by decide)) (u2_a (by omega))) (gq_if_le (fun e19 => have h17 := h9.2.1 e19; (go_loadI rfl (go_stoI rfl rfl (go_goto (h17 _ _ _))))) (fun e19 => have h18 := h9.2.2 e19; (go_loadA rfl (gi_getIe (Eq.trans (u2_i (by decide)) (u2_a (by omega))) (go_pushI rfl (gq_icmp_ne (fun e22 => have h20 := h18.1 e22; (go_pushI rfl (go_fall (h20 ▸ gq_retI)))) (fun e22 => have h21 := h18.2 e22; (go_loadI rfl (go_goto (h21 ▸ gq_retI))))))))))))))))))))))))))))))))))))))))))))))))))))))) (fun e3 => have h2 := h.2.2 e3; (go_pushI rfl (h2 ▸ gq_retI)))))))))))
/-- the places that the model's ways write -/
def Scr (B : Nat) : Nat → Nat → Prop := fun a k => (a = B + 165 ∧ 38 ≤ k ∧ k ≤ 41) ∨ a = B + 165 + 23 ∨ a = B + 165 + 24
/-- the stamps -/
def IS (f : FI) (B : Nat) (s : Int) : Prop := (f (B + 165) 39 = s ∧ 0 ≤ s) ∧ ∀ i : Nat, i < 512 → f (B + 165 + 24) i ≤ s
theorem Scr.T {B : Nat} {f f' : FI} (h : Fr (Scr B) f f') : SameT f f' B := fun a h1 h2 => by
  funext k
  exact h a k (by unfold Scr; omega)
theorem Scr.itb {B : Nat} {f f' : FI} {nn : Nat → Nat} (hB : ITb f B nn) (h : Fr (Scr B) f f') : ITb f' B nn := hB.fr (Scr.T h) fun a h1 h2 => by
  funext k
  exact h a k (by unfold Scr; omega)
theorem Scr.il {B : Nat} {f f' : FI} {g : FL} (hL : IL f g B) (h : Fr (Scr B) f f') : IL f' g B := hL.fr (by
  funext k
  exact h _ k (by unfold Scr; omega)) (h _ _ (by unfold Scr; omega)) rfl
theorem Fr.trans {S : Nat → Nat → Prop} {f f1 f2 : FI} (h : Fr S f f1) (h2 : Fr S f1 f2) : Fr S f f2 := fun a k hk => by rw [h2 a k hk, h a k hk]
theorem x_endsAs {σ : St} {f : FI} {g : FL} {B : Nat} {nn : Nat → Nat} {b p s : Int} (hm : Sh12 σ (B + 165)) (hB : ITb f B nn) (hL : IL f g B) (hS : IS f B s) (hs : s < 2000000000) (hp : pk p) (hb : 0 ≤ b ∧ b ≤ 255) : ∃ (f' : FI) (n : Nat), Ex mt 4 255 (il σ f g) [vR 12 (some (B + 165)), vI p, vI b] (il σ f' g, [vI (enD (GB f g B b) p)]) ∧ Wl (GB f g B b) p n ∧ n ≤ 512 ∧ f' (B + 165) 38 = (n : Int) ∧ (∀ i, i < n → f' (B + 165 + 23) i = rcd f B b (itr (GB f g B b) p i)) ∧ IS f' B (s + 1) ∧ Fr (Scr B) f f' := by
  generalize hG : GB f g B b = G
  obtain ⟨⟨s1, s2⟩, s3⟩ := hS
  have loop : ∀ k n : Nat, n + k = 513 → ∀ fi : FI, (∀ i, i ≤ n → pk (itr G p i)) → (∀ i j, i < j → j < n → itr G p i ≠ itr G p j) → fi (B + 165) 38 = (n : Int) → fi (B + 165) 39 = s + 1 → (∀ i, i < n → fi (B + 165 + 23) i = rcd f B b (itr G p i)) → (∀ t, t < 512 → fi (B + 165 + 24) t ≤ s + 1 ∧ (fi (B + 165 + 24) t = s + 1 ↔ ∃ i, i < n ∧ itr G p i = (t : Int))) → Fr (Scr B) f fi → ∃ (f' : FI) (m : Nat), A_X12_endsAs_17 σ fi g (B + 165) b (itr G p n) (il σ f' g, [vI (enD G p)]) ∧ Wl G p m ∧ m ≤ 512 ∧ f' (B + 165) 38 = (m : Int) ∧ (∀ i, i < m → f' (B + 165 + 23) i = rcd f B b (itr G p i)) ∧ IS f' B (s + 1) ∧ Fr (Scr B) f f' := by
    intro k
    induction k with
    | zero =>
      intro n hn fi h1 h2
      have := itr_many (fun i hi => h1 i (by omega)) h2
      omega
    | succ k ih =>
      intro n hn fi h1 h2 h3 h3b h4 h7 h5
      have hpn := h1 n (Nat.le_refl _)
      have hq512 : n ≤ 512 := by omega
      generalize hq : itr G p n = q at *
      have hv := ver_rg b q
      by_cases hseen : fi (B + 165 + 24) q.toNat = s + 1
      · obtain ⟨i, hi, ei⟩ := (h7 q.toNat (by omega)).2.mp hseen
        have ei : itr G p i = itr G p n := by rw [hq, ei]; omega
        refine ⟨fi, n, bk_X12_endsAs_17 hm ⟨by omega, fun e => absurd (by rw [h3b]; exact hseen) e, fun _ => by rw [enD_rep hi (by rw [hq]; exact hpn) ei]⟩, ⟨fun i hi => h1 i (by omega), h2, Or.inr ⟨i, hi, ei⟩⟩, hq512, h3, h4, ⟨⟨h3b, by omega⟩, fun i hi => (h7 i hi).1⟩, h5⟩
      · have hnew : ∀ i, i < n → itr G p i ≠ q := fun i hi e => hseen ((h7 q.toNat (by omega)).2.mpr ⟨i, hi, by rw [e]; omega⟩)
        have d2 : ∀ i j, i < j → j < n + 1 → itr G p i ≠ itr G p j := fun i j hij hj => by
          by_cases z : j = n
          · rw [z, hq]
            exact hnew i (by omega)
          · exact h2 i j hij (by omega)
        have n511 : n + 1 ≤ 512 := itr_many (fun i hi => h1 i (by omega)) d2
        generalize hf1 : up2 fi (B + 165 + 24) q.toNat (s + 1) = f1
        have fr1 : Fr (Scr B) f f1 := by rw [← hf1]; exact h5.up (Or.inr (Or.inr rfl))
        have et : ((8 * (b / p2 (q / 64) % 2).toNat + (q / 64).toNat : Nat) : Int) = 8 * (b / p2 (q / 64) % 2) + q / 64 := by omega
        obtain ⟨by_, gone, v, hst, E⟩ := x_stepM (g := g) (t := 8 * (b / p2 (q / 64) % 2).toNat + (q / 64).toNat) hm (Scr.itb hB fr1) (Scr.il hL fr1) (by omega) hpn
        rw [et] at E
        obtain ⟨hby, hgo⟩ := hst
        have eT := Scr.T fr1
        have eGT : GT f1 g B (8 * (b / p2 (q / 64) % 2).toNat + (q / 64).toNat) q = G q := by
          rw [GT_of (by omega) eT rfl, ← hG]
          rfl
        rw [eGT] at hgo
        have e4 : f1 (tB B (8 * (b / p2 (q / 64) % 2).toNat + (q / 64).toNat) + 4) = f (tB B (8 * (b / p2 (q / 64) % 2).toNat + (q / 64).toNat) + 4) := eT _ (by unfold tB; omega) (by unfold tB; omega)
        rw [e4] at hby
        obtain ⟨⟨-, n12⟩, -, h4t⟩ := hB.tcs (8 * (b / p2 (q / 64) % 2).toNat + (q / 64).toNat) (by omega)
        have h4t := (h4t (q % 64).toNat (by omega)).1
        have frr := frF_rg (f (tB B (8 * (b / p2 (q / 64) % 2).toNat + (q / 64).toNat) + 1)) (((q % 64).toNat : Nat) : Int) (nn (8 * (b / p2 (q / 64) % 2).toNat + (q / 64).toNat))
        rw [← h4t] at frr
        have hrc : rcd f B b q = if by_ = -1 then -2 else 16 * (q / 64) + by_ % 12 := by
          unfold rcd
          rw [hby]
          by_cases z : f (tB B (8 * (b / p2 (q / 64) % 2).toNat + (q / 64).toNat) + 4) (q % 64).toNat = -1
          · rw [if_pos z, if_pos z, if_pos rfl]
          · rw [if_neg z, if_neg z, if_neg (by omega)]
            omega
        have hbr : by_ = -1 ∨ (0 ≤ by_ ∧ by_ < 192) := by
          rw [hby]
          by_cases z : f (tB B (8 * (b / p2 (q / 64) % 2).toNat + (q / 64).toNat) + 4) (q % 64).toNat = -1
          · rw [if_pos z]; exact Or.inl rfl
          · rw [if_neg z]
            right
            omega
        generalize hf4 : up2 (up2 f1 (B + 165) 40 by_) (B + 165) 41 gone = f4 at E
        have c38 : f4 (B + 165) 38 = (n : Int) := by rw [← hf4, u2_i (by decide), u2_i (by decide), ← hf1, u2_a (by omega), h3]
        have c39 : f4 (B + 165) 39 = s + 1 := by rw [← hf4, u2_i (by decide), u2_i (by decide), ← hf1, u2_a (by omega), h3b]
        have c40 : f4 (B + 165) 40 = by_ := by rw [← hf4, u2_i (by decide), u2_s]
        have c41 : f4 (B + 165) 41 = gone := by rw [← hf4, u2_s]
        generalize hf5 : up2 (up2 f4 (B + 165 + 23) n (rcd f B b q)) (B + 165) 38 ((n : Int) + 1) = f5
        have fr5 : Fr (Scr B) f f5 := by
          rw [← hf5, ← hf4]
          exact (((fr1.up (Or.inl ⟨rfl, by decide, by decide⟩)).up (Or.inl ⟨rfl, by decide, by decide⟩)).up (Or.inr (Or.inl rfl))).up (Or.inl ⟨rfl, by decide, by decide⟩)
        have r5 : ∀ i, i < n + 1 → f5 (B + 165 + 23) i = rcd f B b (itr G p i) := fun i hi => by
          rw [← hf5, u2_a (by omega)]
          by_cases z : i = n
          · rw [z, u2_s, hq]
          · rw [u2_i z, ← hf4, u2_a (by omega), u2_a (by omega), ← hf1, u2_a (by omega)]
            exact h4 i (by omega)
        have t5 : ∀ t, f5 (B + 165 + 24) t = if t = q.toNat then s + 1 else fi (B + 165 + 24) t := fun t => by
          rw [← hf5, u2_a (by omega), u2_a (by omega), ← hf4, u2_a (by omega), u2_a (by omega), ← hf1, u2]
          simp
        have n5 : f5 (B + 165) 38 = ((n + 1 : Nat) : Int) := by rw [← hf5, u2_s]; rfl
        have s5 : f5 (B + 165) 39 = s + 1 := by rw [← hf5, u2_i (by decide), u2_a (by omega), c39]
        have T5 : ∀ t, t < 512 → f5 (B + 165 + 24) t ≤ s + 1 ∧ (f5 (B + 165 + 24) t = s + 1 ↔ ∃ i, i < n + 1 ∧ itr G p i = (t : Int)) := fun t ht => by
          rw [t5]
          have h7t := h7 t ht
          by_cases z : t = q.toNat
          · rw [if_pos z]
            refine ⟨Int.le_refl _, fun _ => ⟨n, by omega, by rw [hq]; omega⟩, fun _ => rfl⟩
          · rw [if_neg z]
            refine ⟨h7t.1, ?_⟩
            rw [h7t.2]
            constructor
            · rintro ⟨i, hi, e⟩
              exact ⟨i, by omega, e⟩
            · rintro ⟨i, hi, e⟩
              by_cases w : i = n
              · rw [w, hq] at e
                omega
              · exact ⟨i, by omega, e⟩
        have hqs : itr G p (n + 1) = G q := by rw [itr_s (by rw [hq]; exact hpn), hq]
        -- one end for both ways of telling the row
        have fin : ∀ r : St × List Vl, ((gone ≤ 0 → A_X12_endsAs_17 σ f5 g (B + 165) b v r) ∧ (¬ gone ≤ 0 → ((¬ gone = 1 → r = (il σ f5 g, [vI (-2)])) ∧ (gone = 1 → r = (il σ f5 g, [vI v]))))) → A_X12_endsAs_17 σ fi g (B + 165) b q r := by
          intro r hr
          refine bk_X12_endsAs_17 hm ?_
          rw [h3b, hf1]
          refine ⟨by omega, fun _ => ⟨⟨by omega, by omega, by omega, by omega, by omega, by omega⟩, f4, g, v, E, ?_⟩, fun e => absurd e hseen⟩
          rw [c38, c40, c41, show ((n : Int)).toNat = n from rfl]
          refine ⟨fun e => ⟨⟨by omega, by omega, by omega⟩, by omega, ?_⟩, fun e => ⟨by omega, ?_⟩⟩
          · rw [if_neg e] at hrc
            rw [← hrc, hf5]
            exact hr
          · rw [if_pos e] at hrc
            have hf5' : up2 (up2 f4 (B + 165 + 23) n (-2)) (B + 165) 38 ((n : Int) + 1) = f5 := by rw [← hf5, hrc]
            rw [hf5']
            exact hr
        have IS5 : IS f5 B (s + 1) := ⟨⟨s5, by omega⟩, fun i hi => (T5 i hi).1⟩
        rcases hgo with ⟨g0, v0, v1, v2⟩ | ⟨g1, v0, v1, v2⟩ | ⟨g2, v0⟩
        · obtain ⟨f', m, A, B1⟩ := ih (n + 1) (by omega) f5 (fun i hi => by
              by_cases z : i = n + 1
              · rw [z, hqs, ← v0]; exact ⟨v1, v2⟩
              · exact h1 i (by omega)) d2 n5 s5 r5 T5 fr5
          rw [hqs, ← v0] at A
          exact ⟨f', m, fin _ ⟨fun _ => A, fun e => absurd (by omega) e⟩, B1⟩
        · have hout : ¬ pk (itr G p (n + 1)) := by rw [hqs]; omega
          refine ⟨f5, n + 1, fin _ ⟨fun e => absurd e (by omega), fun _ => ⟨fun e => absurd g1 e, fun _ => ?_⟩⟩, ⟨fun i hi => h1 i (by omega), d2, Or.inl hout⟩, n511, n5, r5, IS5, fr5⟩
          rw [enD_out hout, hqs]
          unfold endB_
          rw [if_pos v1, v0]
        · have hout : ¬ pk (itr G p (n + 1)) := by rw [hqs]; omega
          refine ⟨f5, n + 1, fin _ ⟨fun e => absurd e (by omega), fun _ => ⟨fun _ => ?_, fun e => absurd e (by omega)⟩⟩, ⟨fun i hi => h1 i (by omega), d2, Or.inl hout⟩, n511, n5, r5, IS5, fr5⟩
          rw [enD_out hout, hqs]
          unfold endB_
          rw [if_neg (by omega)]
  obtain ⟨f', m, A, B1⟩ := loop 513 0 rfl (up2 (up2 f (B + 165) 39 (s + 1)) (B + 165) 38 0) (fun i hi => by
      obtain rfl : i = 0 := by omega
      exact hp) (fun i j _ hj => absurd hj (Nat.not_lt_zero j)) u2_s (by rw [u2_i (by decide), u2_s]) (fun i hi => absurd hi (Nat.not_lt_zero i)) (fun t ht => by
      rw [u2_a (by omega), u2_a (by omega)]
      have := s3 t ht
      refine ⟨by omega, fun e => absurd e (by omega), ?_⟩
      rintro ⟨i, hi, -⟩
      exact absurd hi (Nat.not_lt_zero i)) ((Fr.rfl'.up (Or.inl ⟨rfl, by decide, by decide⟩)).up (Or.inl ⟨rfl, by decide, by decide⟩))
  refine ⟨f', m, bk_X12_endsAs_0 hm ?_, B1⟩
  rw [s1]
  exact ⟨by omega, A⟩
theorem bk_X11_ends_0 {σ : St} {f : FI} {g : FL} {a : Nat} {x1 : Int} {x2 : Int} {r : St × List Vl} (hs : Sh11 σ a) (h : ((¬ ((0 ≤ x1 ∧ x1 ≤ 511)) → (r = ((il σ f g), [vI (-1)]))) ∧ (((0 ≤ x1 ∧ x1 ≤ 511)) → ((((0 ≤ x2 ∧ x2 ≤ 255)) → (∃ (f7 : FI) (g8 : FL) (v10 : Int), Ex mt 2 43 (il σ f g) [vR 3 (some (a + 43)), vI x1, vI x2] ((il σ f7 g8), [vI v10]) ∧ (r = ((il σ f7 g8), [vI v10])))) ∧ (¬ ((0 ≤ x2 ∧ x2 ≤ 255)) → (r = ((il σ f g), [vI (-1)]))))))) : Ex mt 3 161 (il σ f g) [vR 11 (some a), vI x1, vI x2] r := Ex.mk mt_161 (show Gx mt 3 cd_X11_ends (il σ f g) b_X11_ends_0 [some (vR 11 (some a)), some (vI x1), some (vI x2)] [] r from (go_loadI rfl (go_callS rfl rfl rfl (pu_isPacket) (go_ifb_eq (fun e3 => have h1 := h.1 e3; (go_pushI rfl (h1 ▸ gq_retI))) (fun e3 => have h2 := h.2 e3; (go_loadI rfl (go_pushI rfl (go_callS rfl rfl rfl (pu_upTo) (go_ifb_ne (fun e6 => have h4 := h2.1 e6; (go_loadA rfl (gi_getR (Sh11.r9 hs) (go_loadI rfl (go_loadI rfl (Exists.elim h4 fun f7 w11 => Exists.elim w11 fun g8 w12 => Exists.elim w12 fun v10 h9 => (go_callV rfl rfl rfl h9.1 (h9.2 ▸ gq_retI)))))))) (fun e6 => have h5 := h2.2 e6; (go_fall (go_pushI rfl (h5 ▸ gq_retI)))))))))))))
def A_X12_ends_39 (σ : St) (f : FI) (g : FL) (a : Nat) (x3 : Int) (x4 : Int) (r : St × List Vl) : Prop := ∀ (y1 : Int) (y2 : Int), Gx mt 5 cd_X12_ends (il σ f g) (cd_X12_ends 39) [some (vR 12 (some a)), some (vI y1), some (vI y2), some (vI x3), some (vI x4)] [] r
theorem bk_X12_ends_0 {σ : St} {f : FI} {g : FL} {a : Nat} {x1 : Int} {x2 : Int} {r : St × List Vl} (hs : Sh12 σ a) (h : ((-2147483648 ≤ x1 ∧ x1 ≤ 2147483647)) ∧ ((¬ ((0 ≤ x1 ∧ x1 ≤ 511)) → (r = ((il σ f g), [vI (-1)]))) ∧ (((0 ≤ x1 ∧ x1 ≤ 511)) → ((-2147483648 ≤ x2 ∧ x2 ≤ 2147483647)) ∧ ((((0 ≤ x2 ∧ x2 ≤ 255)) → (∃ (f7 : FI) (g8 : FL) (v10 : Int), Ex mt 4 255 (il σ f g) [vR 12 (some a), vI x1, vI x2] ((il σ f7 g8), [vI v10]) ∧ (A_X12_ends_39 σ (up2 f7 a 37 (f7 a 38)) g8 a v10 0 r))) ∧ (¬ ((0 ≤ x2 ∧ x2 ≤ 255)) → (r = ((il σ f g), [vI (-1)]))))))) : Ex mt 5 256 (il σ f g) [vR 12 (some a), vI x1, vI x2] r := Ex.mk mt_256 (show Gx mt 5 cd_X12_ends (il σ f g) b_X12_ends_0 [some (vR 12 (some a)), some (vI x1), some (vI x2), none, none] [] r from (go_loadI rfl (go_callS rfl rfl rfl (pu_isPacketM h.1) (go_ifb_eq (fun e3 => have h1 := h.2.1 e3; (go_pushI rfl (h1 ▸ gq_retI))) (fun e3 => have h2 := h.2.2 e3; (go_loadI rfl (go_i2l (go_pushL rfl (go_pushL rfl (go_callS rfl rfl rfl (pu_in h2.1 ⟨by decide, by decide⟩ ⟨by decide, by decide⟩ (v := x2) (lo := 0) (hi := 255)) (go_ifb_ne (fun e6 => have h4 := h2.2.1 e6; (go_loadA rfl (go_loadI rfl (go_loadI rfl (Exists.elim h4 fun f7 w11 => Exists.elim w11 fun g8 w12 => Exists.elim w12 fun v10 h9 => (go_callV rfl rfl rfl h9.1 (go_stoI rfl rfl (go_loadA rfl (go_loadA rfl (gi_getI (gi_putI (go_pushI rfl (go_stoI rfl rfl (go_fall (h9.2 _ _))))))))))))))) (fun e6 => have h5 := h2.2.2 e6; (go_fall (go_pushI rfl (h5 ▸ gq_retI)))))))))))))))
theorem bk_X12_ends_39 {σ : St} {f : FI} {g : FL} {a : Nat} {x3 : Int} {x4 : Int} {r : St × List Vl} (hs : Sh12 σ a) (h : (((f a 38) ≤ x4 → (r = ((il σ f g), [vI x3]))) ∧ (¬ (f a 38) ≤ x4 → ((0 ≤ x4 ∧ x4 < 513) ∧ (-2147483648 ≤ (x4 + 1) ∧ (x4 + 1) ≤ 2147483647)) ∧ (A_X12_ends_39 σ (up2 f (a + 28) ((x4).toNat) (f (a + 23) ((x4).toNat))) g a x3 (x4 + 1) r)))) : A_X12_ends_39 σ f g a x3 x4 r := fun y1 y2 => (show Gx mt 5 cd_X12_ends (il σ f g) b_X12_ends_39 [some (vR 12 (some a)), some (vI y1), some (vI y2), some (vI x3), some (vI x4)] [] r from (go_loadI rfl (go_loadA rfl (gi_getI (gq_icmp_ge (fun e3 => have h1 := h.1 e3; (go_loadI rfl (h1 ▸ gq_retI))) (fun e3 => have h2 := h.2 e3; (go_loadA rfl (gi_getR (Sh12.r45 hs) (go_loadI rfl (go_loadA rfl (gi_getR (Sh12.r35 hs) (go_loadI rfl (gi_iald (inl_ (Sh12.l35 hs) h2.1.1) (gi_iast (inl_ (Sh12.l45 hs) h2.1.1) (go_iinc rfl h2.1.2 rfl (go_goto (h2.2 _ _)))))))))))))))))
theorem c_ends {σ : St} {f : FI} {g : FL} {B : Nat} (hs : Sh11 σ B) (hm : Sh12 σ (B + 165)) {nn : Nat → Nat} {s : Int} (hB : ITb f B nn) (hL : IL f g B) (hS : IS f B s) (hsl : s < 2000000000) (hY : IY f B) {x y : Int} (rx : -2147483648 ≤ x ∧ x ≤ 2147483647) (ry : -2147483648 ≤ y ∧ y ≤ 2147483647) : ∃ (v : Int) (f1 f2 : FI) (g1 : FL), Ex mt 3 161 (il σ f g) [vR 11 (some B), vI x, vI y] (il σ f1 g1, [vI v]) ∧ Ex mt 5 256 (il σ f1 g1) [vR 12 (some (B + 165)), vI x, vI y] (il σ f2 g1, [vI v]) ∧ IY f2 B ∧ (∃ s2, IS f2 B s2 ∧ s2 ≤ s + 1) ∧ Fr (fun a k => (a = B + 43 ∧ k = 4) ∨ a = B + 141 ∨ (a = B + 165 ∧ 37 ≤ k ∧ k ≤ 41) ∨ a = B + 165 + 23 ∨ a = B + 165 + 24 ∨ a = B + 165 + 28) f f2 ∧ ∀ a k, a ≠ B + 142 → g1 a k = g a k := by
  by_cases hc : (0 ≤ x ∧ x ≤ 511) ∧ (0 ≤ y ∧ y ≤ 255)
  · have hpk : pk x := by omega
    obtain ⟨f1, g1, n, E1, W1, n1, s1, w1, F1, G1⟩ := x_follow (g := g) (b := y) hs.net hpk hc.2 hB.tcs
    have e1T : SameT f f1 B := fun a h1 h2 => by
      funext k
      exact F1 a k (by omega)
    have hB1 : ITb f1 B nn := hB.fr e1T fun a h1 h2 => by
      funext k
      exact F1 a k (by omega)
    have hL1 : IL f1 g1 B := hL.fr (by
      funext k
      exact F1 _ k (by omega)) (F1 _ _ (by omega)) (G1 _ _ (by omega))
    have hS1 : IS f1 B s := ⟨⟨by rw [F1 _ _ (by omega)]; exact hS.1.1, hS.1.2⟩, fun i hi => by rw [F1 _ _ (by omega)]; exact hS.2 i hi⟩
    obtain ⟨f3, m, E2, W2, m1, s2, w2, S2, F2⟩ := x_endsAs (g := g1) (b := y) hm hB1 hL1 hS1 hsl hpk hc.2
    have eG : ∀ q, pk q → GB f1 g1 B y q = GB f g B y q := fun q hq => GB_of hq e1T (G1 _ _ (by omega))
    have enm : n = m := W1.one (W2.cong eG)
    subst enm
    rw [enD_cong eG] at E2
    -- the copy
    have loop : ∀ k i : Nat, i + k = n → ∀ fi : FI, fi (B + 165) 38 = (n : Int) → fi (B + 165) 37 = (n : Int) → (∀ j, j < i → fi (B + 165 + 28) j = f3 (B + 165 + 23) j) → Fr (fun a k => (a = B + 165 ∧ k = 37) ∨ a = B + 165 + 28) f3 fi → ∃ fe : FI, A_X12_ends_39 σ fi g1 (B + 165) (enD (GB f g B y) x) (i : Int) (il σ fe g1, [vI (enD (GB f g B y) x)]) ∧ fe (B + 165) 37 = (n : Int) ∧ (∀ j, j < n → fe (B + 165 + 28) j = f3 (B + 165 + 23) j) ∧ Fr (fun a k => (a = B + 165 ∧ k = 37) ∨ a = B + 165 + 28) f3 fe := by
      intro k
      induction k with
      | zero =>
        intro i hi fi a1 a2 a3 a4
        obtain rfl : i = n := by omega
        exact ⟨fi, bk_X12_ends_39 hm ⟨fun _ => rfl, fun e => absurd (by rw [a1]; omega) e⟩, a2, a3, a4⟩
      | succ k ih =>
        intro i hi fi a1 a2 a3 a4
        obtain ⟨fe, A, B1⟩ := ih (i + 1) (by omega) (up2 fi (B + 165 + 28) i (fi (B + 165 + 23) i)) (by rw [u2_a (by omega), a1]) (by rw [u2_a (by omega), a2]) (fun j hj => by
            by_cases z : j = i
            · rw [z, u2_s]
              exact a4 _ _ (by omega)
            · rw [u2_i z]
              exact a3 j (by omega)) (a4.up (Or.inr rfl))
        refine ⟨fe, bk_X12_ends_39 hm ⟨fun e => absurd e (by rw [a1]; omega), fun _ => ⟨by omega, A⟩⟩, B1⟩
    obtain ⟨fe, A, q1, q2, q3⟩ := loop n 0 (by omega) (up2 f3 (B + 165) 37 (n : Int)) (by rw [u2_i (by decide), s2]) u2_s (fun j hj => absurd hj (Nat.not_lt_zero j)) (Fr.rfl'.up (Or.inl ⟨rfl, rfl⟩))
    refine ⟨enD (GB f g B y) x, f1, fe, g1, bk_X11_ends_0 hs ⟨fun e => absurd hc.1 e, fun _ => ⟨fun _ => ⟨f1, g1, _, E1, rfl⟩, fun e => absurd hc.2 e⟩⟩, bk_X12_ends_0 hm ⟨by omega, fun e => absurd hc.1 e, fun _ => ⟨by omega, fun _ => ⟨f3, g1, _, E2, ?_⟩, fun e => absurd hc.2 e⟩⟩, ⟨Or.inr ⟨?_, ?_, ?_⟩, fun i hi => ?_⟩, ⟨s + 1, ⟨⟨?_, by have := hS.1.2; omega⟩, fun i hi => ?_⟩, Int.le_refl _⟩, fun a k hk => ?_, G1⟩
    · rw [s2]
      exact A
    · have c4 : fe (B + 43) 4 = (n : Int) := by rw [q3 _ _ (by omega), F2 _ _ (by unfold Scr; omega), s1]
      rw [q1, c4]
    · rw [q3 _ _ (by omega), F2 _ _ (by unfold Scr; omega), s1]
      omega
    · rw [q3 _ _ (by omega), F2 _ _ (by unfold Scr; omega), s1]
      omega
    · rw [q3 _ _ (by omega), F2 _ _ (by unfold Scr; omega), s1] at hi
      have hin : i < n := by omega
      rw [q2 i hin, w2 i hin, q3 _ _ (by omega), F2 _ _ (by unfold Scr; omega), w1 i hin, itr_cong eG, rcd_of (W1.1 i hin) e1T]
    · rw [q3 _ _ (by omega)]
      exact S2.1.1
    · rw [q3 _ _ (by omega)]
      exact S2.2 i hi
    · rw [q3 _ _ (by omega), F2 _ _ (by unfold Scr; omega), F1 _ _ (by omega)]
  · refine ⟨-1, f, f, g, bk_X11_ends_0 hs ⟨fun _ => rfl, fun e1 => ⟨fun e2 => absurd ⟨e1, e2⟩ hc, fun _ => rfl⟩⟩, bk_X12_ends_0 hm ⟨by omega, fun _ => rfl, fun e1 => ⟨by omega, fun e2 => absurd ⟨e1, e2⟩ hc, fun _ => rfl⟩⟩, hY, ⟨s, hS, by omega⟩, Fr.rfl', fun _ _ _ => rfl⟩
