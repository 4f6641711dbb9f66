/-! tables: row, erase, rows -/
/-- a table of the class at a, with n rows -/
def TC (f : FI) (a n : Nat) : Prop := (f a 3 = (n : Int) ∧ n ≤ 12) ∧ (∀ k, k < n → (0 ≤ f (a + 1) k ∧ f (a + 1) k ≤ 124) ∧ (0 ≤ f (a + 2) k ∧ f (a + 2) k ≤ 124) ∧ (0 ≤ f (a + 3) k ∧ f (a + 3) k ≤ 9)) ∧ ∀ p : Nat, p < 64 → f (a + 4) p = frF (f (a + 1)) (p : Int) n ∧ f (a + 5) p = deF (f (a + 2)) (f (a + 3)) (p : Int) (frF (f (a + 1)) (p : Int) n)
/-- the model's table t is that of the class at a -/
def TM (f : FI) (M t a n : Nat) : Prop := f (M + 21) t = (n : Int) ∧ ∀ k, k < n → f (M + 18) (12 * t + k) = f (a + 1) k ∧ f (M + 19) (12 * t + k) = f (a + 2) k ∧ f (M + 20) (12 * t + k) = f (a + 3) k
def tB (B t : Nat) : Nat := B + 45 + 6 * t
theorem tA_tB (B : Nat) (t : Nat) : tA (B + 43) (t : Int) = tB B t := by
  unfold tA tB
  rw [show (t : Int).toNat = t from rfl]
def ITb (f : FI) (B : Nat) (nn : Nat → Nat) : Prop := ∀ t, t < 16 → TC f (tB B t) (nn t) ∧ TM f (B + 165) t (tB B t) (nn t)
theorem TC.of {f f' : FI} {a n : Nat} (h : TC f a n) (e0 : f' a 3 = f a 3) (e1 : f' (a + 1) = f (a + 1)) (e2 : f' (a + 2) = f (a + 2)) (e3 : f' (a + 3) = f (a + 3)) (e4 : f' (a + 4) = f (a + 4)) (e5 : f' (a + 5) = f (a + 5)) : TC f' a n := by
  unfold TC at h ⊢
  rw [e0, e1, e2, e3, e4, e5]
  exact h
theorem TM.of {f f' : FI} {M t a n : Nat} (h : TM f M t a n) (e1 : f' (M + 21) t = f (M + 21) t) (e2 : ∀ k, k < n → f' (M + 18) (12 * t + k) = f (M + 18) (12 * t + k) ∧ f' (M + 19) (12 * t + k) = f (M + 19) (12 * t + k) ∧ f' (M + 20) (12 * t + k) = f (M + 20) (12 * t + k)) (e3 : ∀ k, k < n → f' (a + 1) k = f (a + 1) k ∧ f' (a + 2) k = f (a + 2) k ∧ f' (a + 3) k = f (a + 3) k) : TM f' M t a n := by
  refine ⟨by rw [e1]; exact h.1, fun k hk => ?_⟩
  obtain ⟨a1, a2, a3⟩ := e2 k hk
  obtain ⟨b1, b2, b3⟩ := e3 k hk
  rw [a1, a2, a3, b1, b2, b3]
  exact h.2 k hk
theorem deF_cong {st st' to to' : Nat → Int} {p r : Int} (h : ¬ r = -1 → st r.toNat = st' r.toNat ∧ to r.toNat = to' r.toNat) : deF st to p r = deF st' to' p r := by
  unfold deF
  by_cases q : r = -1
  · rw [if_pos q, if_pos q]
  · rw [if_neg q, if_neg q, (h q).1, (h q).2]
theorem bk_X3_tableAt_0 {σ : St} {f : FI} {g : FL} {a : Nat} {x1 : Int} {x2 : Int} {r : St × List Vl} (hs : Sh3 σ a) (h : ((¬ ((0 ≤ x1 ∧ x1 ≤ 1)) → (r = ((il σ f g), [vR 7 none]))) ∧ (((0 ≤ x1 ∧ x1 ≤ 1)) → ((¬ ((0 ≤ x2 ∧ x2 ≤ 7)) → (r = ((il σ f g), [vR 7 none]))) ∧ (((0 ≤ x2 ∧ x2 ≤ 7)) → ((-2147483648 ≤ (8 * x1) ∧ (8 * x1) ≤ 2147483647) ∧ (-2147483648 ≤ ((8 * x1) + x2) ∧ ((8 * x1) + x2) ≤ 2147483647) ∧ (0 ≤ ((8 * x1) + x2) ∧ ((8 * x1) + x2) < 16)) ∧ (r = ((il σ f g), [vR 7 (some (tA a ((8 * x1) + x2)))]))))))) : Ex mt 2 32 (il σ f g) [vR 3 (some a), vI x1, vI x2] r := Ex.mk mt_32 (show Gx mt 2 cd_X3_tableAt (il σ f g) b_X3_tableAt_0 [some (vR 3 (some a)), some (vI x1), some (vI x2)] [] r from (go_loadI rfl (go_pushI rfl (go_callS rfl rfl rfl (pu_upTo) (go_ifb_eq (fun e3 => have h1 := h.1 e3; (go_null (go_fall (h1 ▸ gq_retA)))) (fun e3 => have h2 := h.2 e3; (go_loadI rfl (go_callS rfl rfl rfl (pu_isBox) (go_ifb_eq (fun e6 => have h4 := h2.1 e6; (go_null (go_fall (h4 ▸ gq_retA)))) (fun e6 => have h5 := h2.2 e6; (go_loadA rfl (gi_getR (Sh3.r0 hs) (go_pushI rfl (go_loadI rfl (go_imul h5.1.1 (go_loadI rfl (go_iadd h5.1.2.1 (gi_aald (inl_ (Sh3.l0 hs) h5.1.2.2) (Sh3.t hs h5.1.2.2) (go_goto (h5.2 ▸ gq_retA))))))))))))))))))))
theorem x_tableAt0 {σ : St} {f : FI} {g : FL} {B : Nat} (hs : Sh3 σ (B + 43)) {x y : Int} (h : ¬ ((0 ≤ x ∧ x ≤ 1) ∧ (0 ≤ y ∧ y ≤ 7))) : Ex mt 2 32 (il σ f g) [vR 3 (some (B + 43)), vI x, vI y] (il σ f g, [vR 7 none]) :=
  bk_X3_tableAt_0 hs ⟨fun _ => rfl, fun e => ⟨fun _ => rfl, fun e2 => absurd ⟨e, e2⟩ h⟩⟩
theorem x_tableAt1 {σ : St} {f : FI} {g : FL} {B : Nat} (hs : Sh3 σ (B + 43)) {x y : Nat} (hx : x ≤ 1) (hy : y ≤ 7) : Ex mt 2 32 (il σ f g) [vR 3 (some (B + 43)), vI (x : Int), vI (y : Int)] (il σ f g, [vR 7 (some (tB B (8 * x + y)))]) := by
  refine bk_X3_tableAt_0 hs ⟨fun e => absurd (by omega) e, fun _ => ⟨fun e => absurd (by omega) e, fun _ => ⟨by omega, ?_⟩⟩⟩
  rw [← tA_tB, show ((8 * x + y : Nat) : Int) = 8 * (x : Int) + (y : Int) by omega]
theorem Sh3.tb {σ : St} {B : Nat} (hs : Sh3 σ (B + 43)) {t : Nat} (ht : t < 16) : Sh7 σ (tB B t) := by
  rw [← tA_tB]
  exact hs.s ⟨by omega, by omega⟩
def A_X7_addRow_44 (σ : St) (f : FI) (g : FL) (a : Nat) (x1 : Int) (x4 : Int) (r : St × List Vl) : Prop := ∀ (y2 : Int) (y3 : Int), Gx mt 2 cd_X7_addRow (il σ f g) (cd_X7_addRow 44) [some (vR 7 (some a)), some (vI x1), some (vI y2), some (vI y3), some (vI x4)] [] r
theorem bk_X7_addRow_0 {σ : St} {f : FI} {g : FL} {a : Nat} {x1 : Int} {x2 : Int} {x3 : Int} {r : St × List Vl} (hs : Sh7 σ a) (h : (((f a 3) < 12 → ((0 ≤ (f a 3) ∧ (f a 3) < 12)) ∧ (A_X7_addRow_44 σ (up2 (up2 (up2 f (a + 1) (((f a 3)).toNat) x1) (a + 2) (((f a 3)).toNat) x2) (a + 3) (((f a 3)).toNat) x3) g a x1 0 r)) ∧ (¬ (f a 3) < 12 → (r = ((il σ f g), [vI (-1)]))))) : Ex mt 2 96 (il σ f g) [vR 7 (some a), vI x1, vI x2, vI x3] r := Ex.mk mt_96 (show Gx mt 2 cd_X7_addRow (il σ f g) b_X7_addRow_0 [some (vR 7 (some a)), some (vI x1), some (vI x2), some (vI x3), none] [] r from (go_loadA rfl (gi_getI (go_pushI rfl (gq_icmp_lt (fun e3 => have h1 := h.1 e3; (go_loadA rfl (gi_getR (Sh7.r0 hs) (go_loadA rfl (gi_getI (go_loadI rfl (gi_iast (inl_ (Sh7.l0 hs) h1.1) (go_loadA rfl (gi_getR (Sh7.r1 hs) (go_loadA rfl (gi_getIe (u2_a (by omega)) (go_loadI rfl (gi_iast (inl_ (Sh7.l1 hs) h1.1) (go_loadA rfl (gi_getR (Sh7.r2 hs) (go_loadA rfl (gi_getIe (Eq.trans (u2_a (by omega)) (u2_a (by omega))) (go_loadI rfl (gi_iast (inl_ (Sh7.l2 hs) h1.1) (go_pushI rfl (go_stoI rfl rfl (go_fall (h1.2 _ _))))))))))))))))))))))) (fun e3 => have h2 := h.2 e3; (go_pushI rfl (h2 ▸ gq_retI))))))))
theorem bk_X7_addRow_44 {σ : St} {f : FI} {g : FL} {a : Nat} {x1 : Int} {x4 : Int} {r : St × List Vl} (hs : Sh7 σ a) (h : ((64 ≤ x4 → ((-2147483648 ≤ ((f a 3) + 1) ∧ ((f a 3) + 1) ≤ 2147483647) ∧ (-2147483648 ≤ (((f a 3) + 1) - 1) ∧ (((f a 3) + 1) - 1) ≤ 2147483647)) ∧ (r = ((il σ (up2 f a 3 ((f a 3) + 1)) g), [vI (((f a 3) + 1) - 1)]))) ∧ (¬ 64 ≤ x4 → ((0 ≤ x4 ∧ x4 < 64)) ∧ ((¬ (f (a + 4) ((x4).toNat)) = (-1) → ((-2147483648 ≤ (x4 + 1) ∧ (x4 + 1) ≤ 2147483647)) ∧ (A_X7_addRow_44 σ f g a x1 (x4 + 1) r)) ∧ ((f (a + 4) ((x4).toNat)) = (-1) → (Stat σ f ∧ (0 ≤ x1 ∧ x1 ≤ 124) ∧ (0 ≤ x4 ∧ x4 < 64)) ∧ ((¬ ((matP x1 x4)) → ((-2147483648 ≤ (x4 + 1) ∧ (x4 + 1) ≤ 2147483647)) ∧ (A_X7_addRow_44 σ f g a x1 (x4 + 1) r)) ∧ (((matP x1 x4)) → ((0 ≤ x4 ∧ x4 < 64)) ∧ (∃ (f10 : FI) (g11 : FL) (v13 : Int), Ex mt 1 102 (il σ (up2 f (a + 4) ((x4).toNat) (f a 3)) g) [vR 7 (some a), vI (f a 3), vI x4] ((il σ f10 g11), [vI v13]) ∧ ((0 ≤ x4 ∧ x4 < 64)) ∧ ((-2147483648 ≤ (x4 + 1) ∧ (x4 + 1) ≤ 2147483647)) ∧ (A_X7_addRow_44 σ (up2 f10 (a + 5) ((x4).toNat) v13) g11 a x1 (x4 + 1) r))))))))) : A_X7_addRow_44 σ f g a x1 x4 r := fun y2 y3 => (show Gx mt 2 cd_X7_addRow (il σ f g) b_X7_addRow_44 [some (vR 7 (some a)), some (vI x1), some (vI y2), some (vI y3), some (vI x4)] [] r from (go_loadI rfl (go_pushI rfl (gq_icmp_ge (fun e3 => have h1 := h.1 e3; (go_loadA rfl (go_dupA (gi_getI (go_pushI rfl (go_iadd h1.1.1 (gi_putI (go_loadA rfl (gi_getIe u2_s (go_pushI rfl (go_isub h1.1.2 (h1.2 ▸ gq_retI)))))))))))) (fun e3 => have h2 := h.2 e3; (go_loadA rfl (gi_getR (Sh7.r4 hs) (go_loadI rfl (gi_iald (inl_ (Sh7.l4 hs) h2.1) (go_pushI rfl (gq_icmp_ne (fun e6 => have h4 := h2.2.1 e6; (go_iinc rfl h4.1 rfl (go_goto (h4.2 _ _)))) (fun e6 => have h5 := h2.2.2 e6; (go_loadI rfl (go_loadI rfl (go_callS rfl rfl rfl (pu_isMatch h5.1.1 h5.1.2.1 h5.1.2.2) (go_ifb_eq (fun e9 => have h7 := h5.2.1 e9; (go_iinc rfl h7.1 rfl (go_goto (h7.2 _ _)))) (fun e9 => have h8 := h5.2.2 e9; (go_loadA rfl (gi_getR (Sh7.r4 hs) (go_loadI rfl (go_loadA rfl (gi_getI (gi_iast (inl_ (Sh7.l4 hs) h8.1) (go_loadA rfl (gi_getR (Sh7.r5 hs) (go_loadI rfl (go_loadA rfl (go_loadA rfl (gi_getIe (u2_a (by omega)) (go_loadI rfl (Exists.elim h8.2 fun f10 w14 => Exists.elim w14 fun g11 w15 => Exists.elim w15 fun v13 h12 => (go_callV rfl rfl rfl h12.1 (gi_iast (inl_ (Sh7.l5 hs) h12.2.1) (go_fall (go_iinc rfl h12.2.2.1 rfl (go_goto (h12.2.2.2 _ _)))))))))))))))))))))))))))))))))))))
/-- statics lie below -/
def Lo (σ : St) (B : Nat) : Prop := stS σ < B ∧ stG σ < B
theorem Stat.fr {σ : St} {f f' : FI} {B : Nat} (h : Stat σ f) (hl : Lo σ B) (hf : ∀ a, a < B → f' a = f a) : Stat σ f' := h.of (hf _ hl.1) (hf _ hl.2)
theorem x_add {σ : St} {f : FI} {g : FL} {a n : Nat} {m s t : Int} (hs : Sh7 σ a) (hS : Stat σ f) (hl : Lo σ a) (h : TC f a n) (hn : n < 12) (hm : 0 ≤ m ∧ m ≤ 124) (hc : 0 ≤ s ∧ s ≤ 124) (ht : 0 ≤ t ∧ t ≤ 9) : ∃ f' : FI, Ex mt 2 96 (il σ f g) [vR 7 (some a), vI m, vI s, vI t] (il σ f' g, [vI (n : Int)]) ∧ TC f' a (n + 1) ∧ (∀ k, f' (a + 1) k = if k = n then m else f (a + 1) k) ∧ (∀ k, f' (a + 2) k = if k = n then s else f (a + 2) k) ∧ (∀ k, f' (a + 3) k = if k = n then t else f (a + 3) k) ∧ ∀ b, (b < a ∨ a + 5 < b) → f' b = f b := by
  obtain ⟨⟨h1, h2⟩, h3, h4⟩ := h
  have key : ∀ (f1 : FI), f1 = up2 (up2 (up2 f (a + 1) n m) (a + 2) n s) (a + 3) n t → ∀ j i : Nat, i + j = 64 → ∀ fi : FI, (∀ b, (b ≠ a + 4 ∧ b ≠ a + 5) → fi b = f1 b) → (∀ p, p < i → fi (a + 4) p = frF (f1 (a + 1)) (p : Int) (n + 1) ∧ fi (a + 5) p = deF (f1 (a + 2)) (f1 (a + 3)) (p : Int) (frF (f1 (a + 1)) (p : Int) (n + 1))) → (∀ p, i ≤ p → p < 64 → fi (a + 4) p = f (a + 4) p ∧ fi (a + 5) p = f (a + 5) p) → ∃ fe : FI, A_X7_addRow_44 σ fi g a m (i : Int) (il σ fe g, [vI (n : Int)]) ∧ (∀ b, (b ≠ a ∧ b ≠ a + 4 ∧ b ≠ a + 5) → fe b = f1 b) ∧ fe a 3 = (n : Int) + 1 ∧ (∀ p, p < 64 → fe (a + 4) p = frF (f1 (a + 1)) (p : Int) (n + 1) ∧ fe (a + 5) p = deF (f1 (a + 2)) (f1 (a + 3)) (p : Int) (frF (f1 (a + 1)) (p : Int) (n + 1))) := by
    intro f1 hf1
    have g1 : ∀ k, f1 (a + 1) k = if k = n then m else f (a + 1) k := fun k => by rw [hf1, u2_a (by omega), u2_a (by omega), u2]; simp
    have g2 : ∀ k, f1 (a + 2) k = if k = n then s else f (a + 2) k := fun k => by rw [hf1, u2_a (by omega), u2]; simp; rw [u2_a (by omega)]
    have g3 : ∀ k, f1 (a + 3) k = if k = n then t else f (a + 3) k := fun k => by rw [hf1, u2]; simp; rw [u2_a (by omega), u2_a (by omega)]
    have ga : f1 a 3 = (n : Int) := by rw [hf1, u2_a (by omega), u2_a (by omega), u2_a (by omega), h1]
    have efr : ∀ p : Int, frF (f1 (a + 1)) p n = frF (f (a + 1)) p n := fun p => frF_cong (fun k hk => by rw [g1, if_neg (by omega)]) (fun _ => Iff.rfl)
    have gn : f1 (a + 1) n = m := by rw [g1, if_pos rfl]
    intro j
    induction j with
    | zero =>
      intro i hi fi k1 k2 k3
      obtain rfl : i = 64 := by omega
      have ea : fi a 3 = (n : Int) := by rw [k1 a (by omega), ga]
      refine ⟨up2 fi a 3 ((n : Int) + 1), bk_X7_addRow_44 hs ⟨fun _ => ?_, fun e => absurd (by decide) e⟩, fun b hb => ?_, u2_s, fun p hp => ?_⟩
      · rw [ea]
        refine ⟨by omega, ?_⟩
        rw [Int.add_sub_cancel]
      · rw [← k1 b ⟨hb.2.1, hb.2.2⟩]
        exact up2_ne hb.1
      · rw [u2_a (by omega), u2_a (by omega)]
        exact k2 p hp
    | succ j ih =>
      intro i hi fi k1 k2 k3
      have hSi : Stat σ fi := hS.of (by rw [k1 _ (by have := hl.1; omega), hf1]; rw [up2_ne (by have := hl.1; omega), up2_ne (by have := hl.1; omega), up2_ne (by have := hl.1; omega)]) (by rw [k1 _ (by have := hl.2; omega), hf1]; rw [up2_ne (by have := hl.2; omega), up2_ne (by have := hl.2; omega), up2_ne (by have := hl.2; omega)])
      have e4 := (k3 i (Nat.le_refl _) (by omega)).1
      have e5 := (k3 i (Nat.le_refl _) (by omega)).2
      have o4 := (h4 i (by omega)).1
      have o5 := (h4 i (by omega)).2
      have ea : fi a 3 = (n : Int) := by rw [k1 a (by omega), ga]
      have fs : frF (f1 (a + 1)) (i : Int) (n + 1) = if frF (f (a + 1)) (i : Int) n = -1 then (if matP m (i : Int) then (n : Int) else -1) else frF (f (a + 1)) (i : Int) n := by
        rw [frF, efr, gn]
      have frg := frF_rg (f (a + 1)) (i : Int) n
      have stay : frF (f1 (a + 1)) (i : Int) (n + 1) = frF (f (a + 1)) (i : Int) n → ∃ fe : FI, A_X7_addRow_44 σ fi g a m ((i : Int) + 1) (il σ fe g, [vI (n : Int)]) ∧ (∀ b, (b ≠ a ∧ b ≠ a + 4 ∧ b ≠ a + 5) → fe b = f1 b) ∧ fe a 3 = (n : Int) + 1 ∧ (∀ p, p < 64 → fe (a + 4) p = frF (f1 (a + 1)) (p : Int) (n + 1) ∧ fe (a + 5) p = deF (f1 (a + 2)) (f1 (a + 3)) (p : Int) (frF (f1 (a + 1)) (p : Int) (n + 1))) := by
        intro hst
        refine ih (i + 1) (by omega) fi k1 (fun p hp => ?_) (fun p hp1 hp2 => k3 p (by omega) hp2)
        by_cases q : p = i
        · subst q
          rw [hst, e4, e5, o4, o5]
          refine ⟨rfl, deF_cong fun hr => ?_⟩
          have : ¬ (frF (f (a + 1)) (p : Int) n).toNat = n := by omega
          rw [g2, g3, if_neg this, if_neg this]
          exact ⟨rfl, rfl⟩
        · exact k2 p (by omega)
      by_cases c1 : fi (a + 4) ((i : Int)).toNat = -1
      · have c1' : frF (f (a + 1)) (i : Int) n = -1 := by rw [← o4, ← e4]; exact c1
        by_cases c2 : matP m (i : Int)
        · have f2e : fs = fs := rfl
          have hv : frF (f1 (a + 1)) (i : Int) (n + 1) = (n : Int) := by rw [fs, if_pos c1', if_pos c2]
          have hS2 : Stat σ (up2 fi (a + 4) ((i : Int)).toNat (fi a 3)) := hSi.of (up2_ne (by have := hl.1; omega)) (up2_ne (by have := hl.2; omega))
          have r2 : ∀ k, up2 fi (a + 4) ((i : Int)).toNat (fi a 3) (a + 2) k = f1 (a + 2) k := fun k => by rw [u2_a (by omega), k1 _ (by omega)]
          have r3 : ∀ k, up2 fi (a + 4) ((i : Int)).toNat (fi a 3) (a + 3) k = f1 (a + 3) k := fun k => by rw [u2_a (by omega), k1 _ (by omega)]
          have hd := x_deedOf (g := g) hs hS2 (r := (n : Int)) (p := (i : Int)) (by omega) (by omega) (by rw [r2, g2, if_pos (by omega)]; exact hc) (by rw [r3, g3, if_pos (by omega)]; exact ht)
          obtain ⟨fe, A1, A2, A3, A4⟩ := ih (i + 1) (by omega) (up2 (up2 fi (a + 4) ((i : Int)).toNat (fi a 3)) (a + 5) ((i : Int)).toNat (deF (up2 fi (a + 4) ((i : Int)).toNat (fi a 3) (a + 2)) (up2 fi (a + 4) ((i : Int)).toNat (fi a 3) (a + 3)) (i : Int) (n : Int))) (fun b hb => by
              rw [up2_ne hb.2, up2_ne hb.1]
              exact k1 b hb) (fun p hp => by
              by_cases q : p = i
              · subst q
                rw [u2_a (by omega), show ((p : Int)).toNat = p from rfl, u2_s, u2_s, hv, ea]
                refine ⟨rfl, deF_cong fun _ => ⟨by have z := r2 ((n : Int)).toNat; rw [ea] at z; exact z, by have z := r3 ((n : Int)).toNat; rw [ea] at z; exact z⟩⟩
              · rw [u2_a (by omega), u2_i (by omega), u2_i (by omega), u2_a (by omega)]
                exact k2 p (by omega)) (fun p hp1 hp2 => by
              rw [u2_a (by omega), u2_i (by omega), u2_i (by omega), u2_a (by omega)]
              exact k3 p (by omega) hp2)
          refine ⟨fe, bk_X7_addRow_44 hs ⟨fun e => absurd e (by omega), fun _ => ⟨by omega, fun e => absurd c1 e, fun _ => ⟨⟨hSi, hm, by omega⟩, fun e => absurd c2 e, fun _ => ⟨by omega, _, g, _, by rw [ea] at hd ⊢; exact hd, by omega, by omega, ?_⟩⟩⟩⟩, A2, A3, A4⟩
          rw [ea] at A1
          exact A1
        · obtain ⟨fe, A1, A2⟩ := stay (by rw [fs, if_pos c1', if_neg c2, c1'])
          exact ⟨fe, bk_X7_addRow_44 hs ⟨fun e => absurd e (by omega), fun _ => ⟨by omega, fun e => absurd c1 e, fun _ => ⟨⟨hSi, hm, by omega⟩, fun _ => ⟨by omega, A1⟩, fun e => absurd e c2⟩⟩⟩, A2⟩
      · have c1' : ¬ frF (f (a + 1)) (i : Int) n = -1 := by rw [← o4, ← e4]; exact c1
        obtain ⟨fe, A1, A2⟩ := stay (by rw [fs, if_neg c1'])
        exact ⟨fe, bk_X7_addRow_44 hs ⟨fun e => absurd e (by omega), fun _ => ⟨by omega, fun _ => ⟨by omega, A1⟩, fun e => absurd e c1⟩⟩, A2⟩
  obtain ⟨fe, A1, A2, A3, A4⟩ := key _ rfl 64 0 rfl (up2 (up2 (up2 f (a + 1) n m) (a + 2) n s) (a + 3) n t) (fun b _ => rfl) (fun p hp => absurd hp (Nat.not_lt_zero p)) (fun p _ _ => by
    rw [u2_a (by omega), u2_a (by omega), u2_a (by omega), u2_a (by omega), u2_a (by omega), u2_a (by omega)]
    exact ⟨rfl, rfl⟩)
  have q1 : ∀ k, fe (a + 1) k = if k = n then m else f (a + 1) k := fun k => by rw [A2 _ (by omega), u2_a (by omega), u2_a (by omega), u2]; simp
  have q2 : ∀ k, fe (a + 2) k = if k = n then s else f (a + 2) k := fun k => by rw [A2 _ (by omega), u2_a (by omega), u2]; simp; rw [u2_a (by omega)]
  have q3 : ∀ k, fe (a + 3) k = if k = n then t else f (a + 3) k := fun k => by rw [A2 _ (by omega), u2]; simp; rw [u2_a (by omega), u2_a (by omega)]
  refine ⟨fe, bk_X7_addRow_0 hs ⟨fun _ => ?_, fun e => absurd (by omega) e⟩, ⟨⟨by rw [A3]; rfl, by omega⟩, fun k hk => ?_, fun p hp => ?_⟩, q1, q2, q3, fun b hb => ?_⟩
  · rw [h1]
    exact ⟨by omega, A1⟩
  · rw [q1, q2, q3]
    by_cases e : k = n
    · rw [if_pos e, if_pos e, if_pos e]
      exact ⟨hm, hc, ht⟩
    · rw [if_neg e, if_neg e, if_neg e]
      exact h3 k (by omega)
  · rw [A2 (a + 1) (by omega), A2 (a + 2) (by omega), A2 (a + 3) (by omega)]
    exact A4 p hp
  · rw [A2 b (by omega), up2_ne (by omega), up2_ne (by omega), up2_ne (by omega)]
