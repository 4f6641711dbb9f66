/-! ends -/
theorem bk_X3_keepRow_0 {σ : St} {f : FI} {g : FL} {a : Nat} {x1 : Int} {x2 : Int} {r : St × List Vl} (hs : Sh3 σ a) (h : ((-2147483648 ≤ x1 ∧ x1 ≤ 2147483647) ∧ (-2147483648 ≤ (8 * x2) ∧ (8 * x2) ≤ 2147483647) ∧ (-2147483648 ≤ ((8 * x2) + (x1 / 64)) ∧ ((8 * x2) + (x1 / 64)) ≤ 2147483647) ∧ (0 ≤ ((8 * x2) + (x1 / 64)) ∧ ((8 * x2) + (x1 / 64)) < 16) ∧ (0 ≤ (x1 % 64) ∧ (x1 % 64) < 64)) ∧ ((512 ≤ (f a 4) → (r = ((il σ f g), []))) ∧ (¬ 512 ≤ (f a 4) → ((¬ (f ((tA a ((8 * x2) + (x1 / 64))) + 4) (((x1 % 64)).toNat)) = (-1) → ((-2147483648 ≤ (16 * (x1 / 64)) ∧ (16 * (x1 / 64)) ≤ 2147483647) ∧ (-2147483648 ≤ ((16 * (x1 / 64)) + (f ((tA a ((8 * x2) + (x1 / 64))) + 4) (((x1 % 64)).toNat))) ∧ ((16 * (x1 / 64)) + (f ((tA a ((8 * x2) + (x1 / 64))) + 4) (((x1 % 64)).toNat))) ≤ 2147483647)) ∧ ((0 ≤ (f a 4) ∧ (f a 4) < 512) ∧ (-2147483648 ≤ ((f a 4) + 1) ∧ ((f a 4) + 1) ≤ 2147483647)) ∧ (r = ((il σ (up2 (up2 f (a + 98) (((f a 4)).toNat) ((16 * (x1 / 64)) + (f ((tA a ((8 * x2) + (x1 / 64))) + 4) (((x1 % 64)).toNat)))) a 4 ((f a 4) + 1)) g), []))) ∧ ((f ((tA a ((8 * x2) + (x1 / 64))) + 4) (((x1 % 64)).toNat)) = (-1) → ((0 ≤ (f a 4) ∧ (f a 4) < 512) ∧ (-2147483648 ≤ ((f a 4) + 1) ∧ ((f a 4) + 1) ≤ 2147483647)) ∧ (r = ((il σ (up2 (up2 f (a + 98) (((f a 4)).toNat) (-2)) a 4 ((f a 4) + 1)) g), []))))))) : Ex mt 0 44 (il σ f g) [vR 3 (some a), vI x1, vI x2] r := Ex.mk mt_44 (show Gx mt 0 cd_X3_keepRow (il σ f g) b_X3_keepRow_0 [some (vR 3 (some a)), some (vI x1), some (vI x2), none, none] [] r from (go_loadI rfl (go_pushI rfl (go_ishr (iShr_6 h.1.1) (go_stoI rfl rfl (go_loadA rfl (gi_getR (Sh3.r0 hs) (go_pushI rfl (go_loadI rfl (go_imul h.1.2.1 (go_loadI rfl (go_iadd h.1.2.2.1 (gi_aald (inl_ (Sh3.l0 hs) h.1.2.2.2.1) (Sh3.t hs h.1.2.2.2.1) (gi_getR (Sh7.r4 (Sh3.s hs h.1.2.2.2.1)) (go_loadI rfl (go_pushI rfl (go_iand (iAnd_m63 _) (gi_iald (inl_ (Sh7.l4 (Sh3.s hs h.1.2.2.2.1)) h.1.2.2.2.2) (go_stoI rfl rfl (go_loadA rfl (gi_getI (go_pushI rfl (gq_icmp_ge (fun e3 => have h1 := h.2.1 e3; (h1 ▸ gq_retV)) (fun e3 => have h2 := h.2.2 e3; (go_loadA rfl (gi_getR (Sh3.r3 hs) (go_loadA rfl (gi_getI (go_loadI rfl (go_pushI rfl (gq_icmp_ne (fun e6 => have h4 := h2.1 e6; (go_pushI rfl (go_loadI rfl (go_imul h4.1.1 (go_loadI rfl (go_iadd h4.1.2 (go_fall (gi_iast (inl_ (Sh3.l3 hs) h4.2.1.1) (go_loadA rfl (go_dupA (gi_getIe (u2_a (by omega)) (go_pushI rfl (go_iadd h4.2.1.2 (gi_putI (go_fall (h4.2.2 ▸ gq_retV)))))))))))))))) (fun e6 => have h5 := h2.2 e6; (go_pushI rfl (go_goto (gi_iast (inl_ (Sh3.l3 hs) h5.1.1) (go_loadA rfl (go_dupA (gi_getIe (u2_a (by omega)) (go_pushI rfl (go_iadd h5.1.2 (gi_putI (go_fall (h5.2 ▸ gq_retV)))))))))))))))))))))))))))))))))))))))))))
def A_X3_follow_18 (σ : St) (f : FI) (g : FL) (a : Nat) (x2 : Int) (x3 : Int) (x4 : Int) (r : St × List Vl) : Prop := ∀ (y1 : Int) (y5 : Option Vl), Gx mt 2 cd_X3_follow (il σ f g) (cd_X3_follow 18) [some (vR 3 (some a)), some (vI y1), some (vI x2), some (vI x3), some (vI x4), y5] [] r
theorem bk_X3_follow_0 {σ : St} {f : FI} {g : FL} {a : Nat} {x1 : Int} {x2 : Int} {r : St × List Vl} (hs : Sh3 σ a) (h : (∃ (f1 : FI) (g2 : FL), Ex mt 0 314 (il σ f g) [vR 15 (some (a + 99)), vL (0#64)] ((il σ f1 g2), []) ∧ (A_X3_follow_18 σ (up2 f1 a 4 0) g2 a x2 x1 0 r))) : Ex mt 2 43 (il σ f g) [vR 3 (some a), vI x1, vI x2] r := Ex.mk mt_43 (show Gx mt 2 cd_X3_follow (il σ f g) b_X3_follow_0 [some (vR 3 (some a)), some (vI x1), some (vI x2), none, none, none] [] r from (go_loadA rfl (gi_getR (Sh3.r5 hs) (go_pushL rfl (Exists.elim h fun f1 w4 => Exists.elim w4 fun g2 h3 => (go_callS rfl rfl rfl h3.1 (go_loadA rfl (go_pushI rfl (gi_putI (go_loadI rfl (go_stoI rfl rfl (go_pushI rfl (go_stoI rfl rfl (go_fall (h3.2 _ _)))))))))))))))
theorem bk_X3_follow_18 {σ : St} {f : FI} {g : FL} {a : Nat} {x2 : Int} {x3 : Int} {x4 : Int} {r : St × List Vl} (hs : Sh3 σ a) (h : ((512 ≤ x4 → (r = ((il σ f g), [vI (-3)]))) ∧ (¬ 512 ≤ x4 → ((-2147483648 ≤ x3 ∧ x3 ≤ 2147483647) ∧ (0 ≤ (x3 / 64) ∧ (x3 / 64) < 8) ∧ (0 ≤ (x3 % 64) ∧ (x3 % 64) < 64)) ∧ (((((g (a + 99) (((x3 / 64)).toNat)) >>> ((x3 % 64)).toNat) &&& (1#64)) = (0#64) → ((-2147483648 ≤ x3 ∧ x3 ≤ 2147483647) ∧ (0 ≤ (x3 / 64) ∧ (x3 / 64) < 8) ∧ (0 ≤ (x3 % 64) ∧ (x3 % 64) < 64) ∧ (0 ≤ x3 ∧ x3 < 512) ∧ (-2147483648 ≤ x2 ∧ x2 ≤ 2147483647)) ∧ (∃ (f7 : FI) (g8 : FL), Ex mt 0 44 (il σ f (up2 g (a + 99) (((x3 / 64)).toNat) ((g (a + 99) (((x3 / 64)).toNat)) ||| ((1#64) <<< ((x3 % 64)).toNat)))) [vR 3 (some a), vI x3, vI (x2 / p2 (x3 / 64) % 2)] ((il σ f7 g8), []) ∧ ((0 ≤ x3 ∧ x3 < 512) ∧ (-2147483648 ≤ x2 ∧ x2 ≤ 2147483647)) ∧ (∃ (f10 : FI) (g11 : FL) (v13 : Int), Ex mt 1 39 (il σ f7 g8) [vR 3 (some a), vI x3, vI (x2 / p2 (x3 / 64) % 2)] ((il σ f10 g11), [vI v13]) ∧ ((((0 ≤ v13 ∧ v13 < 512)) → ((-2147483648 ≤ (x4 + 1) ∧ (x4 + 1) ≤ 2147483647)) ∧ (A_X3_follow_18 σ f10 g11 a x2 v13 (x4 + 1) r)) ∧ (¬ ((0 ≤ v13 ∧ v13 < 512)) → (v13 ≤ 2147483647) ∧ (r = ((il σ f10 g11), [vI (endB_ v13)]))))))) ∧ (¬ (((g (a + 99) (((x3 / 64)).toNat)) >>> ((x3 % 64)).toNat) &&& (1#64)) = (0#64) → (r = ((il σ f g), [vI (-3)]))))))) : A_X3_follow_18 σ f g a x2 x3 x4 r := fun y1 y5 => (show Gx mt 2 cd_X3_follow (il σ f g) b_X3_follow_18 [some (vR 3 (some a)), some (vI y1), some (vI x2), some (vI x3), some (vI x4), y5] [] r from (go_loadI rfl (go_pushI rfl (gq_icmp_ge (fun e3 => have h1 := h.1 e3; (go_pushI rfl (h1 ▸ gq_retI))) (fun e3 => have h2 := h.2 e3; (go_loadA rfl (gi_getR (Sh3.r5 hs) (go_loadI rfl (go_pushI rfl (go_ishr (iShr_6 h2.1.1) (gi_lald (inl_ (Sh3.l5 hs) h2.1.2.1) (go_loadI rfl (go_pushI rfl (go_iand (iAnd_m63 _) (go_lushr (lUshr_v h2.1.2.2) (go_pushL rfl (go_land (go_pushL rfl (go_lcmp rfl (go_lif_eq (fun e6 => have h4 := h2.2.1 e6; (go_loadA rfl (gi_getR (Sh3.r5 hs) (go_loadI rfl (go_pushI rfl (go_ishr (iShr_6 h4.1.1) (go_dup2 (gi_lald (inl_ (Sh3.l5 hs) h4.1.2.1) (go_pushL rfl (go_loadI rfl (go_pushI rfl (go_iand (iAnd_m63 _) (go_lshl (lShl_v h4.1.2.2.1) (go_lor (gi_last (inl_ (Sh3.l5 hs) h4.1.2.1) (go_loadA rfl (go_loadI rfl (go_loadI rfl (go_loadI rfl (go_callS rfl rfl rfl (pu_versionOf h4.1.2.2.2.1 h4.1.2.2.2.2) (Exists.elim h4.2 fun f7 w19 => Exists.elim w19 fun g8 h9 => (go_callV rfl rfl rfl h9.1 (go_loadA rfl (go_loadI rfl (go_loadI rfl (go_loadI rfl (go_callS rfl rfl rfl (pu_versionOf h9.2.1.1 h9.2.1.2) (Exists.elim h9.2.2 fun f10 w17 => Exists.elim w17 fun g11 w18 => Exists.elim w18 fun v13 h12 => (go_callV rfl rfl rfl h12.1 (go_stoI rfl rfl (go_loadI rfl (go_callS rfl rfl rfl (pu_goesOn) (go_ifb_ne (fun e16 => have h14 := h12.2.1 e16; (go_loadI rfl (go_stoI rfl rfl (go_iinc rfl h14.1 rfl (go_goto (h14.2 _ _)))))) (fun e16 => have h15 := h12.2.2 e16; (go_loadI rfl (go_callS rfl rfl rfl (pu_endBy h15.1) (h15.2 ▸ gq_retI))))))))))))))))))))))))))))))))))))) (fun e6 => have h5 := h2.2.2 e6; (go_pushI rfl (h5 ▸ gq_retI)))))))))))))))))))))))
theorem ver_rg (b p : Int) : 0 ≤ b / p2 (p / 64) % 2 ∧ b / p2 (p / 64) % 2 < 2 := by omega
theorem x_keepRow {σ : St} {f : FI} {g : FL} {B n : Nat} {nn : Nat → Nat} {b p : Int} (hs : Sh3 σ (B + 43)) (hp : pk p) (hT : TCs f B nn) (hn : f (B + 43) 4 = (n : Int)) (hn5 : n < 512) : Ex mt 0 44 (il σ f g) [vR 3 (some (B + 43)), vI p, vI (b / p2 (p / 64) % 2)] (il σ (up2 (up2 f (B + 141) n (rcd f B b p)) (B + 43) 4 ((n : Int) + 1)) g, []) := by
  have hv := ver_rg b p
  have e1 : tA (B + 43) (8 * (b / p2 (p / 64) % 2) + p / 64) = tB B (8 * (b / p2 (p / 64) % 2).toNat + (p / 64).toNat) := by
    rw [← tA_tB]
    congr 1
    omega
  obtain ⟨⟨-, n12⟩, -, h4⟩ := hT (8 * (b / p2 (p / 64) % 2).toNat + (p / 64).toNat) (by omega)
  have h4 := (h4 (p % 64).toNat (by omega)).1
  have fr := frF_rg (f (tB B (8 * (b / p2 (p / 64) % 2).toNat + (p / 64).toNat) + 1)) (((p % 64).toNat : Nat) : Int) (nn (8 * (b / p2 (p / 64) % 2).toNat + (p / 64).toNat))
  rw [← h4] at fr
  refine bk_X3_keepRow_0 hs ?_
  rw [e1, hn]
  unfold rcd
  generalize f (tB B (8 * (b / p2 (p / 64) % 2).toNat + (p / 64).toNat) + 4) (p % 64).toNat = r at *
  refine ⟨by omega, fun e => absurd e (by omega), fun _ => ⟨fun e => ⟨by omega, by omega, ?_⟩, fun e => ⟨by omega, ?_⟩⟩⟩
  · rw [if_neg e]
    rfl
  · rw [if_pos e]
    rfl
theorem x_stepB {σ : St} {f : FI} {g : FL} {B : Nat} {nn : Nat → Nat} {b p : Int} (hs : Sh3 σ (B + 43)) (hp : pk p) (hT : TCs f B nn) : Ex mt 1 39 (il σ f g) [vR 3 (some (B + 43)), vI p, vI (b / p2 (p / 64) % 2)] (il σ f g, [vI (GB f g B b p)]) := by
  have hv := ver_rg b p
  have := x_stepC (g := g) (s := (b / p2 (p / 64) % 2).toNat) hs hp (by omega) (hT _ (by omega))
  rw [show (((b / p2 (p / 64) % 2).toNat : Nat) : Int) = b / p2 (p / 64) % 2 by omega] at this
  exact this
theorem x_follow {σ : St} {f : FI} {g : FL} {B : Nat} {nn : Nat → Nat} {b p : Int} (hs : Sh3 σ (B + 43)) (hp : pk p) (hb : 0 ≤ b ∧ b ≤ 255) (hT : TCs f B nn) : ∃ (f' : FI) (g' : FL) (n : Nat), Ex mt 2 43 (il σ f g) [vR 3 (some (B + 43)), vI p, vI b] (il σ f' g', [vI (enD (GB f g B b) p)]) ∧ Wl (GB f g B b) p n ∧ n ≤ 512 ∧ f' (B + 43) 4 = (n : Int) ∧ (∀ i, i < n → f' (B + 141) i = rcd f B b (itr (GB f g B b) p i)) ∧ Fr (fun a k => (a = B + 43 ∧ k = 4) ∨ a = B + 141) f f' ∧ ∀ a k, a ≠ B + 142 → g' a k = g a k := by
  generalize hG : GB f g B b = G
  have loop : ∀ k n : Nat, n + k = 512 → ∀ (fi : FI) (gi : FL), (∀ i, i ≤ n → pk (itr G p i)) → (∀ i j, i < j → j < n → itr G p i ≠ itr G p j) → fi (B + 43) 4 = (n : Int) → (∀ i, i < n → fi (B + 141) i = rcd f B b (itr G p i)) → Fr (fun a k => (a = B + 43 ∧ k = 4) ∨ a = B + 141) f fi → (∀ a k, a ≠ B + 142 → gi a k = g a k) → (∀ t, t < 512 → (rb (gi (B + 142)) t = true ↔ ∃ i, i < n ∧ itr G p i = (t : Int))) → ∃ (f' : FI) (g' : FL) (m : Nat), A_X3_follow_18 σ fi gi (B + 43) b (itr G p n) (n : Int) (il σ f' g', [vI (enD G p)]) ∧ Wl G p m ∧ m ≤ 512 ∧ f' (B + 43) 4 = (m : Int) ∧ (∀ i, i < m → f' (B + 141) i = rcd f B b (itr G p i)) ∧ Fr (fun a k => (a = B + 43 ∧ k = 4) ∨ a = B + 141) f f' ∧ ∀ a k, a ≠ B + 142 → g' a k = g a k := by
    intro k
    induction k with
    | zero =>
      intro n hn fi gi h1 h2 h3 h4 h5 h6 h7
      obtain rfl : n = 512 := by omega
      have hin := h1 512 (Nat.le_refl _)
      refine ⟨fi, gi, 512, bk_X3_follow_18 hs ⟨fun _ => by rw [enD_in hin], fun e => absurd (by decide) e⟩, ⟨fun i hi => h1 i (by omega), h2, Or.inr ?_⟩, Nat.le_refl _, h3, h4, h5, h6⟩
      apply Classical.byContradiction
      intro hne
      have : 513 ≤ 512 := itr_many (G := G) (p := p) (fun i hi => h1 i (by omega)) (fun i j hij hj => by
        by_cases q : j = 512
        · subst q
          exact fun e => hne ⟨i, hij, e⟩
        · exact h2 i j hij (by omega))
      omega
    | succ k ih =>
      intro n hn fi gi h1 h2 h3 h4 h5 h6 h7
      have hpn := h1 n (Nat.le_refl _)
      have eST : SameT f fi B := fun a ha1 ha2 => by
        funext k
        exact h5 a k (by omega)
      have eg : gi (B + 43) 1 = g (B + 43) 1 := h6 _ _ (by omega)
      generalize hq : itr G p n = q at *
      have hrb : rb (gi (B + 142)) q.toNat = (gi (B + 142) (q / 64).toNat).getLsbD (q % 64).toNat := by
        unfold rb
        rw [show q.toNat / 64 = (q / 64).toNat by omega, show q.toNat % 64 = (q % 64).toNat by omega]
      cases hbit : rb (gi (B + 142)) q.toNat with
      | true =>
        obtain ⟨i, hi, ei⟩ := (h7 q.toNat (by omega)).mp hbit
        have ei : itr G p i = itr G p n := by rw [hq, ei]; omega
        refine ⟨fi, gi, n, bk_X3_follow_18 hs ⟨fun e => absurd e (by omega), fun _ => ⟨⟨by omega, by omega, by omega⟩, fun e => ?_, fun _ => by rw [enD_rep hi (by rw [hq]; exact hpn) ei]⟩⟩, ⟨fun i hi => h1 i (by omega), h2, Or.inr ⟨i, hi, ei⟩⟩, by omega, h3, h4, h5, h6⟩
        rw [lB_sh1] at e
        rw [hrb, e] at hbit
        cases hbit
      | false =>
        have hnew : ∀ i, i < n → itr G p i ≠ q := fun i hi e => by
          have := (h7 q.toNat (by omega)).mpr ⟨i, hi, by rw [e]; omega⟩
          rw [hbit] at this
          cases this
        have hTi : TCs fi B nn := hT.of eST
        generalize hg2 : up2 gi (B + 142) (q / 64).toNat (gi (B + 142) (q / 64).toNat ||| (1#64 <<< (q % 64).toNat)) = g2
        have kr := x_keepRow (g := g2) (b := b) hs hpn hTi h3 (by omega)
        rw [rcd_of hpn eST] at kr
        generalize hf2 : up2 (up2 fi (B + 141) n (rcd f B b q)) (B + 43) 4 ((n : Int) + 1) = f2 at kr
        have f2T : SameT f f2 B := fun a ha1 ha2 => by
          rw [← hf2, up2_ne (by omega), up2_ne (by omega)]
          exact eST a ha1 ha2
        have g2e : g2 (B + 43) 1 = g (B + 43) 1 := by rw [← hg2, u2_a (by omega), eg]
        have sb := x_stepB (g := g2) (b := b) hs hpn (hT.of f2T)
        rw [GB_of hpn f2T g2e, hG] at sb
        have hqs : itr G p (n + 1) = G q := by rw [itr_s (by rw [hq]; exact hpn), hq]
        have d2 : ∀ i j, i < j → j < n + 1 → itr G p i ≠ itr G p j := fun i j hij hj => by
          by_cases z : j = n
          · rw [z, hq]
            exact hnew i (by omega)
          · exact h2 i j hij (by omega)
        have r2 : ∀ i, i < n + 1 → f2 (B + 141) i = rcd f B b (itr G p i) := fun i hi => by
          rw [← hf2, u2_a (by omega)]
          by_cases z : i = n
          · rw [z, u2_s, hq]
          · rw [u2_i z]
            exact h4 i (by omega)
        have fr2 : Fr (fun a k => (a = B + 43 ∧ k = 4) ∨ a = B + 141) f f2 := by
          rw [← hf2]
          exact (h5.up (Or.inr rfl)).up (Or.inl ⟨rfl, rfl⟩)
        have gr2 : ∀ a k, a ≠ B + 142 → g2 a k = g a k := fun a k ha => by
          rw [← hg2, u2_a ha]
          exact h6 a k ha
        have s2 : f2 (B + 43) 4 = ((n + 1 : Nat) : Int) := by
          rw [← hf2, u2_s]
          rfl
        have ob : (((-2147483648 ≤ q ∧ q ≤ 2147483647) ∧ (0 ≤ (q / 64) ∧ (q / 64) < 8) ∧ (0 ≤ (q % 64) ∧ (q % 64) < 64) ∧ ((0 : Int) ≤ q ∧ q < 512) ∧ (-2147483648 ≤ b ∧ b ≤ 2147483647))) := by omega
        by_cases hgo : pk (G q)
        · obtain ⟨f', g', m, A, B1⟩ := ih (n + 1) (by omega) f2 g2 (fun i hi => by
              by_cases z : i = n + 1
              · rw [z, hqs]; exact hgo
              · exact h1 i (by omega)) d2 s2 r2 fr2 gr2 (fun t ht => by
              have e8 : rb (g2 (B + 142)) t = rb (fun i => if i = q.toNat / 64 then gi (B + 142) (q.toNat / 64) ||| (1#64 <<< (q.toNat % 64)) else gi (B + 142) i) t := by
                unfold rb
                dsimp only
                rw [← hg2, u2, show (q / 64).toNat = q.toNat / 64 by omega, show (q % 64).toNat = q.toNat % 64 by omega]
                by_cases z : t / 64 = q.toNat / 64
                · rw [if_pos ⟨rfl, z⟩, if_pos z]
                · rw [if_neg (fun w => z w.2), if_neg z]
              rw [e8, mark_bit (by omega) ht, Bool.or_eq_true, h7 t ht, decide_eq_true_eq]
              constructor
              · rintro (⟨i, hi, e⟩ | e)
                · exact ⟨i, by omega, e⟩
                · exact ⟨n, by omega, by rw [hq]; omega⟩
              · rintro ⟨i, hi, e⟩
                by_cases z : i = n
                · right
                  rw [z, hq] at e
                  omega
                · exact Or.inl ⟨i, by omega, e⟩)
          rw [hqs] at A
          refine ⟨f', g', m, bk_X3_follow_18 hs ⟨fun e => absurd e (by omega), fun _ => ⟨⟨by omega, by omega, by omega⟩, fun _ => ⟨ob, f2, g2, by rw [hg2]; exact kr, ⟨by omega, by omega⟩, f2, g2, _, sb, fun _ => ⟨by omega, A⟩, fun e => absurd hgo e⟩, fun e => absurd (lB_sh1.mpr (by rw [← hrb]; exact hbit)) e⟩⟩, B1⟩
        · have hout : ¬ pk (itr G p (n + 1)) := by rw [hqs]; exact hgo
          have grg := GB_rg (g := g) hT (b := b) hpn
          rw [hG] at grg
          refine ⟨f2, g2, n + 1, bk_X3_follow_18 hs ⟨fun e => absurd e (by omega), fun _ => ⟨⟨by omega, by omega, by omega⟩, fun _ => ⟨ob, f2, g2, by rw [hg2]; exact kr, ⟨by omega, by omega⟩, f2, g2, _, sb, fun e => absurd e hgo, fun _ => ⟨by omega, by rw [enD_out hout, hqs]⟩⟩, fun e => absurd (lB_sh1.mpr (by rw [← hrb]; exact hbit)) e⟩⟩, ⟨fun i hi => h1 i (by omega), d2, Or.inl hout⟩, by omega, s2, r2, fr2, gr2⟩
  have hf := x_fillL (f := f) (g := g) (v := 0#64) hs.l5 (by decide)
  obtain ⟨f', g', m, A, B1⟩ := loop 512 0 rfl (up2 f (B + 43) 4 0) (up1 g (B + 142) (fun k => if k < 8 then 0#64 else g (B + 142) k)) (fun i hi => by
      obtain rfl : i = 0 := by omega
      exact hp) (fun i j _ hj => absurd hj (Nat.not_lt_zero j)) u2_s (fun i hi => absurd hi (Nat.not_lt_zero i)) (Fr.rfl'.up (Or.inl ⟨rfl, rfl⟩)) (fun a k ha => by rw [up1_ne ha]) (fun t ht => by
      constructor
      · intro e
        exfalso
        unfold rb at e
        rw [u1, if_pos rfl] at e
        have : (if t / 64 < 8 then 0#64 else g (B + 142) (t / 64)).getLsbD (t % 64) = true := e
        rw [if_pos (by omega), BitVec.getLsbD_zero] at this
        cases this
      · rintro ⟨i, hi, -⟩
        exact absurd hi (Nat.not_lt_zero i))
  exact ⟨f', g', m, bk_X3_follow_0 hs ⟨f, _, hf, A⟩, B1⟩
