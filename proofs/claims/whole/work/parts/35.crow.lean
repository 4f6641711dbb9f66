/-! row, erase, rows, renew, count -/
theorem Sh11.net {σ : St} {B : Nat} (h : Sh11 σ B) : Sh3 σ (B + 43) := h.o9
theorem Lo.up {σ : St} {B b : Nat} (h : Lo σ B) (hb : B ≤ b) : Lo σ b := ⟨Nat.lt_of_lt_of_le h.1 hb, Nat.lt_of_lt_of_le h.2 hb⟩
theorem bk_X11_row_0 {σ : St} {f : FI} {g : FL} {a : Nat} {x1 : Int} {x2 : Int} {x3 : Int} {x4 : Int} {x5 : Int} {r : St × List Vl} (hs : Sh11 σ a) (h : ((∃ (f1 : FI) (g2 : FL), Ex mt 2 32 (il σ f g) [vR 3 (some (a + 43)), vI x1, vI x2] ((il σ f1 g2), [vR 7 none]) ∧ (r = ((il σ f1 g2), [vI (-1)]))) ∨ (∃ (f1 : FI) (g2 : FL) (q4 : Nat), Ex mt 2 32 (il σ f g) [vR 3 (some (a + 43)), vI x1, vI x2] ((il σ f1 g2), [vR 7 (some q4)]) ∧ ((¬ ((0 ≤ x3 ∧ x3 ≤ 124)) → (r = ((il σ f1 g2), [vI (-1)]))) ∧ (((0 ≤ x3 ∧ x3 ≤ 124)) → ((¬ ((0 ≤ x4 ∧ x4 ≤ 124)) → (r = ((il σ f1 g2), [vI (-1)]))) ∧ (((0 ≤ x4 ∧ x4 ≤ 124)) → ((((0 ≤ x5 ∧ x5 ≤ 9)) → (∃ (f14 : FI) (g15 : FL) (v17 : Int), Ex mt 2 96 (il σ f1 g2) [vR 7 (some q4), vI x3, vI x4, vI x5] ((il σ f14 g15), [vI v17]) ∧ (r = ((il σ f14 g15), [vI v17])))) ∧ (¬ ((0 ≤ x5 ∧ x5 ≤ 9)) → (r = ((il σ f1 g2), [vI (-1)]))))))))))) : Ex mt 3 156 (il σ f g) [vR 11 (some a), vI x1, vI x2, vI x3, vI x4, vI x5] r := Ex.mk mt_156 (show Gx mt 3 cd_X11_row (il σ f g) b_X11_row_0 [some (vR 11 (some a)), some (vI x1), some (vI x2), some (vI x3), some (vI x4), some (vI x5), none] [] r from (go_loadA rfl (gi_getR (Sh11.r9 hs) (go_loadI rfl (go_loadI rfl (Or.elim h (fun h20q => (Exists.elim h20q fun f1 w21 => Exists.elim w21 fun g2 h20 => (go_callV rfl rfl rfl h20.1 (go_stoA rfl rfl (go_loadA rfl (go_nullN (go_pushI rfl (h20.2 ▸ gq_retI)))))))) (fun h3q => (Exists.elim h3q fun f1 w22 => Exists.elim w22 fun g2 w23 => Exists.elim w23 fun q4 h3 => (go_callV rfl rfl rfl h3.1 (go_stoA rfl rfl (go_loadA rfl (go_nullS (go_loadI rfl (go_pushI rfl (go_callS rfl rfl rfl (pu_upTo) (go_ifb_eq (fun e7 => have h5 := h3.2.1 e7; (go_pushI rfl (h5 ▸ gq_retI))) (fun e7 => have h6 := h3.2.2 e7; (go_loadI rfl (go_pushI rfl (go_callS rfl rfl rfl (pu_upTo) (go_ifb_eq (fun e10 => have h8 := h6.1 e10; (go_pushI rfl (h8 ▸ gq_retI))) (fun e10 => have h9 := h6.2 e10; (go_loadI rfl (go_pushI rfl (go_callS rfl rfl rfl (pu_upTo) (go_ifb_ne (fun e13 => have h11 := h9.1 e13; (go_loadA rfl (go_loadI rfl (go_loadI rfl (go_loadI rfl (Exists.elim h11 fun f14 w18 => Exists.elim w18 fun g15 w19 => Exists.elim w19 fun v17 h16 => (go_callV rfl rfl rfl h16.1 (h16.2 ▸ gq_retI)))))))) (fun e13 => have h12 := h9.2 e13; (go_fall (go_pushI rfl (h12 ▸ gq_retI))))))))))))))))))))))))))))))
theorem bk_X12_row_0 {σ : St} {f : FI} {g : FL} {a : Nat} {x1 : Int} {x2 : Int} {x3 : Int} {x4 : Int} {x5 : Int} {r : St × List Vl} (hs : Sh12 σ a) (h : ((-2147483648 ≤ x1 ∧ x1 ≤ 2147483647) ∧ (-2147483648 ≤ x2 ∧ x2 ≤ 2147483647)) ∧ ((¬ (((0 ≤ x1 ∧ x1 ≤ 1) ∧ (0 ≤ x2 ∧ x2 ≤ 7))) → (r = ((il σ f g), [vI (-1)]))) ∧ ((((0 ≤ x1 ∧ x1 ≤ 1) ∧ (0 ≤ x2 ∧ x2 ≤ 7))) → ((-2147483648 ≤ (8 * x1) ∧ (8 * x1) ≤ 2147483647) ∧ (-2147483648 ≤ ((8 * x1) + x2) ∧ ((8 * x1) + x2) ≤ 2147483647) ∧ (0 ≤ ((8 * x1) + x2) ∧ ((8 * x1) + x2) < 16)) ∧ (((f (a + 21) ((((8 * x1) + x2)).toNat)) = 12 → (r = ((il σ f g), [vI (-1)]))) ∧ (¬ (f (a + 21) ((((8 * x1) + x2)).toNat)) = 12 → ((-2147483648 ≤ x3 ∧ x3 ≤ 2147483647)) ∧ ((¬ ((0 ≤ x3 ∧ x3 ≤ 124)) → (r = ((il σ f g), [vI (-1)]))) ∧ (((0 ≤ x3 ∧ x3 ≤ 124)) → ((-2147483648 ≤ x4 ∧ x4 ≤ 2147483647)) ∧ ((¬ ((0 ≤ x4 ∧ x4 ≤ 124)) → (r = ((il σ f g), [vI (-1)]))) ∧ (((0 ≤ x4 ∧ x4 ≤ 124)) → ((-2147483648 ≤ x5 ∧ x5 ≤ 2147483647)) ∧ ((((0 ≤ x5 ∧ x5 ≤ 9)) → ((-2147483648 ≤ (8 * x1) ∧ (8 * x1) ≤ 2147483647) ∧ (-2147483648 ≤ ((8 * x1) + x2) ∧ ((8 * x1) + x2) ≤ 2147483647) ∧ (-2147483648 ≤ (12 * ((8 * x1) + x2)) ∧ (12 * ((8 * x1) + x2)) ≤ 2147483647) ∧ (0 ≤ ((8 * x1) + x2) ∧ ((8 * x1) + x2) < 16) ∧ (-2147483648 ≤ ((12 * ((8 * x1) + x2)) + (f (a + 21) ((((8 * x1) + x2)).toNat))) ∧ ((12 * ((8 * x1) + x2)) + (f (a + 21) ((((8 * x1) + x2)).toNat))) ≤ 2147483647) ∧ (0 ≤ ((12 * ((8 * x1) + x2)) + (f (a + 21) ((((8 * x1) + x2)).toNat))) ∧ ((12 * ((8 * x1) + x2)) + (f (a + 21) ((((8 * x1) + x2)).toNat))) < 192) ∧ (-2147483648 ≤ ((f (a + 21) ((((8 * x1) + x2)).toNat)) + 1) ∧ ((f (a + 21) ((((8 * x1) + x2)).toNat)) + 1) ≤ 2147483647) ∧ (-2147483648 ≤ (((f (a + 21) ((((8 * x1) + x2)).toNat)) + 1) - 1) ∧ (((f (a + 21) ((((8 * x1) + x2)).toNat)) + 1) - 1) ≤ 2147483647)) ∧ (r = ((il σ (up2 (up2 (up2 (up2 f (a + 18) ((((12 * ((8 * x1) + x2)) + (f (a + 21) ((((8 * x1) + x2)).toNat)))).toNat) x3) (a + 19) ((((12 * ((8 * x1) + x2)) + (f (a + 21) ((((8 * x1) + x2)).toNat)))).toNat) x4) (a + 20) ((((12 * ((8 * x1) + x2)) + (f (a + 21) ((((8 * x1) + x2)).toNat)))).toNat) x5) (a + 21) ((((8 * x1) + x2)).toNat) ((f (a + 21) ((((8 * x1) + x2)).toNat)) + 1)) g), [vI (((f (a + 21) ((((8 * x1) + x2)).toNat)) + 1) - 1)]))) ∧ (¬ ((0 ≤ x5 ∧ x5 ≤ 9)) → (r = ((il σ f g), [vI (-1)]))))))))))))) : Ex mt 3 243 (il σ f g) [vR 12 (some a), vI x1, vI x2, vI x3, vI x4, vI x5] r := Ex.mk mt_243 (show Gx mt 3 cd_X12_row (il σ f g) b_X12_row_0 [some (vR 12 (some a)), some (vI x1), some (vI x2), some (vI x3), some (vI x4), some (vI x5), none, none] [] r from (go_loadI rfl (go_loadI rfl (go_callS rfl rfl rfl (pu_isTable h.1.1 h.1.2) (go_ifb_eq (fun e3 => have h1 := h.2.1 e3; (go_pushI rfl (h1 ▸ gq_retI))) (fun e3 => have h2 := h.2.2 e3; (go_loadA rfl (gi_getR (Sh12.r31 hs) (go_pushI rfl (go_loadI rfl (go_imul h2.1.1 (go_loadI rfl (go_iadd h2.1.2.1 (gi_iald (inl_ (Sh12.l31 hs) h2.1.2.2) (go_pushI rfl (gq_icmp_eq (fun e6 => have h4 := h2.2.1 e6; (go_pushI rfl (h4 ▸ gq_retI))) (fun e6 => have h5 := h2.2.2 e6; (go_loadI rfl (go_i2l (go_pushL rfl (go_pushL rfl (go_callS rfl rfl rfl (pu_in h5.1 ⟨by decide, by decide⟩ ⟨by decide, by decide⟩ (v := x3) (lo := 0) (hi := 124)) (go_ifb_eq (fun e9 => have h7 := h5.2.1 e9; (go_pushI rfl (h7 ▸ gq_retI))) (fun e9 => have h8 := h5.2.2 e9; (go_loadI rfl (go_i2l (go_pushL rfl (go_pushL rfl (go_callS rfl rfl rfl (pu_in h8.1 ⟨by decide, by decide⟩ ⟨by decide, by decide⟩ (v := x4) (lo := 0) (hi := 124)) (go_ifb_eq (fun e12 => have h10 := h8.2.1 e12; (go_pushI rfl (h10 ▸ gq_retI))) (fun e12 => have h11 := h8.2.2 e12; (go_loadI rfl (go_i2l (go_pushL rfl (go_pushL rfl (go_callS rfl rfl rfl (pu_in h11.1 ⟨by decide, by decide⟩ ⟨by decide, by decide⟩ (v := x5) (lo := 0) (hi := 9)) (go_ifb_ne (fun e15 => have h13 := h11.2.1 e15; (go_pushI rfl (go_loadI rfl (go_imul h13.1.1 (go_loadI rfl (go_iadd h13.1.2.1 (go_stoI rfl rfl (go_pushI rfl (go_loadI rfl (go_imul h13.1.2.2.1 (go_loadA rfl (gi_getR (Sh12.r31 hs) (go_loadI rfl (gi_iald (inl_ (Sh12.l31 hs) h13.1.2.2.2.1) (go_iadd h13.1.2.2.2.2.1 (go_stoI rfl rfl (go_loadA rfl (gi_getR (Sh12.r28 hs) (go_loadI rfl (go_loadI rfl (gi_iast (inl_ (Sh12.l28 hs) h13.1.2.2.2.2.2.1) (go_loadA rfl (gi_getR (Sh12.r29 hs) (go_loadI rfl (go_loadI rfl (gi_iast (inl_ (Sh12.l29 hs) h13.1.2.2.2.2.2.1) (go_loadA rfl (gi_getR (Sh12.r30 hs) (go_loadI rfl (go_loadI rfl (gi_iast (inl_ (Sh12.l30 hs) h13.1.2.2.2.2.2.1) (go_loadA rfl (gi_getR (Sh12.r31 hs) (go_loadI rfl (go_dup2 (gi_ialde (inl_ (Sh12.l31 hs) h13.1.2.2.2.1) (Eq.trans (u2_a (by omega)) (Eq.trans (u2_a (by omega)) (u2_a (by omega)))) (go_pushI rfl (go_iadd h13.1.2.2.2.2.2.2.1 (gi_iast (inl_ (Sh12.l31 hs) h13.1.2.2.2.1) (go_loadA rfl (gi_getR (Sh12.r31 hs) (go_loadI rfl (gi_ialde (inl_ (Sh12.l31 hs) h13.1.2.2.2.1) u2_s (go_pushI rfl (go_isub h13.1.2.2.2.2.2.2.2 (h13.2 ▸ gq_retI)))))))))))))))))))))))))))))))))))))))))))))) (fun e15 => have h14 := h11.2.2 e15; (go_fall (go_pushI rfl (h14 ▸ gq_retI)))))))))))))))))))))))))))))))))))))))))
theorem c_row {σ : St} {f : FI} {g : FL} {B : Nat} (hs : Sh11 σ B) (hm : Sh12 σ (B + 165)) {nn : Nat → Nat} (hS : Stat σ f) (hl : Lo σ B) (h : ITb f B nn) {x y z u v' : Int} (rx : -2147483648 ≤ x ∧ x ≤ 2147483647) (ry : -2147483648 ≤ y ∧ y ≤ 2147483647) (rz : -2147483648 ≤ z ∧ z ≤ 2147483647) (ru : -2147483648 ≤ u ∧ u ≤ 2147483647) (rv : -2147483648 ≤ v' ∧ v' ≤ 2147483647) : ∃ nn' : Nat → Nat, ∃ (v : Int) (f1 f2 : FI), Ex mt 3 156 (il σ f g) [vR 11 (some B), vI x, vI y, vI z, vI u, vI v'] (il σ f1 g, [vI v]) ∧ Ex mt 3 243 (il σ f1 g) [vR 12 (some (B + 165)), vI x, vI y, vI z, vI u, vI v'] (il σ f2 g, [vI v]) ∧ ITb f2 B nn' ∧ Fr (fun a k => (B + 45 ≤ a ∧ a < B + 141) ∨ (B + 165 + 18 ≤ a ∧ a ≤ B + 165 + 21)) f f2 := by
  by_cases hc : (0 ≤ x ∧ x ≤ 1) ∧ (0 ≤ y ∧ y ≤ 7)
  · obtain ⟨i, rfl⟩ := Int.eq_ofNat_of_zero_le hc.1.1
    obtain ⟨j, rfl⟩ := Int.eq_ofNat_of_zero_le hc.2.1
    have hT := x_tableAt1 (f := f) (g := g) hs.net (x := i) (y := j) (by omega) (by omega)
    have e : (8 * (i : Int) + (j : Int)).toNat = 8 * i + j := by omega
    obtain ⟨tc, tm⟩ := h (8 * i + j) (by omega)
    generalize ht : 8 * i + j = t at *
    have ht16 : t < 16 := by omega
    by_cases hv : (0 ≤ z ∧ z ≤ 124) ∧ (0 ≤ u ∧ u ≤ 124) ∧ (0 ≤ v' ∧ v' ≤ 9)
    · obtain ⟨hz, hu, hv⟩ := hv
      by_cases hn : nn t < 12
      · obtain ⟨f1, hE, tc1, q1, q2, q3, fr⟩ := x_add (g := g) (hs.net.tb ht16) hS (hl.up (by unfold tB; omega)) tc hn hz hu hv
        have fr' : ∀ b, b < B + 45 ∨ B + 141 ≤ b → f1 b = f b := fun b hb => fr b (by unfold tB; omega)
        have m21 : f1 (B + 165 + 21) t = (nn t : Int) := by rw [fr' _ (by omega)]; exact tm.1
        refine ⟨fun s => if s = t then nn t + 1 else nn s, (nn t : Int), f1, up2 (up2 (up2 (up2 f1 (B + 165 + 18) (12 * t + nn t) z) (B + 165 + 19) (12 * t + nn t) u) (B + 165 + 20) (12 * t + nn t) v') (B + 165 + 21) t ((nn t : Int) + 1), bk_X11_row_0 hs (Or.inr ⟨f, g, _, hT, fun e => absurd hz e, fun _ => ⟨fun e => absurd hu e, fun _ => ⟨fun _ => ⟨f1, g, _, hE, rfl⟩, fun e => absurd hv e⟩⟩⟩), ?_, ?_, ?_⟩
        · refine bk_X12_row_0 hm ?_
          rw [e, m21]
          have e12 : (12 * (8 * (i : Int) + (j : Int)) + (nn t : Int)).toNat = 12 * t + nn t := by omega
          rw [e12]
          refine ⟨by omega, fun e => absurd hc e, fun _ => ⟨by omega, fun e => absurd e (by omega), fun _ => ⟨by omega, fun e => absurd hz e, fun _ => ⟨by omega, fun e => absurd hu e, fun _ => ⟨by omega, fun _ => ⟨by omega, ?_⟩, fun e => absurd hv e⟩⟩⟩⟩⟩
          rw [Int.add_sub_cancel]
        · intro s hs16
          have ef : ∀ b, b < B + 165 + 18 → up2 (up2 (up2 (up2 f1 (B + 165 + 18) (12 * t + nn t) z) (B + 165 + 19) (12 * t + nn t) u) (B + 165 + 20) (12 * t + nn t) v') (B + 165 + 21) t ((nn t : Int) + 1) b = f1 b := fun b hb => by
            rw [up2_ne (by omega), up2_ne (by omega), up2_ne (by omega), up2_ne (by omega)]
          have e18 : ∀ k, up2 (up2 (up2 (up2 f1 (B + 165 + 18) (12 * t + nn t) z) (B + 165 + 19) (12 * t + nn t) u) (B + 165 + 20) (12 * t + nn t) v') (B + 165 + 21) t ((nn t : Int) + 1) (B + 165 + 18) k = if k = 12 * t + nn t then z else f (B + 165 + 18) k := fun k => by
            rw [u2_a (by omega), u2_a (by omega), u2_a (by omega), u2]
            simp
            rw [fr' _ (by omega)]
          have e19 : ∀ k, up2 (up2 (up2 (up2 f1 (B + 165 + 18) (12 * t + nn t) z) (B + 165 + 19) (12 * t + nn t) u) (B + 165 + 20) (12 * t + nn t) v') (B + 165 + 21) t ((nn t : Int) + 1) (B + 165 + 19) k = if k = 12 * t + nn t then u else f (B + 165 + 19) k := fun k => by
            rw [u2_a (by omega), u2_a (by omega), u2]
            simp
            rw [u2_a (by omega), fr' _ (by omega)]
          have e20 : ∀ k, up2 (up2 (up2 (up2 f1 (B + 165 + 18) (12 * t + nn t) z) (B + 165 + 19) (12 * t + nn t) u) (B + 165 + 20) (12 * t + nn t) v') (B + 165 + 21) t ((nn t : Int) + 1) (B + 165 + 20) k = if k = 12 * t + nn t then v' else f (B + 165 + 20) k := fun k => by
            rw [u2_a (by omega), u2]
            simp
            rw [u2_a (by omega), u2_a (by omega), fr' _ (by omega)]
          have e21 : ∀ k, up2 (up2 (up2 (up2 f1 (B + 165 + 18) (12 * t + nn t) z) (B + 165 + 19) (12 * t + nn t) u) (B + 165 + 20) (12 * t + nn t) v') (B + 165 + 21) t ((nn t : Int) + 1) (B + 165 + 21) k = if k = t then (nn t : Int) + 1 else f (B + 165 + 21) k := fun k => by
            rw [u2]
            simp
            rw [u2_a (by omega), u2_a (by omega), u2_a (by omega), fr' _ (by omega)]
          generalize hf2 : up2 (up2 (up2 (up2 f1 (B + 165 + 18) (12 * t + nn t) z) (B + 165 + 19) (12 * t + nn t) u) (B + 165 + 20) (12 * t + nn t) v') (B + 165 + 21) t ((nn t : Int) + 1) = f2 at *
          by_cases q : s = t
          · subst q
            simp only [if_true]
            refine ⟨tc1.of (by rw [ef _ (by unfold tB; omega)]) (ef _ (by unfold tB; omega)) (ef _ (by unfold tB; omega)) (ef _ (by unfold tB; omega)) (ef _ (by unfold tB; omega)) (ef _ (by unfold tB; omega)), ?_, fun k hk => ?_⟩
            · rw [e21, if_pos rfl]
              rfl
            · rw [e18, e19, e20, ef _ (by unfold tB; omega), ef _ (by unfold tB; omega), ef _ (by unfold tB; omega), q1, q2, q3]
              by_cases qk : k = nn s
              · subst qk
                simp
              · have qk2 : ¬ 12 * s + k = 12 * s + nn s := by omega
                simp only [if_neg qk, if_neg qk2]
                exact tm.2 k (by omega)
          · simp only [if_neg q]
            obtain ⟨tcs, tms⟩ := h s hs16
            have tl := tcs.1.2
            have efs : ∀ d, d ≤ 5 → f2 (tB B s + d) = f (tB B s + d) := fun d hd => by
              rw [ef _ (by unfold tB; omega)]
              exact fr _ (by unfold tB; omega)
            refine ⟨tcs.of (congrFun (efs 0 (by omega)) 3) (efs 1 (by omega)) (efs 2 (by omega)) (efs 3 (by omega)) (efs 4 (by omega)) (efs 5 (by omega)), tms.of (by rw [e21, if_neg q]) (fun k hk => ?_) (fun k hk => by rw [efs 1 (by omega), efs 2 (by omega), efs 3 (by omega)]; exact ⟨rfl, rfl, rfl⟩)⟩
            rw [e18, e19, e20, if_neg (by omega), if_neg (by omega), if_neg (by omega)]
            exact ⟨rfl, rfl, rfl⟩
        · have fr1 : Fr (fun a k => (B + 45 ≤ a ∧ a < B + 141) ∨ (B + 165 + 18 ≤ a ∧ a ≤ B + 165 + 21)) f f1 := fun b k hb => by rw [fr' b (by omega)]
          exact (((fr1.up (by omega)).up (by omega)).up (by omega)).up (by omega)
      · have h12 : nn t = 12 := by have := tc.1.2; omega
        have hE : Ex mt 2 96 (il σ f g) [vR 7 (some (tB B t)), vI z, vI u, vI v'] (il σ f g, [vI (-1)]) := bk_X7_addRow_0 (hs.net.tb ht16) ⟨fun e => absurd e (by rw [tc.1.1]; omega), fun _ => rfl⟩
        refine ⟨nn, -1, f, f, bk_X11_row_0 hs (Or.inr ⟨f, g, _, hT, fun e => absurd hz e, fun _ => ⟨fun e => absurd hu e, fun _ => ⟨fun _ => ⟨f, g, _, hE, rfl⟩, fun e => absurd hv e⟩⟩⟩), ?_, h, Fr.rfl'⟩
        refine bk_X12_row_0 hm ?_
        rw [e, tm.1]
        exact ⟨by omega, fun e => absurd hc e, fun _ => ⟨by omega, fun _ => rfl, fun e => absurd (by omega) e⟩⟩
    · refine ⟨nn, -1, f, f, bk_X11_row_0 hs (Or.inr ⟨f, g, _, hT, fun _ => rfl, fun e1 => ⟨fun _ => rfl, fun e2 => ⟨fun e3 => absurd ⟨e1, e2, e3⟩ hv, fun _ => rfl⟩⟩⟩), bk_X12_row_0 hm ⟨by omega, fun e => absurd hc e, fun _ => ⟨by omega, fun _ => rfl, fun _ => ⟨by omega, fun _ => rfl, fun e1 => ⟨by omega, fun _ => rfl, fun e2 => ⟨by omega, fun e3 => absurd ⟨e1, e2, e3⟩ hv, fun _ => rfl⟩⟩⟩⟩⟩, h, Fr.rfl'⟩
  · exact ⟨nn, -1, f, f, bk_X11_row_0 hs (Or.inl ⟨f, g, x_tableAt0 hs.net hc, rfl⟩), bk_X12_row_0 hm ⟨by omega, fun _ => rfl, fun e => absurd e hc⟩, h, Fr.rfl'⟩
theorem bk_X7_clear_0 {σ : St} {f : FI} {g : FL} {a : Nat} {r : St × List Vl} (hs : Sh7 σ a) (h : (∃ (f1 : FI) (g2 : FL), Ex mt 0 315 (il σ (up2 f a 3 0) g) [vR 14 (some (a + 4)), vI (-1)] ((il σ f1 g2), []) ∧ (∃ (f4 : FI) (g5 : FL), Ex mt 0 315 (il σ f1 g2) [vR 14 (some (a + 5)), vI (-2)] ((il σ f4 g5), []) ∧ (r = ((il σ f4 g5), []))))) : Ex mt 1 97 (il σ f g) [vR 7 (some a)] r := Ex.mk mt_97 (show Gx mt 1 cd_X7_clear (il σ f g) b_X7_clear_0 [some (vR 7 (some a))] [] r from (go_loadA rfl (go_pushI rfl (gi_putI (go_loadA rfl (gi_getR (Sh7.r4 hs) (go_pushI rfl (Exists.elim h fun f1 w8 => Exists.elim w8 fun g2 h3 => (go_callS rfl rfl rfl h3.1 (go_loadA rfl (gi_getR (Sh7.r5 hs) (go_pushI rfl (Exists.elim h3.2 fun f4 w7 => Exists.elim w7 fun g5 h6 => (go_callS rfl rfl rfl h6.1 (h6.2 ▸ gq_retV)))))))))))))))
theorem bk_X11_erase_0 {σ : St} {f : FI} {g : FL} {a : Nat} {x1 : Int} {x2 : Int} {r : St × List Vl} (hs : Sh11 σ a) (h : ((∃ (f1 : FI) (g2 : FL), Ex mt 2 32 (il σ f g) [vR 3 (some (a + 43)), vI x1, vI x2] ((il σ f1 g2), [vR 7 none]) ∧ (r = ((il σ f1 g2), [vI (-1)]))) ∨ (∃ (f1 : FI) (g2 : FL) (q4 : Nat), Ex mt 2 32 (il σ f g) [vR 3 (some (a + 43)), vI x1, vI x2] ((il σ f1 g2), [vR 7 (some q4)]) ∧ (∃ (f5 : FI) (g6 : FL), Ex mt 1 97 (il σ f1 g2) [vR 7 (some q4)] ((il σ f5 g6), []) ∧ (r = ((il σ f5 g6), [vI (f1 q4 3)])))))) : Ex mt 3 157 (il σ f g) [vR 11 (some a), vI x1, vI x2] r := Ex.mk mt_157 (show Gx mt 3 cd_X11_erase (il σ f g) b_X11_erase_0 [some (vR 11 (some a)), some (vI x1), some (vI x2), none, none] [] r from (go_loadA rfl (gi_getR (Sh11.r9 hs) (go_loadI rfl (go_loadI rfl (Or.elim h (fun h9q => (Exists.elim h9q fun f1 w10 => Exists.elim w10 fun g2 h9 => (go_callV rfl rfl rfl h9.1 (go_stoA rfl rfl (go_loadA rfl (go_nnullN (go_pushI rfl (h9.2 ▸ gq_retI)))))))) (fun h3q => (Exists.elim h3q fun f1 w11 => Exists.elim w11 fun g2 w12 => Exists.elim w12 fun q4 h3 => (go_callV rfl rfl rfl h3.1 (go_stoA rfl rfl (go_loadA rfl (go_nnullS (go_loadA rfl (gi_getI (go_stoI rfl rfl (go_loadA rfl (Exists.elim h3.2 fun f5 w8 => Exists.elim w8 fun g6 h7 => (go_callV rfl rfl rfl h7.1 (go_loadI rfl (h7.2 ▸ gq_retI))))))))))))))))))))
theorem bk_X12_erase_0 {σ : St} {f : FI} {g : FL} {a : Nat} {x1 : Int} {x2 : Int} {r : St × List Vl} (hs : Sh12 σ a) (h : ((-2147483648 ≤ x1 ∧ x1 ≤ 2147483647) ∧ (-2147483648 ≤ x2 ∧ x2 ≤ 2147483647)) ∧ (((((0 ≤ x1 ∧ x1 ≤ 1) ∧ (0 ≤ x2 ∧ x2 ≤ 7))) → ((-2147483648 ≤ (8 * x1) ∧ (8 * x1) ≤ 2147483647) ∧ (-2147483648 ≤ ((8 * x1) + x2) ∧ ((8 * x1) + x2) ≤ 2147483647) ∧ (0 ≤ ((8 * x1) + x2) ∧ ((8 * x1) + x2) < 16)) ∧ (r = ((il σ (up2 f (a + 21) ((((8 * x1) + x2)).toNat) 0) g), [vI (f (a + 21) ((((8 * x1) + x2)).toNat))]))) ∧ (¬ (((0 ≤ x1 ∧ x1 ≤ 1) ∧ (0 ≤ x2 ∧ x2 ≤ 7))) → (r = ((il σ f g), [vI (-1)]))))) : Ex mt 3 244 (il σ f g) [vR 12 (some a), vI x1, vI x2] r := Ex.mk mt_244 (show Gx mt 3 cd_X12_erase (il σ f g) b_X12_erase_0 [some (vR 12 (some a)), some (vI x1), some (vI x2), none] [] r from (go_loadI rfl (go_loadI rfl (go_callS rfl rfl rfl (pu_isTable h.1.1 h.1.2) (go_ifb_ne (fun e3 => have h1 := h.2.1 e3; (go_loadA rfl (gi_getR (Sh12.r31 hs) (go_pushI rfl (go_loadI rfl (go_imul h1.1.1 (go_loadI rfl (go_iadd h1.1.2.1 (gi_iald (inl_ (Sh12.l31 hs) h1.1.2.2) (go_stoI rfl rfl (go_loadA rfl (gi_getR (Sh12.r31 hs) (go_pushI rfl (go_loadI rfl (go_imul h1.1.1 (go_loadI rfl (go_iadd h1.1.2.1 (go_pushI rfl (gi_iast (inl_ (Sh12.l31 hs) h1.1.2.2) (go_loadI rfl (h1.2 ▸ gq_retI))))))))))))))))))))) (fun e3 => have h2 := h.2.2 e3; (go_pushI rfl (h2 ▸ gq_retI))))))))
theorem x_clear {σ : St} {f : FI} {g : FL} {a n : Nat} (hs : Sh7 σ a) : ∃ f' : FI, Ex mt 1 97 (il σ f g) [vR 7 (some a)] (il σ f' g, []) ∧ TC f' a 0 ∧ (∀ b, (b < a ∨ a + 5 < b) → f' b = f b) := by
  have h1 := x_fillI (f := up2 f a 3 0) (g := g) (v := -1) hs.l4 (by decide)
  have h2 := x_fillI (f := up1 (up2 f a 3 0) (a + 4) (fun k => if k < 64 then -1 else up2 f a 3 0 (a + 4) k)) (g := g) (v := -2) hs.l5 (by decide)
  refine ⟨_, bk_X7_clear_0 hs ⟨_, g, h1, _, g, h2, rfl⟩, ⟨⟨?_, by decide⟩, fun k hk => absurd hk (Nat.not_lt_zero k), fun p hp => ?_⟩, fun b hb => ?_⟩
  · rw [up1_ne (by omega), up1_ne (by omega), u2_s]
    rfl
  · refine ⟨?_, ?_⟩
    · rw [up1_ne (by omega), u1, if_pos rfl]
      show (if p < 64 then -1 else _) = _
      rw [if_pos hp]
      rfl
    · rw [u1, if_pos rfl]
      show (if p < 64 then -2 else _) = _
      rw [if_pos hp]
      rfl
  · rw [up1_ne (by omega), up1_ne (by omega), up2_ne (by omega)]
theorem c_erase {σ : St} {f : FI} {g : FL} {B : Nat} (hs : Sh11 σ B) (hm : Sh12 σ (B + 165)) {nn : Nat → Nat} (h : ITb f B nn) {x y : Int} (rx : -2147483648 ≤ x ∧ x ≤ 2147483647) (ry : -2147483648 ≤ y ∧ y ≤ 2147483647) : ∃ nn' : Nat → Nat, ∃ (v : Int) (f1 f2 : FI), Ex mt 3 157 (il σ f g) [vR 11 (some B), vI x, vI y] (il σ f1 g, [vI v]) ∧ Ex mt 3 244 (il σ f1 g) [vR 12 (some (B + 165)), vI x, vI y] (il σ f2 g, [vI v]) ∧ ITb f2 B nn' ∧ Fr (fun a k => (B + 45 ≤ a ∧ a < B + 141) ∨ (B + 165 + 18 ≤ a ∧ a ≤ B + 165 + 21)) f f2 := by
  by_cases hc : (0 ≤ x ∧ x ≤ 1) ∧ (0 ≤ y ∧ y ≤ 7)
  · obtain ⟨i, rfl⟩ := Int.eq_ofNat_of_zero_le hc.1.1
    obtain ⟨j, rfl⟩ := Int.eq_ofNat_of_zero_le hc.2.1
    have hT := x_tableAt1 (f := f) (g := g) hs.net (x := i) (y := j) (by omega) (by omega)
    have e : (8 * (i : Int) + (j : Int)).toNat = 8 * i + j := by omega
    obtain ⟨tc, tm⟩ := h (8 * i + j) (by omega)
    generalize ht : 8 * i + j = t at *
    have ht16 : t < 16 := by omega
    obtain ⟨f1, hE, tc1, fr⟩ := x_clear (f := f) (g := g) (n := 0) (hs.net.tb ht16)
    have fr' : ∀ b, b < B + 45 ∨ B + 141 ≤ b → f1 b = f b := fun b hb => fr b (by unfold tB; omega)
    refine ⟨fun s => if s = t then 0 else nn s, (nn t : Int), f1, up2 f1 (B + 165 + 21) t 0, bk_X11_erase_0 hs (Or.inr ⟨f, g, _, hT, f1, g, hE, by rw [tc.1.1]⟩), bk_X12_erase_0 hm ⟨by omega, fun _ => ⟨by omega, ?_⟩, fun e => absurd hc e⟩, fun s hs16 => ?_, ?_⟩
    · rw [e, fr' _ (by omega), tm.1]
    · have ef : ∀ b, b < B + 165 + 21 → up2 f1 (B + 165 + 21) t 0 b = f1 b := fun b hb => up2_ne (by omega)
      by_cases q : s = t
      · subst q
        simp only [if_true]
        refine ⟨tc1.of (by rw [ef _ (by unfold tB; omega)]) (ef _ (by unfold tB; omega)) (ef _ (by unfold tB; omega)) (ef _ (by unfold tB; omega)) (ef _ (by unfold tB; omega)) (ef _ (by unfold tB; omega)), u2_s, fun k hk => absurd hk (Nat.not_lt_zero k)⟩
      · simp only [if_neg q]
        obtain ⟨tcs, tms⟩ := h s hs16
        have efs : ∀ d, d ≤ 5 → up2 f1 (B + 165 + 21) t 0 (tB B s + d) = f (tB B s + d) := fun d hd => by
          rw [ef _ (by unfold tB; omega)]
          exact fr _ (by unfold tB; omega)
        refine ⟨tcs.of (congrFun (efs 0 (by omega)) 3) (efs 1 (by omega)) (efs 2 (by omega)) (efs 3 (by omega)) (efs 4 (by omega)) (efs 5 (by omega)), tms.of (by rw [u2_i q, fr' _ (by omega)]) (fun k hk => by rw [ef _ (by omega), ef _ (by omega), ef _ (by omega), fr' _ (by omega), fr' _ (by omega), fr' _ (by omega)]; exact ⟨rfl, rfl, rfl⟩) (fun k hk => by rw [efs 1 (by omega), efs 2 (by omega), efs 3 (by omega)]; exact ⟨rfl, rfl, rfl⟩)⟩
    · have fr1 : Fr (fun a k => (B + 45 ≤ a ∧ a < B + 141) ∨ (B + 165 + 18 ≤ a ∧ a ≤ B + 165 + 21)) f f1 := fun b k hb => by rw [fr' b (by omega)]
      exact fr1.up (by omega)
  · exact ⟨nn, -1, f, f, bk_X11_erase_0 hs (Or.inl ⟨f, g, x_tableAt0 hs.net hc, rfl⟩), bk_X12_erase_0 hm ⟨by omega, fun e => absurd e hc, fun _ => rfl⟩, h, Fr.rfl'⟩
theorem bk_X11_rows_0 {σ : St} {f : FI} {g : FL} {a : Nat} {x1 : Int} {x2 : Int} {x3 : Int} {x4 : Int} {r : St × List Vl} (hs : Sh11 σ a) (h : ((∃ (f1 : FI) (g2 : FL), Ex mt 2 32 (il σ f g) [vR 3 (some (a + 43)), vI x1, vI x2] ((il σ f1 g2), [vR 7 none]) ∧ (r = ((il σ f1 g2), [vI (-1)]))) ∨ (∃ (f1 : FI) (g2 : FL) (q4 : Nat), Ex mt 2 32 (il σ f g) [vR 3 (some (a + 43)), vI x1, vI x2] ((il σ f1 g2), [vR 7 (some q4)]) ∧ ((x3 < 0 → (r = ((il σ f1 g2), [vI (-1)]))) ∧ (¬ x3 < 0 → (((f1 q4 3) ≤ x3 → (r = ((il σ f1 g2), [vI (-1)]))) ∧ (¬ (f1 q4 3) ≤ x3 → ((((0 ≤ x4 ∧ x4 ≤ 2)) → ((¬ x4 = 0 → ((¬ x4 = 1 → (Sh7 σ q4 ∧ (0 ≤ x3 ∧ x3 < 12)) ∧ (r = ((il σ f1 g2), [vI (f1 (q4 + 3) ((x3).toNat))]))) ∧ (x4 = 1 → (Sh7 σ q4 ∧ (0 ≤ x3 ∧ x3 < 12)) ∧ (r = ((il σ f1 g2), [vI (f1 (q4 + 2) ((x3).toNat))]))))) ∧ (x4 = 0 → (Sh7 σ q4 ∧ (0 ≤ x3 ∧ x3 < 12)) ∧ (r = ((il σ f1 g2), [vI (f1 (q4 + 1) ((x3).toNat))]))))) ∧ (¬ ((0 ≤ x4 ∧ x4 ≤ 2)) → (r = ((il σ f1 g2), [vI (-1)]))))))))))) : Ex mt 3 182 (il σ f g) [vR 11 (some a), vI x1, vI x2, vI x3, vI x4] r := Ex.mk mt_182 (show Gx mt 3 cd_X11_rows (il σ f g) b_X11_rows_0 [some (vR 11 (some a)), some (vI x1), some (vI x2), some (vI x3), some (vI x4), none] [] r from (go_loadA rfl (gi_getR (Sh11.r9 hs) (go_loadI rfl (go_loadI rfl (Or.elim h (fun h20q => (Exists.elim h20q fun f1 w21 => Exists.elim w21 fun g2 h20 => (go_callV rfl rfl rfl h20.1 (go_stoA rfl rfl (go_loadA rfl (go_nullN (go_pushI rfl (h20.2 ▸ gq_retI)))))))) (fun h3q => (Exists.elim h3q fun f1 w22 => Exists.elim w22 fun g2 w23 => Exists.elim w23 fun q4 h3 => (go_callV rfl rfl rfl h3.1 (go_stoA rfl rfl (go_loadA rfl (go_nullS (go_loadI rfl (gq_if_lt (fun e7 => have h5 := h3.2.1 e7; (go_pushI rfl (h5 ▸ gq_retI))) (fun e7 => have h6 := h3.2.2 e7; (go_loadI rfl (go_loadA rfl (gi_getI (gq_icmp_ge (fun e10 => have h8 := h6.1 e10; (go_pushI rfl (h8 ▸ gq_retI))) (fun e10 => have h9 := h6.2 e10; (go_loadI rfl (go_pushI rfl (go_callS rfl rfl rfl (pu_upTo) (go_ifb_ne (fun e13 => have h11 := h9.1 e13; (go_loadI rfl (gq_if_ne (fun e16 => have h14 := h11.1 e16; (go_loadI rfl (go_pushI rfl (gq_icmp_ne (fun e19 => have h17 := h14.1 e19; (go_loadA rfl (gi_getR (Sh7.r2 h17.1.1) (go_loadI rfl (gi_iald (inl_ (Sh7.l2 h17.1.1) h17.1.2) (go_fall (h17.2 ▸ gq_retI))))))) (fun e19 => have h18 := h14.2 e19; (go_loadA rfl (gi_getR (Sh7.r1 h18.1.1) (go_loadI rfl (gi_iald (inl_ (Sh7.l1 h18.1.1) h18.1.2) (go_goto (h18.2 ▸ gq_retI))))))))))) (fun e16 => have h15 := h11.2 e16; (go_loadA rfl (gi_getR (Sh7.r0 h15.1.1) (go_loadI rfl (gi_iald (inl_ (Sh7.l0 h15.1.1) h15.1.2) (go_goto (h15.2 ▸ gq_retI)))))))))) (fun e13 => have h12 := h9.2 e13; (go_fall (go_pushI rfl (h12 ▸ gq_retI))))))))))))))))))))))))))))
theorem bk_X12_rows_0 {σ : St} {f : FI} {g : FL} {a : Nat} {x1 : Int} {x2 : Int} {x3 : Int} {x4 : Int} {r : St × List Vl} (hs : Sh12 σ a) (h : ((-2147483648 ≤ x1 ∧ x1 ≤ 2147483647) ∧ (-2147483648 ≤ x2 ∧ x2 ≤ 2147483647)) ∧ ((¬ (((0 ≤ x1 ∧ x1 ≤ 1) ∧ (0 ≤ x2 ∧ x2 ≤ 7))) → (r = ((il σ f g), [vI (-1)]))) ∧ ((((0 ≤ x1 ∧ x1 ≤ 1) ∧ (0 ≤ x2 ∧ x2 ≤ 7))) → ((-2147483648 ≤ (8 * x1) ∧ (8 * x1) ≤ 2147483647) ∧ (-2147483648 ≤ ((8 * x1) + x2) ∧ ((8 * x1) + x2) ≤ 2147483647) ∧ (0 ≤ ((8 * x1) + x2) ∧ ((8 * x1) + x2) < 16) ∧ (-2147483648 ≤ ((f (a + 21) ((((8 * x1) + x2)).toNat)) - 1) ∧ ((f (a + 21) ((((8 * x1) + x2)).toNat)) - 1) ≤ 2147483647) ∧ (-2147483648 ≤ x3 ∧ x3 ≤ 2147483647)) ∧ ((((0 ≤ x3 ∧ x3 ≤ ((f (a + 21) ((((8 * x1) + x2)).toNat)) - 1))) → ((-2147483648 ≤ (8 * x1) ∧ (8 * x1) ≤ 2147483647) ∧ (-2147483648 ≤ ((8 * x1) + x2) ∧ ((8 * x1) + x2) ≤ 2147483647) ∧ (-2147483648 ≤ (12 * ((8 * x1) + x2)) ∧ (12 * ((8 * x1) + x2)) ≤ 2147483647) ∧ (-2147483648 ≤ ((12 * ((8 * x1) + x2)) + x3) ∧ ((12 * ((8 * x1) + x2)) + x3) ≤ 2147483647)) ∧ ((¬ x4 = 0 → ((¬ x4 = 1 → ((¬ x4 = 2 → (r = ((il σ f g), [vI (-1)]))) ∧ (x4 = 2 → ((0 ≤ ((12 * ((8 * x1) + x2)) + x3) ∧ ((12 * ((8 * x1) + x2)) + x3) < 192)) ∧ (r = ((il σ f g), [vI (f (a + 20) ((((12 * ((8 * x1) + x2)) + x3)).toNat))]))))) ∧ (x4 = 1 → ((0 ≤ ((12 * ((8 * x1) + x2)) + x3) ∧ ((12 * ((8 * x1) + x2)) + x3) < 192)) ∧ (r = ((il σ f g), [vI (f (a + 19) ((((12 * ((8 * x1) + x2)) + x3)).toNat))]))))) ∧ (x4 = 0 → ((0 ≤ ((12 * ((8 * x1) + x2)) + x3) ∧ ((12 * ((8 * x1) + x2)) + x3) < 192)) ∧ (r = ((il σ f g), [vI (f (a + 18) ((((12 * ((8 * x1) + x2)) + x3)).toNat))]))))) ∧ (¬ ((0 ≤ x3 ∧ x3 ≤ ((f (a + 21) ((((8 * x1) + x2)).toNat)) - 1))) → (r = ((il σ f g), [vI (-1)]))))))) : Ex mt 3 303 (il σ f g) [vR 12 (some a), vI x1, vI x2, vI x3, vI x4] r := Ex.mk mt_303 (show Gx mt 3 cd_X12_rows (il σ f g) b_X12_rows_0 [some (vR 12 (some a)), some (vI x1), some (vI x2), some (vI x3), some (vI x4), none] [] r from (go_loadI rfl (go_loadI rfl (go_callS rfl rfl rfl (pu_isTable h.1.1 h.1.2) (go_ifb_eq (fun e3 => have h1 := h.2.1 e3; (go_pushI rfl (h1 ▸ gq_retI))) (fun e3 => have h2 := h.2.2 e3; (go_loadI rfl (go_i2l (go_pushL rfl (go_loadA rfl (gi_getR (Sh12.r31 hs) (go_pushI rfl (go_loadI rfl (go_imul h2.1.1 (go_loadI rfl (go_iadd h2.1.2.1 (gi_iald (inl_ (Sh12.l31 hs) h2.1.2.2.1) (go_pushI rfl (go_isub h2.1.2.2.2.1 (go_i2l (go_callS rfl rfl rfl (pu_in h2.1.2.2.2.2 ⟨by decide, by decide⟩ h2.1.2.2.2.1 (v := x3) (lo := 0) (hi := ((f (a + 21) ((((8 * x1) + x2)).toNat)) - 1))) (go_ifb_ne (fun e6 => have h4 := h2.2.1 e6; (go_pushI rfl (go_pushI rfl (go_loadI rfl (go_imul h4.1.1 (go_loadI rfl (go_iadd h4.1.2.1 (go_imul h4.1.2.2.1 (go_loadI rfl (go_iadd h4.1.2.2.2 (go_stoI rfl rfl (go_loadI rfl (gq_if_ne (fun e9 => have h7 := h4.2.1 e9; (go_loadI rfl (go_pushI rfl (gq_icmp_ne (fun e12 => have h10 := h7.1 e12; (go_loadI rfl (go_pushI rfl (gq_icmp_ne (fun e15 => have h13 := h10.1 e15; (go_pushI rfl (go_fall (h13 ▸ gq_retI)))) (fun e15 => have h14 := h10.2 e15; (go_loadA rfl (gi_getR (Sh12.r30 hs) (go_loadI rfl (gi_iald (inl_ (Sh12.l30 hs) h14.1) (go_goto (h14.2 ▸ gq_retI))))))))))) (fun e12 => have h11 := h7.2 e12; (go_loadA rfl (gi_getR (Sh12.r29 hs) (go_loadI rfl (gi_iald (inl_ (Sh12.l29 hs) h11.1) (go_goto (h11.2 ▸ gq_retI))))))))))) (fun e9 => have h8 := h4.2.2 e9; (go_loadA rfl (gi_getR (Sh12.r28 hs) (go_loadI rfl (gi_iald (inl_ (Sh12.l28 hs) h8.1) (go_goto (h8.2 ▸ gq_retI)))))))))))))))))))) (fun e6 => have h5 := h2.2.2 e6; (go_fall (go_pushI rfl (h5 ▸ gq_retI))))))))))))))))))))))))))
theorem c_rows {σ : St} {f : FI} {g : FL} {B : Nat} (hs : Sh11 σ B) (hm : Sh12 σ (B + 165)) {nn : Nat → Nat} (h : ITb f B nn) {x y z u : Int} (rx : -2147483648 ≤ x ∧ x ≤ 2147483647) (ry : -2147483648 ≤ y ∧ y ≤ 2147483647) (rz : -2147483648 ≤ z ∧ z ≤ 2147483647) (ru : -2147483648 ≤ u ∧ u ≤ 2147483647) : ∃ v : Int, Ex mt 3 182 (il σ f g) [vR 11 (some B), vI x, vI y, vI z, vI u] (il σ f g, [vI v]) ∧ Ex mt 3 303 (il σ f g) [vR 12 (some (B + 165)), vI x, vI y, vI z, vI u] (il σ f g, [vI v]) := by
  by_cases hc : (0 ≤ x ∧ x ≤ 1) ∧ (0 ≤ y ∧ y ≤ 7)
  · obtain ⟨i, rfl⟩ := Int.eq_ofNat_of_zero_le hc.1.1
    obtain ⟨j, rfl⟩ := Int.eq_ofNat_of_zero_le hc.2.1
    have hT := x_tableAt1 (f := f) (g := g) hs.net (x := i) (y := j) (by omega) (by omega)
    have e : (8 * (i : Int) + (j : Int)).toNat = 8 * i + j := by omega
    obtain ⟨tc, tm⟩ := h (8 * i + j) (by omega)
    generalize ht : 8 * i + j = t at *
    have ht16 : t < 16 := by omega
    have h7 := hs.net.tb ht16
    have n12 := tc.1.2
    by_cases hz : 0 ≤ z ∧ z < (nn t : Int)
    · obtain ⟨k, rfl⟩ := Int.eq_ofNat_of_zero_le hz.1
      obtain ⟨m1, m2, m3⟩ := tm.2 k (by omega)
      have e12 : (12 * (8 * (i : Int) + (j : Int)) + (k : Int)).toNat = 12 * t + k := by omega
      have ek : (k : Int).toNat = k := rfl
      by_cases hu : u = 0 ∨ u = 1 ∨ u = 2
      · rcases hu with rfl | rfl | rfl
        · refine ⟨_, bk_X11_rows_0 hs (Or.inr ⟨f, g, _, hT, fun e => absurd e (by omega), fun _ => ⟨fun e => absurd e (by rw [tc.1.1]; omega), fun _ => ⟨fun _ => ⟨fun e => absurd rfl e, fun _ => ⟨⟨h7, by omega⟩, rfl⟩⟩, fun e => absurd (by decide) e⟩⟩⟩), ?_⟩
          refine bk_X12_rows_0 hm ?_
          rw [e, tm.1, e12, m1, ek]
          exact ⟨by omega, fun e => absurd hc e, fun _ => ⟨by omega, fun _ => ⟨by omega, fun e => absurd rfl e, fun _ => ⟨by omega, rfl⟩⟩, fun e => absurd (by omega) e⟩⟩
        · refine ⟨_, bk_X11_rows_0 hs (Or.inr ⟨f, g, _, hT, fun e => absurd e (by omega), fun _ => ⟨fun e => absurd e (by rw [tc.1.1]; omega), fun _ => ⟨fun _ => ⟨fun _ => ⟨fun e => absurd rfl e, fun _ => ⟨⟨h7, by omega⟩, rfl⟩⟩, fun e => absurd e (by decide)⟩, fun e => absurd (by decide) e⟩⟩⟩), ?_⟩
          refine bk_X12_rows_0 hm ?_
          rw [e, tm.1, e12, m2, ek]
          exact ⟨by omega, fun e => absurd hc e, fun _ => ⟨by omega, fun _ => ⟨by omega, fun _ => ⟨fun e => absurd rfl e, fun _ => ⟨by omega, rfl⟩⟩, fun e => absurd e (by decide)⟩, fun e => absurd (by omega) e⟩⟩
        · refine ⟨_, bk_X11_rows_0 hs (Or.inr ⟨f, g, _, hT, fun e => absurd e (by omega), fun _ => ⟨fun e => absurd e (by rw [tc.1.1]; omega), fun _ => ⟨fun _ => ⟨fun _ => ⟨fun _ => ⟨⟨h7, by omega⟩, rfl⟩, fun e => absurd e (by decide)⟩, fun e => absurd e (by decide)⟩, fun e => absurd (by decide) e⟩⟩⟩), ?_⟩
          refine bk_X12_rows_0 hm ?_
          rw [e, tm.1, e12, m3, ek]
          exact ⟨by omega, fun e => absurd hc e, fun _ => ⟨by omega, fun _ => ⟨by omega, fun _ => ⟨fun _ => ⟨fun e => absurd rfl e, fun _ => ⟨by omega, rfl⟩⟩, fun e => absurd e (by decide)⟩, fun e => absurd e (by decide)⟩, fun e => absurd (by omega) e⟩⟩
      · refine ⟨-1, bk_X11_rows_0 hs (Or.inr ⟨f, g, _, hT, fun e => absurd e (by omega), fun _ => ⟨fun e => absurd e (by rw [tc.1.1]; omega), fun _ => ⟨fun e => absurd (by omega) hu, fun _ => rfl⟩⟩⟩), ?_⟩
        refine bk_X12_rows_0 hm ?_
        rw [e, tm.1]
        exact ⟨by omega, fun e => absurd hc e, fun _ => ⟨by omega, fun _ => ⟨by omega, fun _ => ⟨fun _ => ⟨fun _ => rfl, fun e => absurd (by omega) hu⟩, fun e => absurd (by omega) hu⟩, fun e => absurd (by omega) hu⟩, fun e => absurd (by omega) e⟩⟩
    · refine ⟨-1, bk_X11_rows_0 hs (Or.inr ⟨f, g, _, hT, fun _ => rfl, fun _ => ⟨fun _ => rfl, fun e => absurd (by rw [tc.1.1] at e; omega) hz⟩⟩), ?_⟩
      refine bk_X12_rows_0 hm ?_
      rw [e, tm.1]
      exact ⟨by omega, fun e => absurd hc e, fun _ => ⟨by omega, fun e => absurd (by omega) hz, fun _ => rfl⟩⟩
  · exact ⟨-1, bk_X11_rows_0 hs (Or.inl ⟨f, g, x_tableAt0 hs.net hc, rfl⟩), bk_X12_rows_0 hm ⟨by omega, fun _ => rfl, fun e => absurd e hc⟩⟩
