/-! taps: the call pair -/
def A_X0_fewestTaps_11 (σ : St) (f : FI) (g : FL) (a : Nat) (x2 : Int) (x3 : Int) (x4 : Int) (r : St × List Vl) : Prop := ∀ (y1 : Int), Gx mt 4 cd_X0_fewestTaps (il σ f g) (cd_X0_fewestTaps 11) [some (vR 0 (some a)), some (vI y1), some (vI x2), some (vI x3), some (vI x4)] [] r
theorem bk_X0_fewestTaps_0 {σ : St} {f : FI} {g : FL} {a : Nat} {x1 : Int} {r : St × List Vl} (hs : Sh0 σ a) (h : (∃ (f1 : FI) (g2 : FL) (v4 : Int), Ex mt 3 3 (il σ f g) [vR 0 (some a), vI x1] ((il σ f1 g2), [vI v4]) ∧ (A_X0_fewestTaps_11 σ f1 g2 a v4 0 0 r))) : Ex mt 4 6 (il σ f g) [vR 0 (some a), vI x1] r := Ex.mk mt_6 (show Gx mt 4 cd_X0_fewestTaps (il σ f g) b_X0_fewestTaps_0 [some (vR 0 (some a)), some (vI x1), none, none, none] [] r from (go_loadA rfl (go_loadI rfl (Exists.elim h fun f1 w5 => Exists.elim w5 fun g2 w6 => Exists.elim w6 fun v4 h3 => (go_callV rfl rfl rfl h3.1 (go_stoI rfl rfl (go_pushI rfl (go_stoI rfl rfl (go_pushI rfl (go_stoI rfl rfl (go_fall (h3.2 _))))))))))))
theorem bk_X0_fewestTaps_11 {σ : St} {f : FI} {g : FL} {a : Nat} {x2 : Int} {x3 : Int} {x4 : Int} {r : St × List Vl} (hs : Sh0 σ a) (h : (((f a 2) ≤ x4 → (r = ((il σ f g), [vI x3]))) ∧ (¬ (f a 2) ≤ x4 → ((-2147483648 ≤ x2 ∧ x2 ≤ 2147483647) ∧ (0 ≤ x4 ∧ x4 < 32)) ∧ ((¬ ((hB x2 x4)) → ((-2147483648 ≤ (x4 + 1) ∧ (x4 + 1) ≤ 2147483647)) ∧ (A_X0_fewestTaps_11 σ f g a x2 x3 (x4 + 1) r)) ∧ (((hB x2 x4)) → (∃ (f7 : FI) (g8 : FL) (v10 : Int), Ex mt 3 3 (il σ f g) [vR 0 (some a), vI x3] ((il σ f7 g8), [vI v10]) ∧ ((-2147483648 ≤ v10 ∧ v10 ≤ 2147483647) ∧ (0 ≤ x4 ∧ x4 < 32)) ∧ ((((hB v10 x4)) → ((-2147483648 ≤ (x4 + 1) ∧ (x4 + 1) ≤ 2147483647)) ∧ (A_X0_fewestTaps_11 σ f7 g8 a x2 x3 (x4 + 1) r)) ∧ (¬ ((hB v10 x4)) → ((0 ≤ x4 ∧ x4 < 31)) ∧ ((-2147483648 ≤ (x4 + 1) ∧ (x4 + 1) ≤ 2147483647)) ∧ (A_X0_fewestTaps_11 σ f7 g8 a x2 (iOr x3 (p2 x4)) (x4 + 1) r))))))))) : A_X0_fewestTaps_11 σ f g a x2 x3 x4 r := fun y1 => (show Gx mt 4 cd_X0_fewestTaps (il σ f g) b_X0_fewestTaps_11 [some (vR 0 (some a)), some (vI y1), some (vI x2), some (vI x3), some (vI x4)] [] r from (go_loadI rfl (go_loadA rfl (gi_getI (gq_icmp_ge (fun e3 => have h1 := h.1 e3; (go_loadI rfl (h1 ▸ gq_retI))) (fun e3 => have h2 := h.2 e3; (go_loadI rfl (go_loadI rfl (go_callS rfl rfl rfl (pu_hasBit h2.1.1 h2.1.2) (go_ifb_eq (fun e6 => have h4 := h2.2.1 e6; (go_iinc rfl h4.1 rfl (go_goto (h4.2 _)))) (fun e6 => have h5 := h2.2.2 e6; (go_loadA rfl (go_loadI rfl (Exists.elim h5 fun f7 w14 => Exists.elim w14 fun g8 w15 => Exists.elim w15 fun v10 h9 => (go_callV rfl rfl rfl h9.1 (go_loadI rfl (go_callS rfl rfl rfl (pu_hasBit h9.2.1.1 h9.2.1.2) (go_ifb_ne (fun e13 => have h11 := h9.2.2.1 e13; (go_iinc rfl h11.1 rfl (go_goto (h11.2 _)))) (fun e13 => have h12 := h9.2.2.2 e13; (go_loadI rfl (go_pushI rfl (go_loadI rfl (go_ishl (iShl_1 h12.1) (go_ior rfl (go_stoI rfl rfl (go_fall (go_iinc rfl h12.2.1 rfl (go_goto (h12.2.2 _)))))))))))))))))))))))))))))
theorem bk_X11_taps_0 {σ : St} {f : FI} {g : FL} {a : Nat} {x1 : Int} {r : St × List Vl} (hs : Sh11 σ a) (h : (∃ (f1 : FI) (g2 : FL) (v4 : Int), Ex mt 1 2 (il σ f g) [vR 0 (some (a + 162)), vI x1] ((il σ f1 g2), [vI v4]) ∧ ((v4 = 0 → (r = ((il σ f1 g2), [vI (-1)]))) ∧ (¬ v4 = 0 → (∃ (f8 : FI) (g9 : FL) (v11 : Int), Ex mt 4 6 (il σ f1 g2) [vR 0 (some (a + 162)), vI x1] ((il σ f8 g9), [vI v11]) ∧ (r = ((il σ f8 g9), [vI v11]))))))) : Ex mt 5 180 (il σ f g) [vR 11 (some a), vI x1] r := Ex.mk mt_180 (show Gx mt 5 cd_X11_taps (il σ f g) b_X11_taps_0 [some (vR 11 (some a)), some (vI x1)] [] r from (go_loadA rfl (gi_getR (Sh11.r13 hs) (go_loadI rfl (Exists.elim h fun f1 w14 => Exists.elim w14 fun g2 w15 => Exists.elim w15 fun v4 h3 => (go_callV rfl rfl rfl h3.1 (gq_if_eq (fun e7 => have h5 := h3.2.1 e7; (go_pushI rfl (go_fall (h5 ▸ gq_retI)))) (fun e7 => have h6 := h3.2.2 e7; (go_loadA rfl (gi_getR (Sh11.r13 hs) (go_loadI rfl (Exists.elim h6 fun f8 w12 => Exists.elim w12 fun g9 w13 => Exists.elim w13 fun v11 h10 => (go_callV rfl rfl rfl h10.1 (go_goto (h10.2 ▸ gq_retI)))))))))))))))
def A_X12_taps_12 (σ : St) (f : FI) (g : FL) (a : Nat) (x1 : Int) (x2 : Int) (r : St × List Vl) : Prop := ∀ (y3 : Option Vl) (y4 : Option Vl) (y5 : Option Vl), Gx mt 2 cd_X12_taps (il σ f g) (cd_X12_taps 12) [some (vR 12 (some a)), some (vI x1), some (vI x2), y3, y4, y5] [] r
def A_X12_taps_22 (σ : St) (f : FI) (g : FL) (a : Nat) (x1 : Int) (x2 : Int) (x3 : Int) (r : St × List Vl) : Prop := ∀ (y4 : Option Vl) (y5 : Option Vl), Gx mt 2 cd_X12_taps (il σ f g) (cd_X12_taps 22) [some (vR 12 (some a)), some (vI x1), some (vI x2), some (vI x3), y4, y5] [] r
def A_X12_taps_50 (σ : St) (f : FI) (g : FL) (a : Nat) (x1 : Int) (x2 : Int) (x3 : Int) (x4 : Int) (x5 : Int) (r : St × List Vl) : Prop := Gx mt 2 cd_X12_taps (il σ f g) (cd_X12_taps 50) [some (vR 12 (some a)), some (vI x1), some (vI x2), some (vI x3), some (vI x4), some (vI x5)] [] r
theorem bk_X12_taps_0 {σ : St} {f : FI} {g : FL} {a : Nat} {x1 : Int} {r : St × List Vl} (hs : Sh12 σ a) (h : (∃ (f1 : FI) (g2 : FL) (v4 : Int), Ex mt 0 296 (il σ f g) [vR 12 (some a), vI x1] ((il σ f1 g2), [vI v4]) ∧ ((¬ v4 = 0 → (A_X12_taps_12 σ f1 g2 a x1 0 r)) ∧ (v4 = 0 → (r = ((il σ f1 g2), [vI (-1)])))))) : Ex mt 2 298 (il σ f g) [vR 12 (some a), vI x1] r := Ex.mk mt_298 (show Gx mt 2 cd_X12_taps (il σ f g) b_X12_taps_0 [some (vR 12 (some a)), some (vI x1), none, none, none, none] [] r from (go_loadA rfl (go_loadI rfl (Exists.elim h fun f1 w8 => Exists.elim w8 fun g2 w9 => Exists.elim w9 fun v4 h3 => (go_callV rfl rfl rfl h3.1 (gq_if_ne (fun e7 => have h5 := h3.2.1 e7; (go_pushI rfl (go_stoI rfl rfl (go_fall (h5 _ _ _))))) (fun e7 => have h6 := h3.2.2 e7; (go_pushI rfl (h6 ▸ gq_retI)))))))))
theorem bk_X12_taps_12 {σ : St} {f : FI} {g : FL} {a : Nat} {x1 : Int} {x2 : Int} {r : St × List Vl} (hs : Sh12 σ a) (h : (((f a 69) < x2 → (r = ((il σ f g), [vI (-1)]))) ∧ (¬ (f a 69) < x2 → (A_X12_taps_22 σ f g a x1 x2 0 r)))) : A_X12_taps_12 σ f g a x1 x2 r := fun y3 y4 y5 => (show Gx mt 2 cd_X12_taps (il σ f g) b_X12_taps_12 [some (vR 12 (some a)), some (vI x1), some (vI x2), y3, y4, y5] [] r from (go_loadI rfl (go_loadA rfl (gi_getI (gq_icmp_gt (fun e3 => have h1 := h.1 e3; (go_pushI rfl (h1 ▸ gq_retI))) (fun e3 => have h2 := h.2 e3; (go_pushI rfl (go_stoI rfl rfl (go_fall (h2 _ _))))))))))
theorem bk_X12_taps_22 {σ : St} {f : FI} {g : FL} {a : Nat} {x1 : Int} {x2 : Int} {x3 : Int} {r : St × List Vl} (hs : Sh12 σ a) (h : ((0 ≤ (f a 69) ∧ (f a 69) < 31)) ∧ (((p2 (f a 69)) ≤ x3 → ((-2147483648 ≤ (x2 + 1) ∧ (x2 + 1) ≤ 2147483647)) ∧ (A_X12_taps_12 σ f g a x1 (x2 + 1) r)) ∧ (¬ (p2 (f a 69)) ≤ x3 → (∃ (f4 : FI) (g5 : FL) (v7 : Int), Ex mt 0 265 (il σ f g) [vI x3] ((il σ f4 g5), [vI v7]) ∧ ((¬ v7 = x2 → (A_X12_taps_50 σ f4 g5 a x1 x2 x3 0 0 r)) ∧ (v7 = x2 → (A_X12_taps_50 σ f4 g5 a x1 x2 x3 1 0 r))))))) : A_X12_taps_22 σ f g a x1 x2 x3 r := fun y4 y5 => (show Gx mt 2 cd_X12_taps (il σ f g) b_X12_taps_22 [some (vR 12 (some a)), some (vI x1), some (vI x2), some (vI x3), y4, y5] [] r from (go_loadI rfl (go_pushI rfl (go_loadA rfl (gi_getI (go_ishl (iShl_1 h.1) (gq_icmp_ge (fun e3 => have h1 := h.2.1 e3; (go_iinc rfl h1.1 rfl (go_goto (h1.2 _ _ _)))) (fun e3 => have h2 := h.2.2 e3; (go_loadI rfl (Exists.elim h2 fun f4 w11 => Exists.elim w11 fun g5 w12 => Exists.elim w12 fun v7 h6 => (go_callS rfl rfl rfl h6.1 (go_loadI rfl (gq_icmp_ne (fun e10 => have h8 := h6.2.1 e10; (go_pushI rfl (go_fall (go_stoI rfl rfl (go_pushI rfl (go_stoI rfl rfl (go_fall (h8)))))))) (fun e10 => have h9 := h6.2.2 e10; (go_pushI rfl (go_goto (go_stoI rfl rfl (go_pushI rfl (go_stoI rfl rfl (go_fall (h9)))))))))))))))))))))
theorem bk_X12_taps_50 {σ : St} {f : FI} {g : FL} {a : Nat} {x1 : Int} {x2 : Int} {x3 : Int} {x4 : Int} {x5 : Int} {r : St × List Vl} (hs : Sh12 σ a) (h : (((f a 69) ≤ x5 → ((x4 = 0 → ((-2147483648 ≤ (x3 + 1) ∧ (x3 + 1) ≤ 2147483647)) ∧ (A_X12_taps_22 σ f g a x1 x2 (x3 + 1) r)) ∧ (¬ x4 = 0 → (r = ((il σ f g), [vI x3]))))) ∧ (¬ (f a 69) ≤ x5 → ((x4 = 0 → ((x4 = 0 → ((-2147483648 ≤ (x3 + 1) ∧ (x3 + 1) ≤ 2147483647)) ∧ (A_X12_taps_22 σ f g a x1 x2 (x3 + 1) r)) ∧ (¬ x4 = 0 → (r = ((il σ f g), [vI x3]))))) ∧ (¬ x4 = 0 → ((-2147483648 ≤ x1 ∧ x1 ≤ 2147483647) ∧ (0 ≤ x5 ∧ x5 < 32)) ∧ ((((x1 / p2 x5) % 2) = 0 → ((-2147483648 ≤ (x5 + 1) ∧ (x5 + 1) ≤ 2147483647)) ∧ (A_X12_taps_50 σ f g a x1 x2 x3 1 (x5 + 1) r)) ∧ (¬ ((x1 / p2 x5) % 2) = 0 → (∃ (f16 : FI) (g17 : FL) (v19 : Int), Ex mt 1 295 (il σ f g) [vR 12 (some a), vI x5, vI x3] ((il σ f16 g17), [vI v19]) ∧ ((v19 = 0 → ((-2147483648 ≤ (x5 + 1) ∧ (x5 + 1) ≤ 2147483647)) ∧ (A_X12_taps_50 σ f16 g17 a x1 x2 x3 0 (x5 + 1) r)) ∧ (¬ v19 = 0 → ((-2147483648 ≤ (x5 + 1) ∧ (x5 + 1) ≤ 2147483647)) ∧ (A_X12_taps_50 σ f16 g17 a x1 x2 x3 1 (x5 + 1) r))))))))))) : A_X12_taps_50 σ f g a x1 x2 x3 x4 x5 r := (show Gx mt 2 cd_X12_taps (il σ f g) b_X12_taps_50 [some (vR 12 (some a)), some (vI x1), some (vI x2), some (vI x3), some (vI x4), some (vI x5)] [] r from (go_loadI rfl (go_loadA rfl (gi_getI (gq_icmp_ge (fun e3 => have h1 := h.1 e3; (go_loadI rfl (gq_if_eq (fun e6 => have h4 := h1.1 e6; (go_iinc rfl h4.1 rfl (go_goto (h4.2 _ _)))) (fun e6 => have h5 := h1.2 e6; (go_loadI rfl (h5 ▸ gq_retI)))))) (fun e3 => have h2 := h.2 e3; (go_loadI rfl (gq_if_eq (fun e9 => have h7 := h2.1 e9; (go_loadI rfl (gq_if_eq (fun e12 => have h10 := h7.1 e12; (go_iinc rfl h10.1 rfl (go_goto (h10.2 _ _)))) (fun e12 => have h11 := h7.2 e12; (go_loadI rfl (h11 ▸ gq_retI)))))) (fun e9 => have h8 := h2.2 e9; (go_loadI rfl (go_loadI rfl (go_ishr (iShr_v h8.1.1 h8.1.2) (go_pushI rfl (go_iand (iAnd_m1 _) (gq_if_eq (fun e15 => have h13 := h8.2.1 e15; (go_pushI rfl (go_goto (go_stoI rfl rfl (go_iinc rfl h13.1 rfl (go_goto (h13.2))))))) (fun e15 => have h14 := h8.2.2 e15; (go_loadA rfl (go_loadI rfl (go_loadI rfl (Exists.elim h14 fun f16 w23 => Exists.elim w23 fun g17 w24 => Exists.elim w24 fun v19 h18 => (go_callV rfl rfl rfl h18.1 (gq_if_eq (fun e22 => have h20 := h18.2.1 e22; (go_pushI rfl (go_fall (go_stoI rfl rfl (go_iinc rfl h20.1 rfl (go_goto (h20.2))))))) (fun e22 => have h21 := h18.2.2 e22; (go_fall (go_pushI rfl (go_goto (go_stoI rfl rfl (go_iinc rfl h21.1 rfl (go_goto (h21.2))))))))))))))))))))))))))))))
/-- cables that lead out of a set of boxes -/
def Cut (n : Nat) (e o : Nat → Nat) (D : Nat) : VS := fun v => ∃ R, Dcl D R ∧ ∀ i, i < n → v i = (R.testBit (e i) != R.testBit (o i))
theorem Dcl.eq {D R x y : Nat} (h : Dcl D R) (hx : x < 8) (hy : y < 8) (dx : D.testBit x = true) (dy : D.testBit y = true) : R.testBit x = R.testBit y := bool_of ⟨h x y hx hy dx dy, h y x hy hx dy dx⟩
theorem Dcl.of {D R : Nat} (h : ∀ x y, x < 8 → y < 8 → D.testBit x = true → D.testBit y = true → R.testBit x = R.testBit y) : Dcl D R := fun x y hx hy dx dy hr => by rw [← h x y hx hy dx dy]; exact hr
theorem Cut.x {n : Nat} {e o : Nat → Nat} {D : Nat} : Vx (Cut n e o D) := fun v w ⟨R, r1, r2⟩ ⟨S, s1, s2⟩ => ⟨R ^^^ S, Dcl.of fun x y hx hy dx dy => by
  rw [Nat.testBit_xor, Nat.testBit_xor, r1.eq hx hy dx dy, s1.eq hx hy dx dy], fun i hi => by
  show (v i != w i) = _
  rw [r2 i hi, s2 i hi, Nat.testBit_xor, Nat.testBit_xor]
  cases R.testBit (e i) <;> cases R.testBit (o i) <;> cases S.testBit (e i) <;> cases S.testBit (o i) <;> rfl⟩
theorem Kn_KV {n : Nat} {e o : Nat → Nat} {D tp c : Nat} (hc : Cab n e o D) (hcn : c < n) : Kn n e o D tp c ↔ KV (Cut n e o D) n tp c := by
  have ec := hc.2.2 c hcn
  constructor
  · rintro (h | ⟨R, r1, r2, r3⟩)
    · exact Or.inl h
    · refine Or.inr ⟨fun i => R.testBit (e i) != R.testBit (o i), ⟨R, r1.1, fun _ _ => rfl⟩, by show (R.testBit (e c) != R.testBit (o c)) = true; rw [r2, r3]; rfl, fun i hi hic hv => ?_⟩
      cases z : tp.testBit i
      · have := r1.2 i hi ⟨hic, z⟩
        have hv : (R.testBit (e i) != R.testBit (o i)) = true := hv
        rw [bool_of this] at hv
        simp at hv
      · rfl
  · rintro (h | ⟨v, ⟨R, r1, r2⟩, v2, v3⟩)
    · exact Or.inl h
    · right
      have cl : ∀ S, Dcl D S → (∀ i, i < n → (S.testBit (e i) = S.testBit (o i) ↔ R.testBit (e i) = R.testBit (o i))) → Clo n e o D (fun i => ¬ i = c ∧ tp.testBit i = false) S := fun S hS hE => ⟨hS, fun i hi hon => by
        have : R.testBit (e i) = R.testBit (o i) := by
          apply Classical.byContradiction
          intro z
          have := v3 i hi hon.1 (by
            rw [r2 i hi]
            cases a : R.testBit (e i) <;> cases b : R.testBit (o i)
            · rw [a, b] at z; exact absurd rfl z
            · rfl
            · rfl
            · rw [a, b] at z; exact absurd rfl z)
          rw [hon.2] at this
          exact absurd this (by decide)
        rw [(hE i hi).mpr this]⟩
      rw [r2 c hcn] at v2
      cases a : R.testBit (e c)
      · have b : R.testBit (o c) = true := by
          rw [a] at v2
          simpa using v2
        -- the other side of the cut
        have fb : ∀ x, x < 8 → (R ^^^ 255).testBit x = !R.testBit x := fun x hx => by
          rw [Nat.testBit_xor]
          have : ∀ x, x < 8 → Nat.testBit 255 x = true := by decide
          rw [this x hx]
          cases R.testBit x <;> rfl
        refine ⟨R ^^^ 255, cl _ (Dcl.of fun x y hx hy dx dy => by rw [fb x hx, fb y hy, r1.eq hx hy dx dy]) (fun i hi => ?_), by rw [fb _ ec.1, a]; rfl, by rw [fb _ ec.2, b]; rfl⟩
        have ei := hc.2.2 i hi
        rw [fb _ ei.1, fb _ ei.2]
        cases R.testBit (e i) <;> cases R.testBit (o i) <;> simp
      · have b : R.testBit (o c) = false := by
          rw [a] at v2
          simpa using v2
        exact ⟨R, cl R r1 (fun _ _ => Iff.rfl), a, b⟩
theorem x_bits16 {σ : St} {f : FI} {g : FL} {x : Nat} (h : x < 65536) : Ex mt 0 265 (il σ f g) [vI (x : Int)] (il σ f g, [vI (cb 16 x : Int)]) := by
  have loop : ∀ (c a n : Nat), sdg 2 16 a = c → a < 65536 → n + c ≤ 100 → A_X12_bits_4 σ f g (n : Int) (a : Int) (il σ f g, [vI ((n + c : Nat) : Int)]) := by
    intro c
    induction c with
    | zero =>
      intro a n h0 ha hn
      by_cases z : a = 0
      · subst z
        exact bk_X12_bits_4 ⟨fun _ => rfl, fun z => absurd rfl z⟩
      · have := sdg_clr 16 a (by omega) ha
        omega
    | succ c ih =>
      intro a n h0 ha hn
      have z : ¬ a = 0 := fun z => by
        subst z
        rw [sdg_0] at h0
        omega
      have e := sdg_clr 16 a (by omega) ha
      have A := ih (a &&& (a - 1)) (n + 1) (by omega) (Nat.lt_of_le_of_lt Nat.and_le_left ha) (by omega)
      refine bk_X12_bits_4 ⟨fun y => absurd y (by omega), fun _ => ⟨⟨by omega, by omega⟩, ?_⟩⟩
      rw [show (a : Int) - 1 = ((a - 1 : Nat) : Int) by omega, iAnd_nat (by omega) (by omega)]
      rw [show ((n + (c + 1) : Nat) : Int) = ((n + 1 + c : Nat) : Int) by omega]
      exact A
  have e : cb 16 x = sdg 2 16 x := (sdg2_ct 16 x).symm
  have := loop (sdg 2 16 x) x 0 rfl h (by rw [← e]; have := cb_le 16 x; omega)
  rw [Nat.zero_add, ← e] at this
  exact bk_X12_bits_0 this
theorem cb_n16 {n x : Nat} (hn : n ≤ 16) (hx : x < 2 ^ n) : cb 16 x = cb n x := by
  obtain ⟨d, hd⟩ : ∃ d, 16 = n + d := ⟨16 - n, by omega⟩
  unfold cb
  rw [hd, fb_ct_split]
  have : fb_ct (fun k => x.testBit (n + k)) d = 0 := fb_ct_zero.mpr fun k _ => big_bit hx (by omega)
  omega
theorem x_fewestTaps {σ : St} {f : FI} {g : FL} {a n D oF : Nat} {e o : Nat → Nat} (hs : Sh0 σ a) (hc : Cab n e o D) (h : CC f a n e o D) (ho : oF < 2 ^ n) : ∃ T F : Nat, T < 2 ^ n ∧ (∀ c, c < n → (F.testBit c = true ↔ KV (Cut n e o D) n oF c)) ∧ Ind (Cut n e o D) n T ∧ (∀ c, c < n → T.testBit c = true → F.testBit c = true) ∧ (∀ m, m ≤ n → ∀ c, c < m → F.testBit c = true → KV (Cut n e o D) n (T % 2 ^ m) c) ∧ Ex mt 4 6 (il σ f g) [vR 0 (some a), vI (oF : Int)] (il σ f g, [vI (T : Int)]) := by
  have n16 := hc.1
  have p31 : ∀ {x k : Nat}, x < 2 ^ k → k ≤ 16 → x < 2147483648 := fun {x k} hx hk => Nat.lt_of_lt_of_le hx (Nat.le_trans (Nat.pow_le_pow_right (by decide) hk) (by decide))
  obtain ⟨F, F1, F2, E1⟩ := x_knownWith (σ := σ) (f := f) (g := g) hs hc h ho
  have F2' : ∀ c, c < n → (F.testBit c = true ↔ KV (Cut n e o D) n oF c) := fun c hcn => (F2 c hcn).trans (Kn_KV hc hcn)
  have loop : ∀ k i : Nat, i + k = n → ∀ T : Nat, T < 2 ^ i → Ind (Cut n e o D) n T → (∀ c, c < n → T.testBit c = true → F.testBit c = true) → (∀ m, m ≤ i → ∀ c, c < m → F.testBit c = true → KV (Cut n e o D) n (T % 2 ^ m) c) → ∃ T' : Nat, T' < 2 ^ n ∧ Ind (Cut n e o D) n T' ∧ (∀ c, c < n → T'.testBit c = true → F.testBit c = true) ∧ (∀ m, m ≤ n → ∀ c, c < m → F.testBit c = true → KV (Cut n e o D) n (T' % 2 ^ m) c) ∧ A_X0_fewestTaps_11 σ f g a (F : Int) (T : Int) (i : Int) (il σ f g, [vI (T' : Int)]) := by
    intro k
    induction k with
    | zero =>
      intro i hi T hT t1 t2 t3
      obtain rfl : i = n := by omega
      exact ⟨T, hT, t1, t2, t3, bk_X0_fewestTaps_11 hs ⟨fun _ => rfl, fun z => absurd (by rw [h.1]; omega) z⟩⟩
    | succ k ih =>
      intro i hi T hT t1 t2 t3
      have hin : i < n := by omega
      have F31 := p31 F1 n16
      have T31 := p31 hT (by omega)
      have nge : ¬ f a 2 ≤ (i : Int) := by rw [h.1]; omega
      have Tlt : T < 2 ^ (i + 1) := by rw [Nat.pow_succ]; omega
      have Tm : T % 2 ^ (i + 1) = T := Nat.mod_eq_of_lt Tlt
      have Tm0 : T % 2 ^ i = T := Nat.mod_eq_of_lt hT
      -- the set stays
      have stay : (F.testBit i = true → KV (Cut n e o D) n T i) → ∃ T' : Nat, T' < 2 ^ n ∧ Ind (Cut n e o D) n T' ∧ (∀ c, c < n → T'.testBit c = true → F.testBit c = true) ∧ (∀ m, m ≤ n → ∀ c, c < m → F.testBit c = true → KV (Cut n e o D) n (T' % 2 ^ m) c) ∧ A_X0_fewestTaps_11 σ f g a (F : Int) (T : Int) ((i : Int) + 1) (il σ f g, [vI (T' : Int)]) := fun hk => ih (i + 1) (by omega) T Tlt t1 t2 (fun m hm c hcm hf => by
        by_cases z : m = i + 1
        · subst z
          rw [Tm]
          by_cases y : c = i
          · subst y; exact hk hf
          · have := t3 i (Nat.le_refl _) c (by omega) hf
            rw [Tm0] at this
            exact this
        · exact t3 m (by omega) c hcm hf)
      by_cases hf : F.testBit i = true
      · obtain ⟨K, K1, K2, E2⟩ := x_knownWith (σ := σ) (f := f) (g := g) hs hc h (show T < 2 ^ n from Nat.lt_of_lt_of_le hT (Nat.pow_le_pow_right (by decide) (by omega)))
        have K31 := p31 K1 n16
        by_cases hk : K.testBit i = true
        · obtain ⟨T', r1, r2, r3, r4, A⟩ := stay (fun _ => (Kn_KV hc hin).mp ((K2 i hin).mp hk))
          exact ⟨T', r1, r2, r3, r4, bk_X0_fewestTaps_11 hs ⟨fun z => absurd z nge, fun _ => ⟨⟨by omega, by omega⟩, fun z => absurd (hB_nat.mpr hf) z, fun _ => ⟨f, g, _, E2, ⟨by omega, by omega⟩, fun _ => ⟨by omega, A⟩, fun z => absurd (hB_nat.mpr hk) z⟩⟩⟩⟩
        · have nk : ¬ KV (Cut n e o D) n T i := fun z => hk ((K2 i hin).mpr ((Kn_KV hc hin).mpr z))
          have hTi : T.testBit i = false := big_bit hT (Nat.le_refl _)
          have om : ∀ m, m ≤ i → (T ||| 2 ^ i) % 2 ^ m = T % 2 ^ m := fun m hm => Nat.eq_of_testBit_eq fun j => by
            rw [Nat.testBit_mod_two_pow, Nat.testBit_mod_two_pow, or_bit]
            by_cases z : j < m
            · rw [decide_eq_false (show ¬ i = j by omega), Bool.or_false]
            · rw [decide_eq_false z, Bool.false_and, Bool.false_and]
          obtain ⟨T', r1, r2, r3, r4, A⟩ := ih (i + 1) (by omega) (T ||| 2 ^ i) (or_lt Tlt (by omega)) (fun v v1 v2 => by
            have vi : v i = false := by
              cases z : v i
              · rfl
              · refine absurd (Or.inr ⟨v, v1, z, fun j hj hji hv => ?_⟩) nk
                have := v2 j hj hv
                rw [or_bit, decide_eq_false (fun y : i = j => hji y.symm), Bool.or_false] at this
                exact this
            refine t1 v v1 fun j hj hv => ?_
            have := v2 j hj hv
            by_cases z : i = j
            · subst z
              rw [vi] at hv
              exact absurd hv (by decide)
            · rw [or_bit, decide_eq_false z, Bool.or_false] at this
              exact this) (fun c hcn h2 => by
            rw [or_bit, Bool.or_eq_true, decide_eq_true_iff] at h2
            rcases h2 with h2 | rfl
            · exact t2 c hcn h2
            · exact hf) (fun m hm c hcm h2 => by
            by_cases z : m = i + 1
            · subst z
              rw [Nat.mod_eq_of_lt (or_lt Tlt (by omega))]
              by_cases y : c = i
              · subst y
                left
                rw [or_bit, decide_eq_true rfl, Bool.or_true]
              · have := t3 i (Nat.le_refl _) c (by omega) h2
                rw [Tm0] at this
                exact this.mono (fun j _ hj => by rw [or_bit, hj, Bool.true_or]) (by omega)
            · rw [om m (by omega)]
              exact t3 m (by omega) c hcm h2)
          refine ⟨T', r1, r2, r3, r4, bk_X0_fewestTaps_11 hs ⟨fun z => absurd z nge, fun _ => ⟨⟨by omega, by omega⟩, fun z => absurd (hB_nat.mpr hf) z, fun _ => ⟨f, g, _, E2, ⟨by omega, by omega⟩, fun z => absurd (hB_nat.mp z) hk, fun _ => ⟨by omega, by omega, ?_⟩⟩⟩⟩⟩
          rw [iOr_p2 T31 (by omega)]
          exact A
      · obtain ⟨T', r1, r2, r3, r4, A⟩ := stay (fun z => absurd z hf)
        exact ⟨T', r1, r2, r3, r4, bk_X0_fewestTaps_11 hs ⟨fun z => absurd z nge, fun _ => ⟨⟨by omega, by omega⟩, fun _ => ⟨by omega, A⟩, fun z => absurd (hB_nat.mp z) hf⟩⟩⟩
  obtain ⟨T, r1, r2, r3, r4, A⟩ := loop n 0 (by omega) 0 (by decide) (fun v v1 v2 i hi => by
    cases z : v i
    · rfl
    · have := v2 i hi z
      rw [Nat.zero_testBit] at this
      exact absurd this (by decide)) (fun c _ h2 => by rw [Nat.zero_testBit] at h2; exact absurd h2 (by decide)) (fun m hm c hcm => absurd hcm (by omega))
  exact ⟨T, F, r1, F2', r2, r3, r4, bk_X0_fewestTaps_0 hs ⟨f, g, _, E1, A⟩⟩
theorem c_taps {σ : St} {f : FI} {g : FL} {B : Nat} (hs : Sh11 σ B) (hm : Sh12 σ (B + 165)) (h : IC f B) {x : Int} (rx : -2147483648 ≤ x ∧ x ≤ 2147483647) : ∃ v : Int, Ex mt 5 180 (il σ f g) [vR 11 (some B), vI x] (il σ f g, [vI v]) ∧ Ex mt 2 298 (il σ f g) [vR 12 (some (B + 165)), vI x] (il σ f g, [vI v]) := by
  obtain ⟨n, e, o, D, hc, h1, h2⟩ := h.cab
  have n16 := hc.1
  have pn : 2 ^ n ≤ 2 ^ 16 := Nat.pow_le_pow_right (by decide) n16
  have p16 : 2 ^ 16 = 65536 := rfl
  obtain ⟨v, v1, v2, E1⟩ := x_areThere (σ := σ) (g := g) hs.o13 hc h1 x
  obtain ⟨w, w1, w2, E2⟩ := x_isCables (σ := σ) (g := g) hm hc h2 rx
  by_cases hx : 0 ≤ x ∧ x < ((2 ^ n : Nat) : Int)
  · obtain ⟨oF, rfl⟩ := Int.eq_ofNat_of_zero_le hx.1
    have hof : oF < 2 ^ n := by omega
    obtain ⟨T, F, T1, F2, t1, t2, t3, E3⟩ := x_fewestTaps (σ := σ) (g := g) hs.o13 hc h1 hof
    obtain ⟨b1, b2⟩ := taps_best Cut.x F2 T1 t1 t2 t3
    have vv := v2.mpr hx
    have ww := w2.mpr hx
    subst vv ww
    refine ⟨(T : Int), bk_X11_taps_0 hs ⟨f, g, 1, E1, fun z => absurd z (by decide), fun _ => ⟨f, g, _, E3, rfl⟩⟩, bk_X12_taps_0 hm ⟨f, g, 1, E2, fun _ => ?_, fun z => absurd z (by decide)⟩⟩
    have e69 : f (B + 165) 69 = (n : Int) := h2.1
    have ep := p2_Nat n
    -- all of these are known
    have all : ∀ S : Nat, S < 2 ^ n → ∀ p : Int, ∀ k i : Nat, i + k = n → (∀ c, c < i → oF.testBit c = true → KV (Cut n e o D) n S c) → ((∀ c, c < n → oF.testBit c = true → KV (Cut n e o D) n S c) ∧ A_X12_taps_50 σ f g (B + 165) (oF : Int) p (S : Int) 1 (i : Int) (il σ f g, [vI (S : Int)])) ∨ ((¬ ∀ c, c < n → oF.testBit c = true → KV (Cut n e o D) n S c) ∧ ∀ r, A_X12_taps_22 σ f g (B + 165) (oF : Int) p ((S : Int) + 1) r → A_X12_taps_50 σ f g (B + 165) (oF : Int) p (S : Int) 1 (i : Int) r) := by
      intro S hS p k
      induction k with
      | zero =>
        intro i hi hj
        obtain rfl : i = n := by omega
        exact Or.inl ⟨hj, bk_X12_taps_50 hm ⟨fun _ => ⟨fun z => absurd z (by decide), fun _ => rfl⟩, fun z => absurd (by rw [e69]; omega) z⟩⟩
      | succ k ih =>
        intro i hi hj
        have hin : i < n := by omega
        have nge : ¬ f (B + 165) 69 ≤ (i : Int) := by rw [e69]; omega
        by_cases hb : oF.testBit i = true
        · obtain ⟨u, u1, u2, E⟩ := x_isKnown (σ := σ) (g := g) (tp := S) hm hc h2 (by omega) hin
          have nb : ¬ (oF : Int) / p2 (i : Int) % 2 = 0 := fun z => by
            have := hB_nat.mpr hb
            unfold hB at this
            omega
          rcases u1 with rfl | rfl
          · refine Or.inr ⟨fun z => absurd (u2.mpr ((Kn_KV hc hin).mpr (z i hin hb))) (by decide), fun r A => bk_X12_taps_50 hm ⟨fun z => absurd z nge, fun _ => ⟨fun z => absurd z (by decide), fun _ => ⟨⟨by omega, by omega⟩, fun z => absurd z nb, fun _ => ⟨f, g, 0, E, fun _ => ⟨by omega, ?_⟩, fun z => absurd rfl z⟩⟩⟩⟩⟩
            by_cases y : f (B + 165) 69 ≤ (i : Int) + 1
            · exact bk_X12_taps_50 hm ⟨fun _ => ⟨fun _ => ⟨by omega, A⟩, fun z => absurd rfl z⟩, fun z => absurd y z⟩
            · exact bk_X12_taps_50 hm ⟨fun z => absurd z y, fun _ => ⟨fun _ => ⟨fun _ => ⟨by omega, A⟩, fun z => absurd rfl z⟩, fun z => absurd rfl z⟩⟩
          · have hki := (Kn_KV hc hin).mp (u2.mp rfl)
            rcases ih (i + 1) (by omega) (fun c hcm hcb => by
              by_cases z : c = i
              · subst z; exact hki
              · exact hj c (by omega) hcb) with ⟨q1, A⟩ | ⟨q1, K⟩
            · exact Or.inl ⟨q1, bk_X12_taps_50 hm ⟨fun z => absurd z nge, fun _ => ⟨fun z => absurd z (by decide), fun _ => ⟨⟨by omega, by omega⟩, fun z => absurd z nb, fun _ => ⟨f, g, 1, E, fun z => absurd z (by decide), fun _ => ⟨by omega, A⟩⟩⟩⟩⟩⟩
            · exact Or.inr ⟨q1, fun r A => bk_X12_taps_50 hm ⟨fun z => absurd z nge, fun _ => ⟨fun z => absurd z (by decide), fun _ => ⟨⟨by omega, by omega⟩, fun z => absurd z nb, fun _ => ⟨f, g, 1, E, fun z => absurd z (by decide), fun _ => ⟨by omega, K r A⟩⟩⟩⟩⟩⟩
        · have yb : (oF : Int) / p2 (i : Int) % 2 = 0 := (Int.emod_two_eq _).resolve_right fun z => hb (hB_nat.mp z)
          rcases ih (i + 1) (by omega) (fun c hcm hcb => by
            by_cases z : c = i
            · subst z; exact absurd hcb hb
            · exact hj c (by omega) hcb) with ⟨q1, A⟩ | ⟨q1, K⟩
          · exact Or.inl ⟨q1, bk_X12_taps_50 hm ⟨fun z => absurd z nge, fun _ => ⟨fun z => absurd z (by decide), fun _ => ⟨⟨by omega, by omega⟩, fun _ => ⟨by omega, A⟩, fun z => absurd yb z⟩⟩⟩⟩
          · exact Or.inr ⟨q1, fun r A => bk_X12_taps_50 hm ⟨fun z => absurd z nge, fun _ => ⟨fun z => absurd z (by decide), fun _ => ⟨⟨by omega, by omega⟩, fun _ => ⟨by omega, K r A⟩, fun z => absurd yb z⟩⟩⟩⟩
    have cT := cb_le n T
    have nlt : ¬ f (B + 165) 69 < (cb n T : Int) := by rw [e69]; omega
    generalize hN : 2 ^ n = N at pn T1 hof ep all b2
    -- sets of one size
    have sets : ∀ p : Nat, p ≤ cb n T → ∀ k S : Nat, S + k = N → (p = cb n T → S ≤ T) → (p < cb n T → A_X12_taps_12 σ f g (B + 165) (oF : Int) ((p : Int) + 1) (il σ f g, [vI (T : Int)])) → A_X12_taps_22 σ f g (B + 165) (oF : Int) (p : Int) (S : Int) (il σ f g, [vI (T : Int)]) := by
      intro p hp k
      induction k with
      | zero =>
        intro S hS hST hnext
        refine bk_X12_taps_22 hm ?_
        rw [e69, ep]
        refine ⟨by omega, fun _ => ⟨by omega, hnext (by omega)⟩, fun z => absurd (by omega) z⟩
      | succ k ih =>
        intro S hS hST hnext
        have SN : S < N := by omega
        have Eb := x_bits16 (σ := σ) (f := f) (g := g) (x := S) (by omega)
        rw [cb_n16 n16 (by rw [hN]; exact SN)] at Eb
        refine bk_X12_taps_22 hm ?_
        rw [e69, ep]
        refine ⟨by omega, fun z => absurd z (by omega), fun _ => ⟨f, g, _, Eb, fun z => ?_, fun z => ?_⟩⟩
        · -- of another size
          have A := ih (S + 1) (by omega) (fun q => by
            have := hST q
            by_cases y : S = T
            · subst y; exact absurd (by omega) z
            · omega) hnext
          by_cases y : f (B + 165) 69 ≤ 0
          · exact bk_X12_taps_50 hm ⟨fun _ => ⟨fun _ => ⟨by omega, A⟩, fun q => absurd rfl q⟩, fun q => absurd y q⟩
          · exact bk_X12_taps_50 hm ⟨fun q => absurd q y, fun _ => ⟨fun _ => ⟨fun _ => ⟨by omega, A⟩, fun q => absurd rfl q⟩, fun q => absurd rfl q⟩⟩
        · rcases all S SN (p : Int) n 0 (by omega) (fun c hcm => absurd hcm (Nat.not_lt_zero c)) with ⟨q1, A⟩ | ⟨q1, K⟩
          · obtain ⟨c1, c2⟩ := b2 S SN q1
            have hpe : p = cb n T := by omega
            have : S = T := by
              have := hST hpe
              have := c2 (by omega)
              omega
            rw [this] at A ⊢
            exact A
          · refine K _ (ih (S + 1) (by omega) (fun q => ?_) hnext)
            have := hST q
            by_cases y : S = T
            · subst y; exact absurd b1 q1
            · omega
    have sizes : ∀ k p : Nat, p + k = cb n T → A_X12_taps_12 σ f g (B + 165) (oF : Int) (p : Int) (il σ f g, [vI (T : Int)]) := by
      intro k
      induction k with
      | zero =>
        intro p hp
        exact bk_X12_taps_12 hm ⟨fun z => absurd z (by rw [e69]; omega), fun _ => sets p (by omega) N 0 (by omega) (fun _ => Nat.zero_le _) (fun z => absurd z (by omega))⟩
      | succ k ih =>
        intro p hp
        exact bk_X12_taps_12 hm ⟨fun z => absurd z (by rw [e69]; omega), fun _ => sets p (by omega) N 0 (by omega) (fun _ => Nat.zero_le _) (fun _ => ih (p + 1) (by omega))⟩
    exact sizes (cb n T) 0 (by omega)
  · have vv : v = 0 := v1.resolve_right fun z => hx (v2.mp z)
    have ww : w = 0 := w1.resolve_right fun z => hx (w2.mp z)
    subst vv ww
    exact ⟨-1, bk_X11_taps_0 hs ⟨f, g, 0, E1, fun _ => rfl, fun z => absurd rfl z⟩, bk_X12_taps_0 hm ⟨f, g, 0, E2, fun z => absurd rfl z, fun _ => rfl⟩⟩
