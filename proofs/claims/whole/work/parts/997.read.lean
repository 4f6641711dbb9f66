/-! the text is read on both sides -/
def A_X4_read_63 (σ : St) (f : FI) (g : FL) (b : Nat) (x3 : Int) (x4 : Int) (r : St × List Vl) : Prop := ∀ (y1 : Option Nat) (y2 : Int), Gx mt 5 cd_X4_read (il σ f g) (cd_X4_read 63) [some (vR 4 (some (b + 5))), some (vR 14 y1), some (vI y2), some (vI x3), some (vI x4)] [] r
theorem bk_X4_read_0 {σ : St} {f : FI} {g : FL} {b : Nat} {x1 : Nat} {x2 : Int} {r : St × List Vl} (hs : Sh4 σ b) (h : ((ln (wR σ (b + 5) 3 (some x1)) x1 : Int) < 2147483648 ∧ Sh4 (wR σ (b + 5) 3 (some x1)) b) ∧ (A_X4_read_63 (wR σ (b + 5) 3 (some x1)) (up2 (up2 (up2 (up2 (up2 (up2 (up2 (up2 (up2 f (b + 5) 4 (iMin x2 (ln (wR σ (b + 5) 3 (some x1)) x1 : Int))) (b + 5) 5 0) (b + 6) 3 0) (b + 5) 6 0) (b + 5) 7 0) (b + 5) 8 0) (b + 5) 9 0) (b + 5) 10 0) (b + 5) 11 0) g b 1 0 r)) : Ex mt 5 50 (il σ f g) [vR 4 (some (b + 5)), vR 14 (some x1), vI x2] r := Ex.mk mt_50 (show Gx mt 5 cd_X4_read (il σ f g) b_X4_read_0 [some (vR 4 (some (b + 5))), some (vR 14 (some x1)), some (vI x2), none, none] [] r from (go_loadA rfl (go_loadA rfl (gi_putR (go_loadA rfl (go_loadI rfl (go_loadA rfl (gi_alen h.1.1 rfl (go_min rfl (gi_putI (go_loadA rfl (go_pushI rfl (gi_putI (go_loadA rfl (gi_getR (Sh4.r0 h.1.2) (go_pushI rfl (gi_putI (go_loadA rfl (go_pushI rfl (gi_putI (go_loadA rfl (go_pushI rfl (gi_putI (go_loadA rfl (go_pushI rfl (gi_putI (go_loadA rfl (go_pushI rfl (gi_putI (go_loadA rfl (go_pushI rfl (gi_putI (go_loadA rfl (go_pushI rfl (gi_putZ ⟨by decide, by decide⟩ (go_pushI rfl (go_stoI rfl rfl (go_pushI rfl (go_stoI rfl rfl (go_fall (h.2 _ _)))))))))))))))))))))))))))))))))))))))))
theorem bk_X4_read_63 {σ : St} {f : FI} {g : FL} {b : Nat} {x3 : Int} {x4 : Int} {r : St × List Vl} (hs : Sh4 σ b) (h : (((f (b + 5) 4) < x4 → (r = ((il σ f g), [vI (f (b + 5) 10)]))) ∧ (¬ (f (b + 5) 4) < x4 → ((¬ (f (b + 5) 10) = 0 → (r = ((il σ f g), [vI (f (b + 5) 10)]))) ∧ ((f (b + 5) 10) = 0 → ((¬ (f (b + 5) 11) = 0 → (r = ((il σ f g), [vI (f (b + 5) 10)]))) ∧ ((f (b + 5) 11) = 0 → (∃ (f10 : FI) (g11 : FL), Ex mt 0 65 (il σ f g) [vR 4 (some (b + 5))] ((il σ f10 g11), []) ∧ ((x3 = 0 → (∃ (f16 : FI) (g17 : FL) (v19 : Int), Ex mt 3 57 (il σ f10 g11) [vR 4 (some (b + 5))] ((il σ f16 g17), [vI v19]) ∧ ((-2147483648 ≤ (x4 + 1) ∧ (x4 + 1) ≤ 2147483647)) ∧ (A_X4_read_63 σ f16 g17 b v19 (x4 + 1) r))) ∧ (¬ x3 = 0 → (∃ (f22 : FI) (g23 : FL) (v25 : Int), Ex mt 4 51 (il σ f10 g11) [vR 4 (some (b + 5))] ((il σ f22 g23), [vI v25]) ∧ ((-2147483648 ≤ (x4 + 1) ∧ (x4 + 1) ≤ 2147483647)) ∧ (A_X4_read_63 σ f22 g23 b v25 (x4 + 1) r)))))))))))) : A_X4_read_63 σ f g b x3 x4 r := fun y1 y2 => (show Gx mt 5 cd_X4_read (il σ f g) b_X4_read_63 [some (vR 4 (some (b + 5))), some (vR 14 y1), some (vI y2), some (vI x3), some (vI x4)] [] r from (go_loadI rfl (go_loadA rfl (gi_getI (gq_icmp_gt (fun e3 => have h1 := h.1 e3; (go_loadA rfl (gi_getI (h1 ▸ gq_retI)))) (fun e3 => have h2 := h.2 e3; (go_loadA rfl (gi_getI (gq_if_ne (fun e6 => have h4 := h2.1 e6; (go_loadA rfl (gi_getI (h4 ▸ gq_retI)))) (fun e6 => have h5 := h2.2 e6; (go_loadA rfl (gi_getI (gq_if_ne (fun e9 => have h7 := h5.1 e9; (go_loadA rfl (gi_getI (h7 ▸ gq_retI)))) (fun e9 => have h8 := h5.2 e9; (go_loadA rfl (Exists.elim h8 fun f10 w28 => Exists.elim w28 fun g11 h12 => (go_callV rfl rfl rfl h12.1 (go_loadI rfl (gq_if_eq (fun e15 => have h13 := h12.2.1 e15; (go_loadA rfl (Exists.elim h13 fun f16 w20 => Exists.elim w20 fun g17 w21 => Exists.elim w21 fun v19 h18 => (go_callV rfl rfl rfl h18.1 (go_fall (go_stoI rfl rfl (go_iinc rfl h18.2.1 rfl (go_goto (h18.2.2 _ _))))))))) (fun e15 => have h14 := h12.2.2 e15; (go_loadA rfl (Exists.elim h14 fun f22 w26 => Exists.elim w26 fun g23 w27 => Exists.elim w27 fun v25 h24 => (go_callV rfl rfl rfl h24.1 (go_goto (go_stoI rfl rfl (go_iinc rfl h24.2.1 rfl (go_goto (h24.2.2 _ _))))))))))))))))))))))))))))
def A_X12_wish_65 (σ : St) (f : FI) (g : FL) (a : Nat) (x1 : Int) (x2 : Int) (r : St × List Vl) : Prop := Gx mt 5 cd_X12_wish (il σ f g) (cd_X12_wish 65) [some (vR 12 (some a)), some (vI x1), some (vI x2)] [] r
theorem bk_X12_wish_0 {σ : St} {f : FI} {g : FL} {a : Nat} {x1 : Int} {r : St × List Vl} (hs : Sh12 σ a) (h : (((f a 4) = 12 → (r = ((il σ f g), [vI (-1)]))) ∧ (¬ (f a 4) = 12 → ((-2147483648 ≤ x1 ∧ x1 ≤ 2147483647)) ∧ ((((0 ≤ x1 ∧ x1 ≤ 3)) → (A_X12_wish_65 σ (up2 (up2 (up2 (up2 (up2 (up2 (up2 (up2 f a 2 0) a 3 0) a 5 0) a 6 0) a 7 0) a 8 0) a 17 0) a 18 0) g a x1 1 r)) ∧ (¬ ((0 ≤ x1 ∧ x1 ≤ 3)) → (r = ((il σ f g), [vI (-1)]))))))) : Ex mt 5 222 (il σ f g) [vR 12 (some a), vI x1] r := Ex.mk mt_222 (show Gx mt 5 cd_X12_wish (il σ f g) b_X12_wish_0 [some (vR 12 (some a)), some (vI x1), none] [] r from (go_loadA rfl (gi_getI (go_pushI rfl (gq_icmp_eq (fun e3 => have h1 := h.1 e3; (go_pushI rfl (h1 ▸ gq_retI))) (fun e3 => have h2 := h.2 e3; (go_loadI rfl (go_i2l (go_pushL rfl (go_pushL rfl (go_callS rfl rfl rfl (pu_in h2.1 ⟨by decide, by decide⟩ ⟨by decide, by decide⟩ (v := x1) (lo := 0) (hi := 3)) (go_ifb_ne (fun e6 => have h4 := h2.2.1 e6; (go_loadA rfl (go_pushI rfl (gi_putI (go_loadA rfl (go_pushI rfl (gi_putI (go_loadA rfl (go_pushI rfl (gi_putI (go_loadA rfl (go_pushI rfl (gi_putI (go_loadA rfl (go_pushI rfl (gi_putI (go_loadA rfl (go_pushI rfl (gi_putI (go_loadA rfl (go_pushI rfl (gi_putI (go_loadA rfl (go_pushI rfl (gi_putZ ⟨by decide, by decide⟩ (go_pushI rfl (go_stoI rfl rfl (go_fall (h4))))))))))))))))))))))))))))) (fun e6 => have h5 := h2.2.2 e6; (go_fall (go_pushI rfl (h5 ▸ gq_retI))))))))))))))))
theorem bk_X12_wish_65 {σ : St} {f : FI} {g : FL} {a : Nat} {x1 : Int} {x2 : Int} {r : St × List Vl} (hs : Sh12 σ a) (h : ((¬ (f a 18) = 0 → (((f a 3) ≤ 0 → ((0 ≤ (f a 4) ∧ (f a 4) < 12)) ∧ (∃ (f7 : FI) (g8 : FL), Ex mt 2 223 (il σ (up2 (up2 (up2 f a 1 0) (a + 5) (((f a 4)).toNat) (f a 5)) (a + 6) (((f a 4)).toNat) x1) g) [vR 12 (some a), vI (f a 4)] ((il σ f7 g8), []) ∧ ((-2147483648 ≤ ((f7 a 4) + 1) ∧ ((f7 a 4) + 1) ≤ 2147483647) ∧ (-2147483648 ≤ (((f7 a 4) + 1) - 1) ∧ (((f7 a 4) + 1) - 1) ≤ 2147483647)) ∧ (r = ((il σ (up2 f7 a 4 ((f7 a 4) + 1)) g8), [vI (((f7 a 4) + 1) - 1)])))) ∧ (¬ (f a 3) ≤ 0 → ((-2147483648 ≤ ((-2) - (f a 3)) ∧ ((-2) - (f a 3)) ≤ 2147483647)) ∧ (r = ((il σ (up2 f a 1 0) g), [vI ((-2) - (f a 3))]))))) ∧ ((f a 18) = 0 → ((¬ (f a 3) = 0 → (((f a 3) ≤ 0 → ((0 ≤ (f a 4) ∧ (f a 4) < 12)) ∧ (∃ (f17 : FI) (g18 : FL), Ex mt 2 223 (il σ (up2 (up2 (up2 f a 1 0) (a + 5) (((f a 4)).toNat) (f a 5)) (a + 6) (((f a 4)).toNat) x1) g) [vR 12 (some a), vI (f a 4)] ((il σ f17 g18), []) ∧ ((-2147483648 ≤ ((f17 a 4) + 1) ∧ ((f17 a 4) + 1) ≤ 2147483647) ∧ (-2147483648 ≤ (((f17 a 4) + 1) - 1) ∧ (((f17 a 4) + 1) - 1) ≤ 2147483647)) ∧ (r = ((il σ (up2 f17 a 4 ((f17 a 4) + 1)) g18), [vI (((f17 a 4) + 1) - 1)])))) ∧ (¬ (f a 3) ≤ 0 → ((-2147483648 ≤ ((-2) - (f a 3)) ∧ ((-2) - (f a 3)) ≤ 2147483647)) ∧ (r = ((il σ (up2 f a 1 0) g), [vI ((-2) - (f a 3))]))))) ∧ ((f a 3) = 0 → ((x2 = 0 → (∃ (f24 : FI) (g25 : FL) (v27 : Int), Ex mt 3 221 (il σ f g) [vR 12 (some a)] ((il σ f24 g25), [vI v27]) ∧ (A_X12_wish_65 σ f24 g25 a x1 v27 r))) ∧ (¬ x2 = 0 → (∃ (f30 : FI) (g31 : FL) (v33 : Int), Ex mt 4 219 (il σ f g) [vR 12 (some a)] ((il σ f30 g31), [vI v33]) ∧ ((¬ v33 = 0 → (A_X12_wish_65 σ f30 g31 a x1 0 r)) ∧ (v33 = 0 → (A_X12_wish_65 σ f30 g31 a x1 1 r))))))))))) : A_X12_wish_65 σ f g a x1 x2 r := (show Gx mt 5 cd_X12_wish (il σ f g) b_X12_wish_65 [some (vR 12 (some a)), some (vI x1), some (vI x2)] [] r from (go_loadA rfl (gi_getI (gq_if_ne (fun e3 => have h1 := h.1 e3; (go_loadA rfl (go_pushI rfl (gi_putI (go_loadA rfl (gi_getIe (u2_i (by decide)) (gq_if_le (fun e6 => have h4 := h1.1 e6; (go_loadA rfl (gi_getR (Sh12.r13 hs) (go_loadA rfl (gi_getIe (u2_i (by decide)) (go_loadA rfl (gi_getIe (u2_i (by decide)) (gi_iast (inl_ (Sh12.l13 hs) h4.1) (go_loadA rfl (gi_getR (Sh12.r14 hs) (go_loadA rfl (gi_getIe (Eq.trans (u2_a (by omega)) (u2_i (by decide))) (go_loadI rfl (gi_iast (inl_ (Sh12.l14 hs) h4.1) (go_loadA rfl (go_loadA rfl (gi_getIe (Eq.trans (u2_a (by omega)) (Eq.trans (u2_a (by omega)) (u2_i (by decide)))) (Exists.elim h4.2 fun f7 w10 => Exists.elim w10 fun g8 h9 => (go_callV rfl rfl rfl h9.1 (go_loadA rfl (go_dupA (gi_getI (go_pushI rfl (go_iadd h9.2.1.1 (gi_putI (go_loadA rfl (gi_getIe u2_s (go_pushI rfl (go_isub h9.2.1.2 (h9.2.2 ▸ gq_retI)))))))))))))))))))))))))))))) (fun e6 => have h5 := h1.2 e6; (go_pushI rfl (go_loadA rfl (gi_getIe (u2_i (by decide)) (go_isub h5.1 (h5.2 ▸ gq_retI))))))))))))) (fun e3 => have h2 := h.2 e3; (go_loadA rfl (gi_getI (gq_if_ne (fun e13 => have h11 := h2.1 e13; (go_loadA rfl (go_pushI rfl (gi_putI (go_loadA rfl (gi_getIe (u2_i (by decide)) (gq_if_le (fun e16 => have h14 := h11.1 e16; (go_loadA rfl (gi_getR (Sh12.r13 hs) (go_loadA rfl (gi_getIe (u2_i (by decide)) (go_loadA rfl (gi_getIe (u2_i (by decide)) (gi_iast (inl_ (Sh12.l13 hs) h14.1) (go_loadA rfl (gi_getR (Sh12.r14 hs) (go_loadA rfl (gi_getIe (Eq.trans (u2_a (by omega)) (u2_i (by decide))) (go_loadI rfl (gi_iast (inl_ (Sh12.l14 hs) h14.1) (go_loadA rfl (go_loadA rfl (gi_getIe (Eq.trans (u2_a (by omega)) (Eq.trans (u2_a (by omega)) (u2_i (by decide)))) (Exists.elim h14.2 fun f17 w20 => Exists.elim w20 fun g18 h19 => (go_callV rfl rfl rfl h19.1 (go_loadA rfl (go_dupA (gi_getI (go_pushI rfl (go_iadd h19.2.1.1 (gi_putI (go_loadA rfl (gi_getIe u2_s (go_pushI rfl (go_isub h19.2.1.2 (h19.2.2 ▸ gq_retI)))))))))))))))))))))))))))))) (fun e16 => have h15 := h11.2 e16; (go_pushI rfl (go_loadA rfl (gi_getIe (u2_i (by decide)) (go_isub h15.1 (h15.2 ▸ gq_retI))))))))))))) (fun e13 => have h12 := h2.2 e13; (go_loadI rfl (gq_if_eq (fun e23 => have h21 := h12.1 e23; (go_loadA rfl (Exists.elim h21 fun f24 w28 => Exists.elim w28 fun g25 w29 => Exists.elim w29 fun v27 h26 => (go_callV rfl rfl rfl h26.1 (go_fall (go_stoI rfl rfl (go_goto (h26.2)))))))) (fun e23 => have h22 := h12.2 e23; (go_loadA rfl (Exists.elim h22 fun f30 w37 => Exists.elim w37 fun g31 w38 => Exists.elim w38 fun v33 h32 => (go_callV rfl rfl rfl h32.1 (gq_if_ne (fun e36 => have h34 := h32.2.1 e36; (go_pushI rfl (go_goto (go_stoI rfl rfl (go_goto (h34)))))) (fun e36 => have h35 := h32.2.2 e36; (go_pushI rfl (go_goto (go_stoI rfl rfl (go_goto (h35))))))))))))))))))))))
section
variable {σ σm : St} {fc fm : FI} {g gm : FL} {B M w0 n p a d k m N x4 : Nat} {T : Nat → Int} {s : Nat → Int} {o : Nat → Nat} {K L R : FN} {x1 : Int}
/-- an atom is wanted, on both sides -/
def SA (fc fm : FI) (B M w0 : Nat) (T : Nat → Int) (n p a d k m N : Nat) (s : Nat → Int) (o : Nat → Nat) (K L R : FN) (w : Nat → Nat) : Prop := RC fc B T n p 0 a d k m N s o K L R ∧ RM fm M w0 T n p 0 a d k m N s o K L R ∧ PA p a k m N s o K L R w
/-- a state in between -/
def Mid (fc fm : FI) (B M w0 : Nat) (T : Nat → Int) (n p : Nat) (v : Int) : Prop := ∃ (a d k m N : Nat) (s : Nat → Int) (o : Nat → Nat) (K L R : FN) (w : Nat → Nat), (p ≤ n ∧ a ≤ 40 ∧ d = nop s k ∧ d ≤ 8) ∧ ((v = 0 ∧ SB fc fm B M w0 T n p a d k m N s o K L R w 2) ∨ (v = 1 ∧ SA fc fm B M w0 T n p a d k m N s o K L R w))
/-- what comes of a step -/
def Nxt (fc fm : FI) (B M w0 : Nat) (T : Nat → Int) (n p : Nat) (vc vm : Int) : Prop := (∃ F' : Int, (1 ≤ F' ∧ F' ≤ 1700) ∧ fc (B + 5) 10 = F' ∧ fm M 3 = F') ∨ Fin2 fc fm B M w0 n ∨ ∃ p', p < p' ∧ vc = vm ∧ Mid fc fm B M w0 T n p' vc
theorem PA.bds {w : Nat → Nat} (h : PA p a k m N s o K L R w) (hd : nop s k ≤ 8) (hp : p ≤ 200) : m ≤ 18 ∧ k ≤ 26 ∧ N + m ≤ p := by
  have a1 := h.1.1.bd2
  have a2 := nsg_add s k
  have a3 := h.2
  have a4 := h.1.2.2.2.1
  omega
theorem read_step {v : Int} (hs : Sh4 σ B) (hm : Sh12 σm M) (hS : Stat σ fc) (hl : Lo σ B) (hw : w0 < 12) (hn : n ≤ 200) (hT : ∀ i, i < n → 0 ≤ T i ∧ T i ≤ 255) (hx : x4 ≤ p) (h : Mid fc fm B M w0 T n p v) : ∃ (fc' fm' : FI) (vc vm : Int), (∀ r, A_X4_read_63 σ fc' g B vc ((x4 + 1 : Nat) : Int) r → A_X4_read_63 σ fc g B v (x4 : Int) r) ∧ (∀ r, A_X12_wish_65 σm fm' gm M x1 vm r → A_X12_wish_65 σm fm gm M x1 v r) ∧ FCr B fc fc' ∧ FMr M w0 fm fm' ∧ Nxt fc' fm' B M w0 T n p vc vm := by
  obtain ⟨a, d, k, m, N, s, o, K, L, R, w, ⟨hpn, ha, hd, hd8⟩, h⟩ := h
  obtain ⟨e, hpe⟩ := Run.ex (fun i => T i = 32) n (n - p) p (by omega)
  have epe := hpe.1
  have een := hpe.2.1
  have e1 : (x4 : Int) + 1 = ((x4 + 1 : Nat) : Int) := by omega
  rcases h with ⟨hv, hC, hM, hP⟩ | ⟨hv, hC, hM, hP⟩
  · obtain ⟨fc1, E1, G1, H1⟩ := l_blanks (g := g) hs hn hC.1 hpe
    have C1 := hC.fc H1 G1
    obtain ⟨fc', fm', vc, vm, EC, EM, F1, F2, out⟩ := behind_both (g := g) (gm := gm) hs hm hw hn ha hd hd8 hpe C1 hM hP
    refine ⟨fc', fm', vc, vm, fun r A => bk_X4_read_63 hs ?_, fun r A => bk_X12_wish_65 hm ⟨fun y => absurd hM.2.1.2.2.2.2.2 y, fun _ => ⟨fun y => absurd hM.1.2.2.2.1 y, fun _ => ⟨fun _ => ⟨fm', gm, vm, EM, A⟩, fun y => absurd hv y⟩⟩⟩, H1.r.tr F1, F2, ?_⟩
    · rw [hC.1.1, hC.1.2.2.2.1, hC.2.1.2.2.2, hv, e1]
      exact ⟨fun y => absurd y (by omega), fun _ => ⟨fun y => absurd rfl y, fun _ => ⟨fun y => absurd rfl y, fun _ => ⟨fc1, g, E1, fun _ => ⟨fc', g, vc, EC, by omega, A⟩, fun y => absurd rfl y⟩⟩⟩⟩
    · rcases out with o1 | ⟨⟨y1, y2⟩, d', k', m', N', s', o', K', L', R', w', ⟨z1, z2, z3⟩, sb⟩ | ⟨⟨y1, y2⟩, k', m', N', s', o', K', L', R', w', ⟨z1, z2⟩, r1, r2, r3⟩ | o1
      · exact Or.inl o1
      · exact Or.inr (Or.inr ⟨e + 1, by omega, by rw [y1, y2], a, d', k', m', N', s', o', K', L', R', w', ⟨by omega, ha, z2, z3⟩, Or.inl ⟨y1, sb⟩⟩)
      · exact Or.inr (Or.inr ⟨e + 1, by omega, by rw [y1, y2], a, d, k', m', N', s', o', K', L', R', w', ⟨by omega, ha, z2, hd8⟩, Or.inr ⟨y1, r1, r2, r3⟩⟩)
      · exact Or.inr (Or.inl o1)
  · obtain ⟨fc1, E1, G1, H1⟩ := l_blanks (g := g) hs hn hC.1 hpe
    have C1 := hC.fc H1 G1
    have hP1 : PA e a k m N s o K L R w := ⟨hP.1.p epe, hP.2⟩
    have bd := hP1.bds (by omega) (by omega)
    have hS1 : Stat σ fc1 := hS.fr3 hl (fun c j hc => H1 c j (by omega))
    -- there is room for one more node, or the text is at its end
    by_cases nN : N < 200
    · obtain ⟨fc', fm', vc, vm, EC, EM, F1, F2, out⟩ := ahead_both (g := g) (gm := gm) hs hm hS1 hl hw hn hT (by omega) nN (by omega) ha hd8 hpe C1 hM
      have c63 : ∀ r, A_X4_read_63 σ fc' g B vc ((x4 + 1 : Nat) : Int) r → A_X4_read_63 σ fc g B v (x4 : Int) r := fun r A => by
        refine bk_X4_read_63 hs ?_
        rw [hC.1.1, hC.1.2.2.2.1, hC.2.1.2.2.2, hv, e1]
        exact ⟨fun y => absurd y (by omega), fun _ => ⟨fun y => absurd rfl y, fun _ => ⟨fun y => absurd rfl y, fun _ => ⟨fc1, g, E1, fun y => absurd y (by decide), fun _ => ⟨fc', g, vc, EC, by omega, A⟩⟩⟩⟩⟩
      have m65 : ∀ r, A_X12_wish_65 σm fm' gm M x1 (if vm = 0 then 1 else 0) r → A_X12_wish_65 σm fm gm M x1 v r := fun r A => by
        refine bk_X12_wish_65 hm ⟨fun y => absurd hM.2.1.2.2.2.2.2 y, fun _ => ⟨fun y => absurd hM.1.2.2.2.1 y, fun _ => ⟨fun y => absurd (hv.symm.trans y) (by decide), fun _ => ⟨fm', gm, vm, EM, fun y => ?_, fun y => ?_⟩⟩⟩⟩
        · rw [if_neg y] at A
          exact A
        · rw [if_pos y] at A
          exact A
      refine ⟨fc', fm', vc, _, c63, m65, H1.r.tr F1, F2, ?_⟩
      rcases out with ⟨y1, y2, o1⟩ | o1 | ⟨⟨y1, y2⟩, z1, z2, r1, r2⟩
      · rcases o1 with o1 | ⟨a40, q, x, l, r, ⟨q1, q2⟩, hx', hlen, r1, r2⟩
        · exact Or.inl o1
        · refine Or.inr (Or.inr ⟨q, by omega, by rw [y1, y2, if_neg (by decide)], a + 1, d, k, m, N + 1, s, _, _, _, _, _, ⟨q2, by omega, hd, hd8⟩, Or.inl ⟨y1, r1, r2, hP1.atom (by omega) q1 hx' hlen⟩⟩)
      · exact Or.inl o1
      · have ny := nsg_y (s := upS s k 40) (k := k) upS_at
        have nu := nsg_up (s := s) (k := k) (x := 40)
        exact Or.inr (Or.inr ⟨e + 1, by omega, by rw [y1, y2, if_pos rfl], a, d + 1, k + 1, m, N, upS s k 40, o, K, L, R, w, ⟨by omega, ha, by omega, by omega⟩, Or.inr ⟨y1, r1, r2, hP1.brk0 (Nat.le_refl _)⟩⟩)
    · -- 200 nodes: the text is at its end, both fail
      have en : n ≤ e := by omega
      have sE : sg T n e = -1 := by
        unfold sg
        rw [if_pos en]
      obtain ⟨fm1, ME1, MG1, MH1⟩ := m_blanks (g := gm) hm hn hM.1 hpe
      have S := l_sign (g := g) hs hn G1
      have MS := m_sign (g := gm) hm hn MG1
      have MD := m_isDigit (g := gm) hm hn hT MG1
      have ML := m_isLetter (g := gm) hm hn hT MG1
      obtain ⟨fc2, E2, G2, H2⟩ := l_fail (g := g) (k := 0) (q := e) hs (by omega) (by omega) G1
      obtain ⟨fm2, ME2, MG2, MH2⟩ := m_fails (g := gm) (k := 0) (q := e) hm (by omega) (by omega) MG1
      have fl0 := flt_rg (F := 0) (k := 0) (p := e) (by omega) (by omega) (by omega)
      have hwr : Run (fun i => 97 ≤ T i ∧ T i ≤ 122) n e e := ⟨Nat.le_refl _, een, fun i h1 h2 => absurd h2 (by omega), fun y => absurd y (by omega)⟩
      have lf := l_field (g := g) hs hn G1 hwr
      have fv : fdv T e (e - e) = -1 := by
        unfold fdv
        rw [if_neg (by omega), if_neg (by omega)]
      rw [fv] at lf
      rw [sE] at S MS MD ML
      have EC : Ex mt 4 51 (il σ fc1 g) [vR 4 (some (B + 5))] (il σ fc2 g, [vI 0]) := bk_X4_readAhead_0 hs ⟨fc1, g, _, S, fun _ => ⟨fun _ => ⟨fun _ => ⟨fc2, g, bk_X4_readTestOrChange_0 hs ⟨fc1, g, _, lf, fun y => absurd rfl y, fun _ => ⟨fc2, g, by rw [G1.2.2.1]; exact E2, rfl⟩⟩, rfl⟩, fun y => absurd y (by decide)⟩, fun y => absurd y (by decide)⟩, fun y => absurd y (by decide)⟩
      have EM : Ex mt 4 219 (il σm fm gm) [vR 12 (some M)] (il σm fm2 gm, [vI 1]) := bk_X12_wanted_0 hm ⟨fm1, gm, ME1, fm1, gm, _, MS, fun _ => ⟨fm1, gm, _, MD, fun _ => ⟨fm1, gm, _, MS, fun y => absurd y (by decide), fun _ => ⟨fm1, gm, _, ML, fun y => absurd (bI_f (by decide)) y, fun _ => ⟨fm2, gm, by rw [MG1.2.2.1]; exact ME2, rfl⟩⟩⟩, fun y => absurd (bI_f (by decide)) y⟩, fun y => absurd y (by decide)⟩
      refine ⟨fc2, fm2, 0, 0, fun r A => bk_X4_read_63 hs ?_, fun r A => bk_X12_wish_65 hm ⟨fun y => absurd hM.2.1.2.2.2.2.2 y, fun _ => ⟨fun y => absurd hM.1.2.2.2.1 y, fun _ => ⟨fun y => absurd (hv.symm.trans y) (by decide), fun _ => ⟨fm2, gm, 1, EM, fun _ => A, fun y => absurd y (by decide)⟩⟩⟩⟩, (H1.tr H2).r, (MH1.tr MH2).r, Or.inl ⟨_, fl0, G2.2.2.2.1, MG2.2.2.2.1⟩⟩
      rw [hC.1.1, hC.1.2.2.2.1, hC.2.1.2.2.2, hv, e1]
      exact ⟨fun y => absurd y (by omega), fun _ => ⟨fun y => absurd rfl y, fun _ => ⟨fun y => absurd rfl y, fun _ => ⟨fc1, g, E1, fun y => absurd y (by decide), fun _ => ⟨fc2, g, 0, EC, by omega, A⟩⟩⟩⟩⟩
/-- the whole text -/
theorem read_all (hs : Sh4 σ B) (hm : Sh12 σm M) (hl : Lo σ B) (hw : w0 < 12) (hn : n ≤ 200) (hT : ∀ i, i < n → 0 ≤ T i ∧ T i ≤ 255) : ∀ (U p x4 : Nat) (v : Int) (fc fm : FI), n < p + U → x4 ≤ p → Stat σ fc → Mid fc fm B M w0 T n p v → ∃ (fc' fm' : FI) (F vm : Int), A_X4_read_63 σ fc g B v (x4 : Int) (il σ fc' g, [vI F]) ∧ (∀ r, A_X12_wish_65 σm fm' gm M x1 vm r → A_X12_wish_65 σm fm gm M x1 v r) ∧ FCr B fc fc' ∧ FMr M w0 fm fm' ∧ (((1 ≤ F ∧ F ≤ 1700) ∧ fm' M 3 = F) ∨ (F = 0 ∧ Fin2 fc' fm' B M w0 n)) := by
  intro U
  induction U with
  | zero =>
    intro p x4 v fc fm hU _ _ hMid
    obtain ⟨a, d, k, m, N, s, o, K, L, R, w, ⟨hpn, _⟩, _⟩ := hMid
    omega
  | succ U ih =>
    intro p x4 v fc fm hU hx hS hMid
    obtain ⟨fc1, fm1, vc, vm, KC, KM, F1, F2, out⟩ := read_step (g := g) (gm := gm) (x1 := x1) hs hm hS hl hw hn hT hx hMid
    have hS1 : Stat σ fc1 := hS.fr3 hl (fun c j hc => F1 c j (by omega))
    rcases out with ⟨F', f1, f2, f3⟩ | o1 | ⟨p', q1, q2, q3⟩
    · refine ⟨fc1, fm1, F', vm, KC _ (bk_X4_read_63 hs ⟨fun _ => by rw [f2], fun _ => ⟨fun _ => by rw [f2], fun y => absurd (f2.symm.trans y) (by omega)⟩⟩), KM, F1, F2, Or.inl ⟨f1, f3⟩⟩
    · have a1 := o1.1.1
      have a2 := o1.1.2
      refine ⟨fc1, fm1, 0, vm, KC _ (bk_X4_read_63 hs ⟨fun _ => by rw [a1], fun _ => ⟨fun _ => by rw [a1], fun _ => ⟨fun _ => by rw [a1], fun y => absurd (a2.symm.trans y) (by decide)⟩⟩⟩), KM, F1, F2, Or.inr ⟨rfl, o1⟩⟩
    · obtain ⟨fc2, fm2, F, vm2, A2, KM2, H1, H2, out2⟩ := ih p' (x4 + 1) vc fc1 fm1 (by omega) (by omega) hS1 q3
      rw [q2] at KM2
      exact ⟨fc2, fm2, F, vm2, KC _ A2, fun r A => KM r (KM2 r A), F1.tr H1, F2.tr H2, out2⟩
end
