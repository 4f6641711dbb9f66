/-! renew, line, count -/
theorem bk_X7_takeFrom_0 {σ : St} {f : FI} {g : FL} {a : Nat} {x1 : Nat} {r : St × List Vl} (hs : Sh7 σ a) (h : (Sh7 σ x1 ∧ ((0 : Int) ≤ 12 ∧ (0 : Int) ≤ 0 ∧ (0 : Int) ≤ 0 ∧ 0 + 12 ≤ (ln σ (x1 + 1) : Int) ∧ 0 + 12 ≤ (ln σ (a + 1) : Int))) ∧ (∀ (f1 : FI), f1 = (up1 f (a + 1) (cpyF (f (x1 + 1)) (f (a + 1)) 0 0 12)) → (((0 : Int) ≤ 12 ∧ (0 : Int) ≤ 0 ∧ (0 : Int) ≤ 0 ∧ 0 + 12 ≤ (ln σ (x1 + 2) : Int) ∧ 0 + 12 ≤ (ln σ (a + 2) : Int))) ∧ (∀ (f4 : FI), f4 = (up1 f1 (a + 2) (cpyF (f1 (x1 + 2)) (f1 (a + 2)) 0 0 12)) → (((0 : Int) ≤ 12 ∧ (0 : Int) ≤ 0 ∧ (0 : Int) ≤ 0 ∧ 0 + 12 ≤ (ln σ (x1 + 3) : Int) ∧ 0 + 12 ≤ (ln σ (a + 3) : Int))) ∧ (∀ (f7 : FI), f7 = (up1 f4 (a + 3) (cpyF (f4 (x1 + 3)) (f4 (a + 3)) 0 0 12)) → (((0 : Int) ≤ 64 ∧ (0 : Int) ≤ 0 ∧ (0 : Int) ≤ 0 ∧ 0 + 64 ≤ (ln σ (x1 + 4) : Int) ∧ 0 + 64 ≤ (ln σ (a + 4) : Int))) ∧ (∀ (f10 : FI), f10 = (up1 f7 (a + 4) (cpyF (f7 (x1 + 4)) (f7 (a + 4)) 0 0 64)) → (((0 : Int) ≤ 64 ∧ (0 : Int) ≤ 0 ∧ (0 : Int) ≤ 0 ∧ 0 + 64 ≤ (ln σ (x1 + 5) : Int) ∧ 0 + 64 ≤ (ln σ (a + 5) : Int))) ∧ (∀ (f13 : FI), f13 = (up1 f10 (a + 5) (cpyF (f10 (x1 + 5)) (f10 (a + 5)) 0 0 64)) → (r = ((il σ (up2 f13 a 3 (f13 x1 3)) g), [])))))))) : Ex mt 0 98 (il σ f g) [vR 7 (some a), vR 7 (some x1)] r := Ex.mk mt_98 (show Gx mt 0 cd_X7_takeFrom (il σ f g) b_X7_takeFrom_0 [some (vR 7 (some a)), some (vR 7 (some x1))] [] r from (go_loadA rfl (gi_getR (Sh7.r0 h.1.1) (go_pushI rfl (go_loadA rfl (gi_getR (Sh7.r0 hs) (go_pushI rfl (go_pushI rfl (gi_cpyI h.1.2 rfl (Gx.letF (fun f1 e3 => have h2 := h.2 f1 e3; (go_loadA rfl (gi_getR (Sh7.r1 h.1.1) (go_pushI rfl (go_loadA rfl (gi_getR (Sh7.r1 hs) (go_pushI rfl (go_pushI rfl (gi_cpyI h2.1 rfl (Gx.letF (fun f4 e6 => have h5 := h2.2 f4 e6; (go_loadA rfl (gi_getR (Sh7.r2 h.1.1) (go_pushI rfl (go_loadA rfl (gi_getR (Sh7.r2 hs) (go_pushI rfl (go_pushI rfl (gi_cpyI h5.1 rfl (Gx.letF (fun f7 e9 => have h8 := h5.2 f7 e9; (go_loadA rfl (gi_getR (Sh7.r4 h.1.1) (go_pushI rfl (go_loadA rfl (gi_getR (Sh7.r4 hs) (go_pushI rfl (go_pushI rfl (gi_cpyI h8.1 rfl (Gx.letF (fun f10 e12 => have h11 := h8.2 f10 e12; (go_loadA rfl (gi_getR (Sh7.r5 h.1.1) (go_pushI rfl (go_loadA rfl (gi_getR (Sh7.r5 hs) (go_pushI rfl (go_pushI rfl (gi_cpyI h11.1 rfl (Gx.letF (fun f13 e15 => have h14 := h11.2 f13 e15; (go_loadA rfl (go_loadA rfl (gi_getI (gi_putI (h14 ▸ gq_retV))))))))))))))))))))))))))))))))))))))))))))))))))))))))
theorem cpy_lt {α : Type} {f g : Nat → α} {n k : Nat} (h : k < n) : cpyF f g 0 0 n k = f k := by
  unfold cpyF
  rw [if_pos (by omega)]
  congr 1
  omega
theorem x_takeFrom {σ : St} {f : FI} {g : FL} {a c m : Nat} (hs : Sh7 σ a) (hc : Sh7 σ c) (hd : a + 5 < c ∨ c + 5 < a) (h : TC f c m) : ∃ f' : FI, Ex mt 0 98 (il σ f g) [vR 7 (some a), vR 7 (some c)] (il σ f' g, []) ∧ TC f' a m ∧ (∀ k, k < 12 → f' (a + 1) k = f (c + 1) k ∧ f' (a + 2) k = f (c + 2) k ∧ f' (a + 3) k = f (c + 3) k) ∧ ∀ b, (b < a ∨ a + 5 < b) → f' b = f b := by
  have la1 := hs.l0
  have la2 := hs.l1
  have la3 := hs.l2
  have la4 := hs.l4
  have la5 := hs.l5
  have lc1 := hc.l0
  have lc2 := hc.l1
  have lc3 := hc.l2
  have lc4 := hc.l4
  have lc5 := hc.l5
  refine ⟨up2 (up1 (up1 (up1 (up1 (up1 f (a + 1) (cpyF (f (c + 1)) (f (a + 1)) 0 0 12)) (a + 2) (cpyF (f (c + 2)) (f (a + 2)) 0 0 12)) (a + 3) (cpyF (f (c + 3)) (f (a + 3)) 0 0 12)) (a + 4) (cpyF (f (c + 4)) (f (a + 4)) 0 0 64)) (a + 5) (cpyF (f (c + 5)) (f (a + 5)) 0 0 64)) a 3 (f c 3), bk_X7_takeFrom_0 hs ⟨⟨hc, by omega⟩, fun f1 h1 => ⟨by omega, fun f4 h4 => ⟨by omega, fun f7 h7 => ⟨by omega, fun f10 h10 => ⟨by omega, fun f13 h13 => ?_⟩⟩⟩⟩⟩, ?_, ?_, ?_⟩
  · subst h1 h4 h7 h10 h13
    have w2 : ∀ b : Nat, b ≠ a + 1 → up1 f (a + 1) (cpyF (f (c + 1)) (f (a + 1)) 0 0 12) b = f b := fun b hb => up1_ne hb
    simp only [up1_ne (show c + 2 ≠ a + 1 by omega), up1_ne (show a + 2 ≠ a + 1 by omega), up1_ne (show c + 3 ≠ a + 1 by omega), up1_ne (show c + 3 ≠ a + 2 by omega), up1_ne (show a + 3 ≠ a + 1 by omega), up1_ne (show a + 3 ≠ a + 2 by omega), up1_ne (show c + 4 ≠ a + 1 by omega), up1_ne (show c + 4 ≠ a + 2 by omega), up1_ne (show c + 4 ≠ a + 3 by omega), up1_ne (show a + 4 ≠ a + 1 by omega), up1_ne (show a + 4 ≠ a + 2 by omega), up1_ne (show a + 4 ≠ a + 3 by omega), up1_ne (show c + 5 ≠ a + 1 by omega), up1_ne (show c + 5 ≠ a + 2 by omega), up1_ne (show c + 5 ≠ a + 3 by omega), up1_ne (show c + 5 ≠ a + 4 by omega), up1_ne (show a + 5 ≠ a + 1 by omega), up1_ne (show a + 5 ≠ a + 2 by omega), up1_ne (show a + 5 ≠ a + 3 by omega), up1_ne (show a + 5 ≠ a + 4 by omega), up1_ne (show c ≠ a + 1 by omega), up1_ne (show c ≠ a + 2 by omega), up1_ne (show c ≠ a + 3 by omega), up1_ne (show c ≠ a + 4 by omega), up1_ne (show c ≠ a + 5 by omega)]
  · generalize hf' : up2 (up1 (up1 (up1 (up1 (up1 f (a + 1) (cpyF (f (c + 1)) (f (a + 1)) 0 0 12)) (a + 2) (cpyF (f (c + 2)) (f (a + 2)) 0 0 12)) (a + 3) (cpyF (f (c + 3)) (f (a + 3)) 0 0 12)) (a + 4) (cpyF (f (c + 4)) (f (a + 4)) 0 0 64)) (a + 5) (cpyF (f (c + 5)) (f (a + 5)) 0 0 64)) a 3 (f c 3) = f'
    have q1 : ∀ k, k < 12 → f' (a + 1) k = f (c + 1) k := fun k hk => by rw [← hf', u2_a (by omega), up1_ne (by omega), up1_ne (by omega), up1_ne (by omega), up1_ne (by omega), u1, if_pos rfl, cpy_lt hk]
    have q2 : ∀ k, k < 12 → f' (a + 2) k = f (c + 2) k := fun k hk => by rw [← hf', u2_a (by omega), up1_ne (by omega), up1_ne (by omega), up1_ne (by omega), u1, if_pos rfl, cpy_lt hk]
    have q3 : ∀ k, k < 12 → f' (a + 3) k = f (c + 3) k := fun k hk => by rw [← hf', u2_a (by omega), up1_ne (by omega), up1_ne (by omega), u1, if_pos rfl, cpy_lt hk]
    have q4 : ∀ k, k < 64 → f' (a + 4) k = f (c + 4) k := fun k hk => by rw [← hf', u2_a (by omega), up1_ne (by omega), u1, if_pos rfl, cpy_lt hk]
    have q5 : ∀ k, k < 64 → f' (a + 5) k = f (c + 5) k := fun k hk => by rw [← hf', u2_a (by omega), u1, if_pos rfl, cpy_lt hk]
    have q0 : f' a 3 = f c 3 := by rw [← hf', u2_s]
    obtain ⟨⟨k1, k2⟩, k3, k4⟩ := h
    refine ⟨⟨by rw [q0]; exact k1, k2⟩, fun k hk => ?_, fun p hp => ?_⟩
    · rw [q1 k (by omega), q2 k (by omega), q3 k (by omega)]
      exact k3 k hk
    · have efr : frF (f' (a + 1)) (p : Int) m = frF (f (c + 1)) (p : Int) m := frF_cong (fun k hk => q1 k (by omega)) (fun _ => Iff.rfl)
      have frg := frF_rg (f (c + 1)) (p : Int) m
      rw [q4 p hp, q5 p hp, efr]
      refine ⟨(k4 p hp).1, ?_⟩
      rw [(k4 p hp).2]
      exact deF_cong fun hr => ⟨(q2 _ (by omega)).symm, (q3 _ (by omega)).symm⟩
  · intro k hk
    rw [u2_a (by omega), u2_a (by omega), u2_a (by omega), up1_ne (by omega), up1_ne (by omega), up1_ne (by omega), up1_ne (by omega), u1, if_pos rfl, cpy_lt hk, up1_ne (by omega), up1_ne (by omega), up1_ne (by omega), u1, if_pos rfl, cpy_lt hk, up1_ne (by omega), up1_ne (by omega), u1, if_pos rfl, cpy_lt hk]
    exact ⟨rfl, rfl, rfl⟩
  · intro b hb
    rw [up2_ne (by omega), up1_ne (by omega), up1_ne (by omega), up1_ne (by omega), up1_ne (by omega), up1_ne (by omega)]
def A_X3_takeNewTables_2 (σ : St) (f : FI) (g : FL) (a : Nat) (x1 : Int) (x2 : Int) (r : St × List Vl) : Prop := Gx mt 1 cd_X3_takeNewTables (il σ f g) (cd_X3_takeNewTables 2) [some (vR 3 (some a)), some (vI x1), some (vI x2)] [] r
theorem bk_X3_takeNewTables_0 {σ : St} {f : FI} {g : FL} {a : Nat} {x1 : Int} {r : St × List Vl} (hs : Sh3 σ a) (h : (A_X3_takeNewTables_2 σ f g a x1 0 r)) : Ex mt 1 35 (il σ f g) [vR 3 (some a), vI x1] r := Ex.mk mt_35 (show Gx mt 1 cd_X3_takeNewTables (il σ f g) b_X3_takeNewTables_0 [some (vR 3 (some a)), some (vI x1), none] [] r from (go_pushI rfl (go_stoI rfl rfl (go_fall (h)))))
theorem bk_X3_takeNewTables_2 {σ : St} {f : FI} {g : FL} {a : Nat} {x1 : Int} {x2 : Int} {r : St × List Vl} (hs : Sh3 σ a) (h : ((8 ≤ x2 → (r = ((il σ f g), []))) ∧ (¬ 8 ≤ x2 → ((-2147483648 ≤ x1 ∧ x1 ≤ 2147483647) ∧ (0 ≤ x2 ∧ x2 < 32)) ∧ ((¬ ((hB x1 x2)) → ((-2147483648 ≤ (x2 + 1) ∧ (x2 + 1) ≤ 2147483647)) ∧ (A_X3_takeNewTables_2 σ f g a x1 (x2 + 1) r)) ∧ (((hB x1 x2)) → ((0 ≤ x2 ∧ x2 < 16) ∧ (-2147483648 ≤ (8 + x2) ∧ (8 + x2) ≤ 2147483647) ∧ (0 ≤ (8 + x2) ∧ (8 + x2) < 16)) ∧ (∃ (f7 : FI) (g8 : FL), Ex mt 0 98 (il σ f g) [vR 7 (some (tA a x2)), vR 7 (some (tA a (8 + x2)))] ((il σ f7 g8), []) ∧ ((-2147483648 ≤ (x2 + 1) ∧ (x2 + 1) ≤ 2147483647)) ∧ (A_X3_takeNewTables_2 σ f7 g8 a x1 (x2 + 1) r))))))) : A_X3_takeNewTables_2 σ f g a x1 x2 r := (show Gx mt 1 cd_X3_takeNewTables (il σ f g) b_X3_takeNewTables_2 [some (vR 3 (some a)), some (vI x1), some (vI x2)] [] r from (go_loadI rfl (go_pushI rfl (gq_icmp_ge (fun e3 => have h1 := h.1 e3; (h1 ▸ gq_retV)) (fun e3 => have h2 := h.2 e3; (go_loadI rfl (go_loadI rfl (go_callS rfl rfl rfl (pu_hasBit h2.1.1 h2.1.2) (go_ifb_eq (fun e6 => have h4 := h2.2.1 e6; (go_iinc rfl h4.1 rfl (go_goto (h4.2)))) (fun e6 => have h5 := h2.2.2 e6; (go_loadA rfl (gi_getR (Sh3.r0 hs) (go_loadI rfl (gi_aald (inl_ (Sh3.l0 hs) h5.1.1) (Sh3.t hs h5.1.1) (go_loadA rfl (gi_getR (Sh3.r0 hs) (go_pushI rfl (go_loadI rfl (go_iadd h5.1.2.1 (gi_aald (inl_ (Sh3.l0 hs) h5.1.2.2) (Sh3.t hs h5.1.2.2) (Exists.elim h5.2 fun f7 w10 => Exists.elim w10 fun g8 h9 => (go_callV rfl rfl rfl h9.1 (go_fall (go_iinc rfl h9.2.1 rfl (go_goto (h9.2.2))))))))))))))))))))))))))
theorem x_takeNew {σ : St} {f : FI} {g : FL} {B u : Nat} {nn : Nat → Nat} (hs : Sh3 σ (B + 43)) (h : ∀ t, t < 16 → TC f (tB B t) (nn t)) (hu : UL f B nn u) : ∃ f' : FI, Ex mt 1 35 (il σ f g) [vR 3 (some (B + 43)), vI (u : Int)] (il σ f' g, []) ∧ (∀ t, t < 8 → TC f' (tB B t) (nn (8 + t)) ∧ ∀ k, k < nn (8 + t) → f' (tB B t + 1) k = f (tB B (8 + t) + 1) k ∧ f' (tB B t + 2) k = f (tB B (8 + t) + 2) k ∧ f' (tB B t + 3) k = f (tB B (8 + t) + 3) k) ∧ (∀ b, (b < B + 45 ∨ B + 93 ≤ b) → f' b = f b) := by
  have loop : ∀ k i : Nat, i + k = 8 → ∀ fi : FI, (∀ t, t < i → TC fi (tB B t) (nn (8 + t)) ∧ ∀ k, k < nn (8 + t) → fi (tB B t + 1) k = f (tB B (8 + t) + 1) k ∧ fi (tB B t + 2) k = f (tB B (8 + t) + 2) k ∧ fi (tB B t + 3) k = f (tB B (8 + t) + 3) k) → (∀ b, (b < B + 45 ∨ B + 45 + 6 * i ≤ b) → fi b = f b) → ∃ f' : FI, A_X3_takeNewTables_2 σ fi g (B + 43) (u : Int) (i : Int) (il σ f' g, []) ∧ (∀ t, t < 8 → TC f' (tB B t) (nn (8 + t)) ∧ ∀ k, k < nn (8 + t) → f' (tB B t + 1) k = f (tB B (8 + t) + 1) k ∧ f' (tB B t + 2) k = f (tB B (8 + t) + 2) k ∧ f' (tB B t + 3) k = f (tB B (8 + t) + 3) k) ∧ (∀ b, (b < B + 45 ∨ B + 93 ≤ b) → f' b = f b) := by
    intro k
    induction k with
    | zero =>
      intro i hi fi h1 h2
      obtain rfl : i = 8 := by omega
      exact ⟨fi, bk_X3_takeNewTables_2 hs ⟨fun _ => rfl, fun e => absurd (by decide) e⟩, h1, fun b hb => h2 b (by omega)⟩
    | succ k ih =>
      intro i hi fi h1 h2
      have hu1 := hu.1
      have hbit := hB_nat (a := u) (i := i)
      have tcn : TC fi (tB B (8 + i)) (nn (8 + i)) := (h (8 + i) (by omega)).of (by rw [h2 _ (by unfold tB; omega)]) (h2 _ (by unfold tB; omega)) (h2 _ (by unfold tB; omega)) (h2 _ (by unfold tB; omega)) (h2 _ (by unfold tB; omega)) (h2 _ (by unfold tB; omega))
      have tco : TC fi (tB B i) (nn i) := (h i (by omega)).of (by rw [h2 _ (by unfold tB; omega)]) (h2 _ (by unfold tB; omega)) (h2 _ (by unfold tB; omega)) (h2 _ (by unfold tB; omega)) (h2 _ (by unfold tB; omega)) (h2 _ (by unfold tB; omega))
      by_cases hb : u.testBit i = true
      · obtain ⟨f1, E, T, R, F⟩ := x_takeFrom (g := g) (hs.tb (t := i) (by omega)) (hs.tb (t := 8 + i) (by omega)) (by unfold tB; omega) tcn
        obtain ⟨fe, A1, A2, A3⟩ := ih (i + 1) (by omega) f1 (fun t ht => by
            by_cases q : t = i
            · subst q
              refine ⟨T, fun k hk => ?_⟩
              have := T.1.2
              obtain ⟨r1, r2, r3⟩ := R k (by omega)
              rw [r1, r2, r3, h2 _ (by unfold tB; omega), h2 _ (by unfold tB; omega), h2 _ (by unfold tB; omega)]
              exact ⟨rfl, rfl, rfl⟩
            · obtain ⟨a1, a2⟩ := h1 t (by omega)
              have ef : ∀ d, d ≤ 5 → f1 (tB B t + d) = fi (tB B t + d) := fun d hd => F _ (by unfold tB; omega)
              refine ⟨a1.of (congrFun (ef 0 (by omega)) 3) (ef 1 (by omega)) (ef 2 (by omega)) (ef 3 (by omega)) (ef 4 (by omega)) (ef 5 (by omega)), fun k hk => ?_⟩
              rw [ef 1 (by omega), ef 2 (by omega), ef 3 (by omega)]
              exact a2 k hk) (fun b hb2 => by rw [F b (by unfold tB; omega)]; exact h2 b (by omega))
        rw [← tA_tB, ← tA_tB, show ((8 + i : Nat) : Int) = 8 + (i : Int) by omega] at E
        exact ⟨fe, bk_X3_takeNewTables_2 hs ⟨fun e => absurd e (by omega), fun _ => ⟨by omega, fun e => absurd (hbit.mpr hb) e, fun _ => ⟨by omega, f1, g, E, by omega, A1⟩⟩⟩, A2, A3⟩
      · have al : AL f (tB B i) (tB B (8 + i)) (nn i) (nn (8 + i)) := Classical.byContradiction fun z => hb ((hu.2 i (by omega)).mpr z)
        obtain ⟨fe, A1, A2, A3⟩ := ih (i + 1) (by omega) fi (fun t ht => by
            by_cases q : t = i
            · subst q
              refine ⟨by rw [← al.1]; exact tco, fun k hk => ?_⟩
              rw [h2 (tB B t + 1) (by unfold tB; omega), h2 (tB B t + 2) (by unfold tB; omega), h2 (tB B t + 3) (by unfold tB; omega)]
              exact al.2 k (by rw [al.1]; exact hk)
            · exact h1 t (by omega)) (fun b hb2 => h2 b (by omega))
        exact ⟨fe, bk_X3_takeNewTables_2 hs ⟨fun e => absurd e (by omega), fun _ => ⟨by omega, fun _ => ⟨by omega, A1⟩, fun e => absurd (hbit.mp e) hb⟩⟩, A2, A3⟩
  obtain ⟨fe, A1, A2, A3⟩ := loop 8 0 rfl f (fun t ht => absurd ht (Nat.not_lt_zero t)) (fun b _ => rfl)
  exact ⟨fe, bk_X3_takeNewTables_0 hs A1, A2, A3⟩
/-- the model's rows, the first x of them and the first y sizes taken over -/
def rn (f : FI) (M x y : Nat) : FI := fun a k => if (M + 18 ≤ a ∧ a ≤ M + 20) ∧ k < x then f a (96 + k) else if a = M + 21 ∧ k < y then f a (8 + k) else f a k
theorem rn_0 (f : FI) (M : Nat) : rn f M 0 0 = f := by
  funext a k
  unfold rn
  rw [if_neg (by omega), if_neg (by omega)]
theorem rn_y {f : FI} {M x y : Nat} (hy : y < 8) : up2 (rn f M x y) (M + 21) y (rn f M x y (M + 21) (8 + y)) = rn f M x (y + 1) := by
  funext a k
  rw [u2]
  unfold rn
  by_cases h1 : a = M + 21 ∧ k = y
  · rw [if_pos h1, if_neg (by omega), if_neg (by omega), if_neg (by omega), if_pos (by omega), h1.1, h1.2]
  · rw [if_neg h1]
    by_cases h2 : (M + 18 ≤ a ∧ a ≤ M + 20) ∧ k < x
    · rw [if_pos h2, if_pos h2]
    · rw [if_neg h2, if_neg h2]
      by_cases h3 : a = M + 21 ∧ k < y
      · rw [if_pos h3, if_pos (by omega)]
      · rw [if_neg h3, if_neg (by omega)]
theorem rn_x {f : FI} {M x y : Nat} (hx : x < 96) : up2 (up2 (up2 (rn f M x y) (M + 18) x (rn f M x y (M + 18) (96 + x))) (M + 19) x (up2 (rn f M x y) (M + 18) x (rn f M x y (M + 18) (96 + x)) (M + 19) (96 + x))) (M + 20) x (up2 (up2 (rn f M x y) (M + 18) x (rn f M x y (M + 18) (96 + x))) (M + 19) x (up2 (rn f M x y) (M + 18) x (rn f M x y (M + 18) (96 + x)) (M + 19) (96 + x)) (M + 20) (96 + x)) = rn f M (x + 1) y := by
  have r : ∀ d, 18 ≤ d → d ≤ 20 → rn f M x y (M + d) (96 + x) = f (M + d) (96 + x) := fun d h1 h2 => by
    unfold rn
    rw [if_neg (by omega), if_neg (by omega)]
  rw [u2_a (by omega), u2_a (by omega), u2_a (by omega), r 18 (by omega) (by omega), r 19 (by omega) (by omega), r 20 (by omega) (by omega)]
  funext a k
  rw [u2, u2, u2]
  unfold rn
  by_cases h1 : a = M + 20 ∧ k = x
  · rw [if_pos h1, if_pos (by omega), h1.1, h1.2]
  · rw [if_neg h1]
    by_cases h2 : a = M + 19 ∧ k = x
    · rw [if_pos h2, if_pos (by omega), h2.1, h2.2]
    · rw [if_neg h2]
      by_cases h3 : a = M + 18 ∧ k = x
      · rw [if_pos h3, if_pos (by omega), h3.1, h3.2]
      · rw [if_neg h3]
        by_cases h4 : (M + 18 ≤ a ∧ a ≤ M + 20) ∧ k < x
        · rw [if_pos h4, if_pos (by omega)]
        · rw [if_neg h4, if_neg (show ¬ ((M + 18 ≤ a ∧ a ≤ M + 20) ∧ k < x + 1) by omega)]
theorem bk_X11_renew_0 {σ : St} {f : FI} {g : FL} {a : Nat} {r : St × List Vl} (hs : Sh11 σ a) (h : (∃ (f1 : FI) (g2 : FL) (v4 : Int), Ex mt 1 34 (il σ f g) [vR 3 (some (a + 43))] ((il σ f1 g2), [vI v4]) ∧ (∃ (f5 : FI) (g6 : FL), Ex mt 1 35 (il σ f1 g2) [vR 3 (some (a + 43)), vI v4] ((il σ f5 g6), []) ∧ ((0 ≤ v4 ∧ v4 < 4096)) ∧ (r = ((il σ f5 g6), [vI (pcI v4)]))))) : Ex mt 2 158 (il σ f g) [vR 11 (some a)] r := Ex.mk mt_158 (show Gx mt 2 cd_X11_renew (il σ f g) b_X11_renew_0 [some (vR 11 (some a)), none] [] r from (go_loadA rfl (gi_getR (Sh11.r9 hs) (Exists.elim h fun f1 w9 => Exists.elim w9 fun g2 w10 => Exists.elim w10 fun v4 h3 => (go_callV rfl rfl rfl h3.1 (go_stoI rfl rfl (go_loadA rfl (gi_getR (Sh11.r9 hs) (go_loadI rfl (Exists.elim h3.2 fun f5 w8 => Exists.elim w8 fun g6 h7 => (go_callV rfl rfl rfl h7.1 (go_loadI rfl (go_callS rfl rfl rfl (pu_bitCountI h7.2.1) (h7.2.2 ▸ gq_retI))))))))))))))
def A_X12_renew_7 (σ : St) (f : FI) (g : FL) (a : Nat) (x1 : Int) (x2 : Int) (r : St × List Vl) : Prop := ∀ (y3 : Option Vl) (y4 : Option Vl), Gx mt 2 cd_X12_renew (il σ f g) (cd_X12_renew 7) [some (vR 12 (some a)), some (vI x1), some (vI x2), y3, y4] [] r
def A_X12_renew_30 (σ : St) (f : FI) (g : FL) (a : Nat) (x1 : Int) (x2 : Int) (x3 : Int) (r : St × List Vl) : Prop := ∀ (y4 : Option Vl), Gx mt 2 cd_X12_renew (il σ f g) (cd_X12_renew 30) [some (vR 12 (some a)), some (vI x1), some (vI x2), some (vI x3), y4] [] r
theorem bk_X12_renew_0 {σ : St} {f : FI} {g : FL} {a : Nat} {r : St × List Vl} (hs : Sh12 σ a) (h : (∃ (f1 : FI) (g2 : FL) (v4 : Int), Ex mt 1 246 (il σ f g) [vR 12 (some a)] ((il σ f1 g2), [vI v4]) ∧ (A_X12_renew_7 σ f1 g2 a v4 0 r))) : Ex mt 2 247 (il σ f g) [vR 12 (some a)] r := Ex.mk mt_247 (show Gx mt 2 cd_X12_renew (il σ f g) b_X12_renew_0 [some (vR 12 (some a)), none, none, none, none] [] r from (go_loadA rfl (Exists.elim h fun f1 w5 => Exists.elim w5 fun g2 w6 => Exists.elim w6 fun v4 h3 => (go_callV rfl rfl rfl h3.1 (go_stoI rfl rfl (go_pushI rfl (go_stoI rfl rfl (go_fall (h3.2 _ _)))))))))
theorem bk_X12_renew_7 {σ : St} {f : FI} {g : FL} {a : Nat} {x1 : Int} {x2 : Int} {r : St × List Vl} (hs : Sh12 σ a) (h : ((8 ≤ x2 → (r = ((il σ f g), [vI x1]))) ∧ (¬ 8 ≤ x2 → ((-2147483648 ≤ (8 + x2) ∧ (8 + x2) ≤ 2147483647) ∧ (0 ≤ (8 + x2) ∧ (8 + x2) < 16) ∧ (0 ≤ x2 ∧ x2 < 16)) ∧ (A_X12_renew_30 σ (up2 f (a + 21) ((x2).toNat) (f (a + 21) (((8 + x2)).toNat))) g a x1 x2 0 r)))) : A_X12_renew_7 σ f g a x1 x2 r := fun y3 y4 => (show Gx mt 2 cd_X12_renew (il σ f g) b_X12_renew_7 [some (vR 12 (some a)), some (vI x1), some (vI x2), y3, y4] [] r from (go_loadI rfl (go_pushI rfl (gq_icmp_ge (fun e3 => have h1 := h.1 e3; (go_loadI rfl (h1 ▸ gq_retI))) (fun e3 => have h2 := h.2 e3; (go_loadA rfl (gi_getR (Sh12.r31 hs) (go_loadI rfl (go_loadA rfl (gi_getR (Sh12.r31 hs) (go_pushI rfl (go_loadI rfl (go_iadd h2.1.1 (gi_iald (inl_ (Sh12.l31 hs) h2.1.2.1) (gi_iast (inl_ (Sh12.l31 hs) h2.1.2.2) (go_pushI rfl (go_stoI rfl rfl (go_fall (h2.2 _)))))))))))))))))))
theorem bk_X12_renew_30 {σ : St} {f : FI} {g : FL} {a : Nat} {x1 : Int} {x2 : Int} {x3 : Int} {r : St × List Vl} (hs : Sh12 σ a) (h : ((12 ≤ x3 → ((-2147483648 ≤ (x2 + 1) ∧ (x2 + 1) ≤ 2147483647)) ∧ (A_X12_renew_7 σ f g a x1 (x2 + 1) r)) ∧ (¬ 12 ≤ x3 → ((-2147483648 ≤ (12 * x2) ∧ (12 * x2) ≤ 2147483647) ∧ (-2147483648 ≤ ((12 * x2) + x3) ∧ ((12 * x2) + x3) ≤ 2147483647) ∧ (-2147483648 ≤ (96 + ((12 * x2) + x3)) ∧ (96 + ((12 * x2) + x3)) ≤ 2147483647) ∧ (0 ≤ (96 + ((12 * x2) + x3)) ∧ (96 + ((12 * x2) + x3)) < 192) ∧ (0 ≤ ((12 * x2) + x3) ∧ ((12 * x2) + x3) < 192) ∧ (-2147483648 ≤ (x3 + 1) ∧ (x3 + 1) ≤ 2147483647)) ∧ (A_X12_renew_30 σ (up2 (up2 (up2 f (a + 18) ((((12 * x2) + x3)).toNat) (f (a + 18) (((96 + ((12 * x2) + x3))).toNat))) (a + 19) ((((12 * x2) + x3)).toNat) (f (a + 19) (((96 + ((12 * x2) + x3))).toNat))) (a + 20) ((((12 * x2) + x3)).toNat) (f (a + 20) (((96 + ((12 * x2) + x3))).toNat))) g a x1 x2 (x3 + 1) r)))) : A_X12_renew_30 σ f g a x1 x2 x3 r := fun y4 => (show Gx mt 2 cd_X12_renew (il σ f g) b_X12_renew_30 [some (vR 12 (some a)), some (vI x1), some (vI x2), some (vI x3), y4] [] r from (go_loadI rfl (go_pushI rfl (gq_icmp_ge (fun e3 => have h1 := h.1 e3; (go_iinc rfl h1.1 rfl (go_goto (h1.2 _ _)))) (fun e3 => have h2 := h.2 e3; (go_pushI rfl (go_loadI rfl (go_imul h2.1.1 (go_loadI rfl (go_iadd h2.1.2.1 (go_stoI rfl rfl (go_loadA rfl (gi_getR (Sh12.r28 hs) (go_loadI rfl (go_loadA rfl (gi_getR (Sh12.r28 hs) (go_pushI rfl (go_loadI rfl (go_iadd h2.1.2.2.1 (gi_iald (inl_ (Sh12.l28 hs) h2.1.2.2.2.1) (gi_iast (inl_ (Sh12.l28 hs) h2.1.2.2.2.2.1) (go_loadA rfl (gi_getR (Sh12.r29 hs) (go_loadI rfl (go_loadA rfl (gi_getR (Sh12.r29 hs) (go_pushI rfl (go_loadI rfl (go_iadd h2.1.2.2.1 (gi_ialde (inl_ (Sh12.l29 hs) h2.1.2.2.2.1) (u2_a (by omega)) (gi_iast (inl_ (Sh12.l29 hs) h2.1.2.2.2.2.1) (go_loadA rfl (gi_getR (Sh12.r30 hs) (go_loadI rfl (go_loadA rfl (gi_getR (Sh12.r30 hs) (go_pushI rfl (go_loadI rfl (go_iadd h2.1.2.2.1 (gi_ialde (inl_ (Sh12.l30 hs) h2.1.2.2.2.1) (Eq.trans (u2_a (by omega)) (u2_a (by omega))) (gi_iast (inl_ (Sh12.l30 hs) h2.1.2.2.2.2.1) (go_iinc rfl h2.1.2.2.2.2.2 rfl (go_goto (h2.2 _))))))))))))))))))))))))))))))))))))))))))))
theorem x_renewM {σ : St} {f : FI} {g : FL} {M : Nat} {v : Int} (hm : Sh12 σ M) : A_X12_renew_7 σ f g M v 0 (il σ (rn f M 96 8) g, [vI v]) := by
  have inner : ∀ k i c : Nat, c + k = 12 → i < 8 → ∀ r, A_X12_renew_7 σ (rn f M (12 * (i + 1)) (i + 1)) g M v ((i : Int) + 1) r → A_X12_renew_30 σ (rn f M (12 * i + c) (i + 1)) g M v (i : Int) (c : Int) r := by
    intro k
    induction k with
    | zero =>
      intro i c hc hi r kk
      obtain rfl : c = 12 := by omega
      exact bk_X12_renew_30 hm ⟨fun _ => ⟨by omega, kk⟩, fun e => absurd (by decide) e⟩
    | succ k ih =>
      intro i c hc hi r kk
      have e1 : (12 * (i : Int) + (c : Int)).toNat = 12 * i + c := by omega
      have e2 : (96 + (12 * (i : Int) + (c : Int))).toNat = 96 + (12 * i + c) := by omega
      refine bk_X12_renew_30 hm ⟨fun e => absurd e (by omega), fun _ => ⟨by omega, ?_⟩⟩
      rw [e1, e2]
      have := ih i (c + 1) (by omega) hi r kk
      rw [show 12 * i + (c + 1) = 12 * i + c + 1 by omega, ← rn_x (by omega)] at this
      have u18 : up2 (rn f M (12 * i + c) (i + 1)) (M + 18) (12 * i + c) (rn f M (12 * i + c) (i + 1) (M + 18) (96 + (12 * i + c))) (M + 19) (96 + (12 * i + c)) = rn f M (12 * i + c) (i + 1) (M + 19) (96 + (12 * i + c)) := u2_a (by omega)
      have u19 : up2 (up2 (rn f M (12 * i + c) (i + 1)) (M + 18) (12 * i + c) (rn f M (12 * i + c) (i + 1) (M + 18) (96 + (12 * i + c)))) (M + 19) (12 * i + c) (rn f M (12 * i + c) (i + 1) (M + 19) (96 + (12 * i + c))) (M + 20) (96 + (12 * i + c)) = rn f M (12 * i + c) (i + 1) (M + 20) (96 + (12 * i + c)) := by rw [u2_a (by omega), u2_a (by omega)]
      rw [u18, u19] at this
      exact this
  have outer : ∀ k i : Nat, i + k = 8 → A_X12_renew_7 σ (rn f M (12 * i) i) g M v (i : Int) (il σ (rn f M 96 8) g, [vI v]) := by
    intro k
    induction k with
    | zero =>
      intro i hi
      obtain rfl : i = 8 := by omega
      exact bk_X12_renew_7 hm ⟨fun _ => rfl, fun e => absurd (by decide) e⟩
    | succ k ih =>
      intro i hi
      have e1 : (8 + (i : Int)).toNat = 8 + i := by omega
      refine bk_X12_renew_7 hm ⟨fun e => absurd e (by omega), fun _ => ⟨by omega, ?_⟩⟩
      rw [e1, show (i : Int).toNat = i from rfl, rn_y (by omega)]
      exact inner 12 i 0 rfl (by omega) _ (ih (i + 1) (by omega))
  have := outer 8 0 rfl
  rw [show 12 * 0 = 0 from rfl, rn_0] at this
  exact this
theorem c_renew {σ : St} {f : FI} {g : FL} {B : Nat} (hs : Sh11 σ B) (hm : Sh12 σ (B + 165)) {nn : Nat → Nat} (h : ITb f B nn) : ∃ nn' : Nat → Nat, ∃ (v : Int) (f1 f2 : FI), Ex mt 2 158 (il σ f g) [vR 11 (some B)] (il σ f1 g, [vI v]) ∧ Ex mt 2 247 (il σ f1 g) [vR 12 (some (B + 165))] (il σ f2 g, [vI v]) ∧ ITb f2 B nn' ∧ Fr (fun a k => (B + 45 ≤ a ∧ a < B + 141) ∨ (B + 165 + 18 ≤ a ∧ a ≤ B + 165 + 21)) f f2 := by
  obtain ⟨u, U, E⟩ := x_unlikeBoxes (g := g) hs.net h
  have u1 := U.1
  obtain ⟨f1, E1, T1, F1⟩ := x_takeNew (g := g) hs.net (fun t ht => (h t ht).1) U
  -- the model's count, at the state behind the class's
  have hM1 : ∀ b, B + 93 ≤ b → f1 b = f b := fun b hb => F1 b (Or.inr hb)
  have E2 : Ex mt 1 246 (il σ f1 g) [vR 12 (some (B + 165))] (il σ f1 g, [vI (cb 8 u : Int)]) := x_unlikeMany hm (h.ms.of fun b h1 h2 => hM1 b (by omega)) U
  refine ⟨fun t => if t < 8 then nn (8 + t) else nn t, (cb 8 u : Int), f1, rn f1 (B + 165) 96 8, bk_X11_renew_0 hs ⟨f, g, _, E, f1, g, E1, by omega, by rw [pcI_cb, cb_8_12 u1]⟩, bk_X12_renew_0 hm ⟨f1, g, _, E2, x_renewM hm⟩, fun t ht => ?_, fun a k hk => ?_⟩
  · have er : ∀ b, b < B + 165 + 18 → rn f1 (B + 165) 96 8 b = f1 b := fun b hb => by
      funext k
      unfold rn
      rw [if_neg (by omega), if_neg (by omega)]
    by_cases q : t < 8
    · simp only [if_pos q]
      obtain ⟨a1, a2⟩ := T1 t q
      have n12 := a1.1.2
      obtain ⟨-, tm⟩ := h (8 + t) (by omega)
      refine ⟨a1.of (by rw [er _ (by unfold tB; omega)]) (er _ (by unfold tB; omega)) (er _ (by unfold tB; omega)) (er _ (by unfold tB; omega)) (er _ (by unfold tB; omega)) (er _ (by unfold tB; omega)), ?_, fun k hk => ?_⟩
      · unfold rn
        rw [if_neg (by omega), if_pos (by omega), hM1 _ (by omega)]
        exact tm.1
      · obtain ⟨m1, m2, m3⟩ := tm.2 k hk
        obtain ⟨b1, b2, b3⟩ := a2 k hk
        rw [er (tB B t + 1) (by unfold tB; omega), er (tB B t + 2) (by unfold tB; omega), er (tB B t + 3) (by unfold tB; omega), b1, b2, b3, ← m1, ← m2, ← m3]
        unfold rn
        rw [if_pos (by omega), if_pos (by omega), if_pos (by omega), hM1 _ (by omega), hM1 _ (by omega), hM1 _ (by omega), show 96 + (12 * t + k) = 12 * (8 + t) + k by omega]
        exact ⟨rfl, rfl, rfl⟩
    · simp only [if_neg q]
      obtain ⟨tc, tm⟩ := h t ht
      have ef : ∀ d, d ≤ 5 → rn f1 (B + 165) 96 8 (tB B t + d) = f (tB B t + d) := fun d hd => by
        rw [er _ (by unfold tB; omega)]
        exact hM1 _ (by unfold tB; omega)
      refine ⟨tc.of (congrFun (ef 0 (by omega)) 3) (ef 1 (by omega)) (ef 2 (by omega)) (ef 3 (by omega)) (ef 4 (by omega)) (ef 5 (by omega)), tm.of ?_ (fun k hk => ?_) (fun k hk => by rw [ef 1 (by omega), ef 2 (by omega), ef 3 (by omega)]; exact ⟨rfl, rfl, rfl⟩)⟩
      · unfold rn
        rw [if_neg (by omega), if_neg (by omega), hM1 _ (by omega)]
      · unfold rn
        rw [if_neg (by omega), if_neg (by omega), if_neg (by omega), if_neg (by omega), if_neg (by omega), if_neg (by omega), hM1 _ (by omega), hM1 _ (by omega), hM1 _ (by omega)]
        exact ⟨rfl, rfl, rfl⟩
  · unfold rn
    rw [if_neg (by omega), if_neg (by omega), F1 a (by omega)]
