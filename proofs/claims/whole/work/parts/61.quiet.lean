/-! gap: sights, and whether all is quiet -/
/-- a row of sights: of each packet what it is seen to end as, and its steps till then -/
def Vw (G : Int → Int → Int) (t : Int) (E S : Nat → Int) : Prop := ∀ p : Nat, p < 512 → (1 ≤ S p ∧ S p ≤ 101) ∧ ∀ k : Nat, k ≤ 100 → sn G k t (p : Int) = if S p ≤ (k : Int) then E p else -3
theorem Vw.at {G : Int → Int → Int} {t : Int} {E S : Nat → Int} (h : Vw G t E S) {p : Nat} (hp : p < 512) : sn G 100 t (p : Int) = if S p ≤ 100 then E p else -3 := (h p hp).2 100 (by omega)
/-- a row of sights a tick earlier -/
theorem Vw.back {G : Int → Int → Int} {t : Int} {E S E' S' : Nat → Int} (h : Vw G (t + 1) E S) (h' : ∀ p : Nat, p < 512 → (pk (G t (p : Int)) → E' p = E (G t (p : Int)).toNat ∧ S' p = (if 100 < S (G t (p : Int)).toNat then 100 else S (G t (p : Int)).toNat) + 1) ∧ (¬ pk (G t (p : Int)) → E' p = endB_ (G t (p : Int)) ∧ S' p = 1)) : Vw G t E' S' := fun p hp => by
  by_cases z : pk (G t (p : Int))
  · obtain ⟨e1, e2⟩ := (h' p hp).1 z
    have hn := h (G t (p : Int)).toNat (by omega)
    have en : (((G t (p : Int)).toNat : Nat) : Int) = G t (p : Int) := by omega
    refine ⟨by rw [e2]; split <;> omega, fun k hk => ?_⟩
    cases k with
    | zero =>
      rw [if_neg (by rw [e2]; split <;> omega)]
      rfl
    | succ k =>
      rw [sn_s z, e1, e2]
      have := hn.2 k (by omega)
      rw [en] at this
      rw [this]
      by_cases y : S (G t (p : Int)).toNat ≤ (k : Int)
      · rw [if_pos y, if_pos (by split <;> omega)]
      · rw [if_neg y, if_neg (by split <;> omega)]
  · obtain ⟨e1, e2⟩ := (h' p hp).2 z
    refine ⟨by omega, fun k hk => ?_⟩
    cases k with
    | zero =>
      rw [if_neg (by rw [e2]; decide)]
      rfl
    | succ k => rw [sn_e z, e1, e2, if_pos (by omega)]
def A_X5_isQuietAhead_2 (σ : St) (f : FI) (g : FL) (n : Nat) (x1 : Nat) (x2 : Int) (r : St × List Vl) : Prop := ∀ (y3 : Option Vl), Gx mt 2 cd_X5_isQuietAhead (il σ f g) (cd_X5_isQuietAhead 2) [some (vR 5 (some (n + 101))), some (vR 14 (some x1)), some (vI x2), y3] [] r
theorem bk_X5_isQuietAhead_0 {σ : St} {f : FI} {g : FL} {n : Nat} {x1 : Nat} {r : St × List Vl} (hs : Sh5 σ n) (h : (A_X5_isQuietAhead_2 σ f g n x1 0 r)) : Ex mt 2 85 (il σ f g) [vR 5 (some (n + 101)), vR 14 (some x1)] r := Ex.mk mt_85 (show Gx mt 2 cd_X5_isQuietAhead (il σ f g) b_X5_isQuietAhead_0 [some (vR 5 (some (n + 101))), some (vR 14 (some x1)), none, none] [] r from (go_pushI rfl (go_stoI rfl rfl (go_fall (h _)))))
theorem bk_X5_isQuietAhead_2 {σ : St} {f : FI} {g : FL} {n : Nat} {x1 : Nat} {x2 : Int} {r : St × List Vl} (hs : Sh5 σ n) (h : ((512 ≤ x2 → (r = ((il σ f g), [vI 1]))) ∧ (¬ 512 ≤ x2 → ((-2147483648 ≤ (2 * x2) ∧ (2 * x2) ≤ 2147483647) ∧ (-2147483648 ≤ ((2 * x2) + 1) ∧ ((2 * x2) + 1) ≤ 2147483647) ∧ (0 ≤ ((2 * x2) + 1) ∧ ((2 * x2) + 1) < (ln σ x1 : Int))) ∧ (((f x1 ((((2 * x2) + 1)).toNat)) ≤ 100 → ((-2147483648 ≤ (2 * x2) ∧ (2 * x2) ≤ 2147483647) ∧ (0 ≤ (2 * x2) ∧ (2 * x2) < (ln σ x1 : Int))) ∧ ((0 ≤ x2 ∧ x2 < 512) ∧ (0 ≤ f n 2 ∧ f n 2 ≤ 255)) ∧ ((¬ ((hB (f n 2) (x2 / 64))) → ((-2147483648 ≤ (x2 + 1) ∧ (x2 + 1) ≤ 2147483647)) ∧ (A_X5_isQuietAhead_2 σ f g n x1 (x2 + 1) r)) ∧ (((hB (f n 2) (x2 / 64))) → (∃ (f10 : FI) (g11 : FL) (v13 : Int), Ex mt 0 76 (il σ f g) [vR 5 (some (n + 101)), vI x2, vI (f x1 (((2 * x2)).toNat))] ((il σ f10 g11), [vI v13]) ∧ ((v13 = 0 → ((-2147483648 ≤ (x2 + 1) ∧ (x2 + 1) ≤ 2147483647)) ∧ (A_X5_isQuietAhead_2 σ f10 g11 n x1 (x2 + 1) r)) ∧ (¬ v13 = 0 → (r = ((il σ f10 g11), [vI 0])))))))) ∧ (¬ (f x1 ((((2 * x2) + 1)).toNat)) ≤ 100 → ((0 ≤ x2 ∧ x2 < 512) ∧ (0 ≤ f n 2 ∧ f n 2 ≤ 255)) ∧ ((¬ ((hB (f n 2) (x2 / 64))) → ((-2147483648 ≤ (x2 + 1) ∧ (x2 + 1) ≤ 2147483647)) ∧ (A_X5_isQuietAhead_2 σ f g n x1 (x2 + 1) r)) ∧ (((hB (f n 2) (x2 / 64))) → (∃ (f22 : FI) (g23 : FL) (v25 : Int), Ex mt 0 76 (il σ f g) [vR 5 (some (n + 101)), vI x2, vI (-3)] ((il σ f22 g23), [vI v25]) ∧ ((v25 = 0 → ((-2147483648 ≤ (x2 + 1) ∧ (x2 + 1) ≤ 2147483647)) ∧ (A_X5_isQuietAhead_2 σ f22 g23 n x1 (x2 + 1) r)) ∧ (¬ v25 = 0 → (r = ((il σ f22 g23), [vI 0])))))))))))) : A_X5_isQuietAhead_2 σ f g n x1 x2 r := fun y3 => (show Gx mt 2 cd_X5_isQuietAhead (il σ f g) b_X5_isQuietAhead_2 [some (vR 5 (some (n + 101))), some (vR 14 (some x1)), some (vI x2), y3] [] r from (go_loadI rfl (go_pushI rfl (gq_icmp_ge (fun e3 => have h1 := h.1 e3; (go_pushI rfl (h1 ▸ (gq_retZ ⟨by decide, by decide⟩)))) (fun e3 => have h2 := h.2 e3; (go_loadA rfl (go_pushI rfl (go_loadI rfl (go_imul h2.1.1 (go_pushI rfl (go_iadd h2.1.2.1 (gi_iald h2.1.2.2 (go_pushI rfl (gq_icmp_le (fun e6 => have h4 := h2.2.1 e6; (go_loadA rfl (go_pushI rfl (go_loadI rfl (go_imul h4.1.1 (gi_iald h4.1.2 (go_fall (go_stoI rfl rfl (go_loadA rfl (gi_getR (Sh5.r0 hs) (go_loadI rfl (go_callV rfl rfl rfl (pu_isEntry (Sh5.o0 hs) h4.2.1.1 h4.2.1.2) (go_ifb_eq (fun e9 => have h7 := h4.2.2.1 e9; (go_iinc rfl h7.1 rfl (go_goto (h7.2 _)))) (fun e9 => have h8 := h4.2.2.2 e9; (go_loadA rfl (go_loadI rfl (go_loadI rfl (Exists.elim h8 fun f10 w17 => Exists.elim w17 fun g11 w18 => Exists.elim w18 fun v13 h12 => (go_callV rfl rfl rfl h12.1 (gq_if_eq (fun e16 => have h14 := h12.2.1 e16; (go_iinc rfl h14.1 rfl (go_goto (h14.2 _)))) (fun e16 => have h15 := h12.2.2 e16; (go_pushI rfl (h15 ▸ (gq_retZ ⟨by decide, by decide⟩)))))))))))))))))))))))) (fun e6 => have h5 := h2.2.2 e6; (go_pushI rfl (go_goto (go_stoI rfl rfl (go_loadA rfl (gi_getR (Sh5.r0 hs) (go_loadI rfl (go_callV rfl rfl rfl (pu_isEntry (Sh5.o0 hs) h5.1.1 h5.1.2) (go_ifb_eq (fun e21 => have h19 := h5.2.1 e21; (go_iinc rfl h19.1 rfl (go_goto (h19.2 _)))) (fun e21 => have h20 := h5.2.2 e21; (go_loadA rfl (go_loadI rfl (go_loadI rfl (Exists.elim h20 fun f22 w29 => Exists.elim w29 fun g23 w30 => Exists.elim w30 fun v25 h24 => (go_callV rfl rfl rfl h24.1 (gq_if_eq (fun e28 => have h26 := h24.2.1 e28; (go_iinc rfl h26.1 rfl (go_goto (h26.2 _)))) (fun e28 => have h27 := h24.2.2 e28; (go_pushI rfl (h27 ▸ (gq_retZ ⟨by decide, by decide⟩))))))))))))))))))))))))))))))))))
theorem x_quietAhead {σ : St} {f : FI} {g : FL} {B e : Nat} (hs : Sh5 σ (B + 43)) (hl : ln σ e = 1024) (hen : 0 ≤ f (B + 43) 2 ∧ f (B + 43) 2 ≤ 255) : ∃ v : Int, (v = 0 ∨ v = 1) ∧ (v = 1 ↔ ∀ p : Nat, p < 512 → En f B p → ((if f e (2 * p + 1) ≤ 100 then f e (2 * p) else -3) = f (B + 149) p ∨ (if f e (2 * p + 1) ≤ 100 then f e (2 * p) else -3) = f (B + 150) p)) ∧ Ex mt 2 85 (il σ f g) [vR 5 (some (B + 144)), vR 14 (some e)] (il σ f g, [vI v]) := by
  have loop : ∀ k i : Nat, i + k = 512 → (∀ p : Nat, p < i → En f B p → ((if f e (2 * p + 1) ≤ 100 then f e (2 * p) else -3) = f (B + 149) p ∨ (if f e (2 * p + 1) ≤ 100 then f e (2 * p) else -3) = f (B + 150) p)) → ∃ v : Int, (v = 0 ∨ v = 1) ∧ (v = 1 ↔ ∀ p : Nat, p < 512 → En f B p → ((if f e (2 * p + 1) ≤ 100 then f e (2 * p) else -3) = f (B + 149) p ∨ (if f e (2 * p + 1) ≤ 100 then f e (2 * p) else -3) = f (B + 150) p)) ∧ A_X5_isQuietAhead_2 σ f g (B + 43) e (i : Int) (il σ f g, [vI v]) := by
    intro k
    induction k with
    | zero =>
      intro i hi hj
      obtain rfl : i = 512 := by omega
      exact ⟨1, Or.inr rfl, ⟨fun _ => hj, fun _ => rfl⟩, bk_X5_isQuietAhead_2 hs ⟨fun _ => rfl, fun z => absurd (by decide) z⟩⟩
    | succ k ih =>
      intro i hi hj
      have i1 : (2 * (i : Int) + 1).toNat = 2 * i + 1 := by omega
      have i2 : (2 * (i : Int)).toNat = 2 * i := by omega
      have ob : ((0 : Int) ≤ (i : Int) ∧ (i : Int) < 512) ∧ ((0 : Int) ≤ f (B + 43) 2 ∧ f (B + 43) 2 ≤ 255) := ⟨by omega, hen⟩
      have ob1 : (-2147483648 ≤ 2 * (i : Int) ∧ 2 * (i : Int) ≤ 2147483647) ∧ (-2147483648 ≤ 2 * (i : Int) + 1 ∧ 2 * (i : Int) + 1 ≤ 2147483647) ∧ (0 ≤ 2 * (i : Int) + 1 ∧ 2 * (i : Int) + 1 < (ln σ e : Int)) := by rw [hl]; omega
      have ob2 : (-2147483648 ≤ 2 * (i : Int) ∧ 2 * (i : Int) ≤ 2147483647) ∧ (0 ≤ 2 * (i : Int) ∧ 2 * (i : Int) < (ln σ e : Int)) := by rw [hl]; omega
      -- one packet: what the rest says of it
      have one : ∃ v : Int, (v = 0 ∨ v = 1) ∧ (v = 1 ↔ ∀ p : Nat, p < 512 → En f B p → ((if f e (2 * p + 1) ≤ 100 then f e (2 * p) else -3) = f (B + 149) p ∨ (if f e (2 * p + 1) ≤ 100 then f e (2 * p) else -3) = f (B + 150) p)) ∧ ((En f B (i : Int) → ¬ ((if f e (2 * i + 1) ≤ 100 then f e (2 * i) else -3) = f (B + 149) i ∨ (if f e (2 * i + 1) ≤ 100 then f e (2 * i) else -3) = f (B + 150) i) → v = 0) ∧ ((En f B (i : Int) → ((if f e (2 * i + 1) ≤ 100 then f e (2 * i) else -3) = f (B + 149) i ∨ (if f e (2 * i + 1) ≤ 100 then f e (2 * i) else -3) = f (B + 150) i)) → A_X5_isQuietAhead_2 σ f g (B + 43) e ((i : Int) + 1) (il σ f g, [vI v]))) := by
        by_cases ok : En f B (i : Int) → ((if f e (2 * i + 1) ≤ 100 then f e (2 * i) else -3) = f (B + 149) i ∨ (if f e (2 * i + 1) ≤ 100 then f e (2 * i) else -3) = f (B + 150) i)
        · obtain ⟨v, v1, v2, A⟩ := ih (i + 1) (by omega) fun p hp hE => by
            by_cases z : p = i
            · subst z; exact ok hE
            · exact hj p (by omega) hE
          exact ⟨v, v1, v2, fun hE y => absurd (ok hE) y, fun _ => A⟩
        · exact ⟨0, Or.inl rfl, ⟨fun z => absurd z (by decide), fun z => absurd (fun hE => z i (by omega) hE) ok⟩, fun _ _ => rfl, fun z => absurd z ok⟩
      obtain ⟨v, v1, v2, v3, v4⟩ := one
      refine ⟨v, v1, v2, bk_X5_isQuietAhead_2 hs ⟨fun z => absurd z (by omega), fun _ => ⟨ob1, ?_⟩⟩⟩
      rw [i1, i2]
      by_cases hE : En f B (i : Int)
      · by_cases h1 : f e (2 * i + 1) ≤ 100
        · rw [if_pos h1] at v3 v4
          have N := x_neiC (σ := σ) (f := f) (g := g) (p := (i : Int)) (v := f e (2 * i)) hs (by omega)
          refine ⟨fun _ => ⟨ob2, ob, fun z => absurd hE z, fun _ => ⟨f, g, _, N, fun z => ⟨by omega, v4 fun _ => ?_⟩, fun z => ?_⟩⟩, fun z => absurd h1 z⟩
          · have := (bI_0 _).mp z
            exact Classical.byContradiction fun y => this ⟨fun a => y (Or.inl a), fun a => y (Or.inr a)⟩
          · rw [v3 hE fun y => z (bI_f fun a => y.elim a.1 a.2)]
        · rw [if_neg h1] at v3 v4
          have N := x_neiC (σ := σ) (f := f) (g := g) (p := (i : Int)) (v := -3) hs (by omega)
          refine ⟨fun z => absurd z h1, fun _ => ⟨ob, fun z => absurd hE z, fun _ => ⟨f, g, _, N, fun z => ⟨by omega, v4 fun _ => ?_⟩, fun z => ?_⟩⟩⟩
          · have := (bI_0 _).mp z
            exact Classical.byContradiction fun y => this ⟨fun a => y (Or.inl a), fun a => y (Or.inr a)⟩
          · rw [v3 hE fun y => z (bI_f fun a => y.elim a.1 a.2)]
      · have A := v4 fun z => absurd z hE
        exact ⟨fun _ => ⟨ob2, ob, fun _ => ⟨by omega, A⟩, fun z => absurd z hE⟩, fun _ => ⟨ob, fun _ => ⟨by omega, A⟩, fun z => absurd z hE⟩⟩
  obtain ⟨v, v1, v2, A⟩ := loop 512 0 rfl fun p hp => absurd hp (Nat.not_lt_zero p)
  exact ⟨v, v1, v2, bk_X5_isQuietAhead_0 hs A⟩
