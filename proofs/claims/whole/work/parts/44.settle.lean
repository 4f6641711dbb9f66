/-! the ends of all packets: settle, fillEnds -/
theorem bk_X3_isEntry_0 {σ : St} {f : FI} {g : FL} {a : Nat} {x1 : Int} {r : St × List Vl} (hs : Sh3 σ a) (h : ((-2147483648 ≤ x1 ∧ x1 ≤ 2147483647) ∧ (-2147483648 ≤ (f a 2) ∧ (f a 2) ≤ 2147483647) ∧ (0 ≤ (x1 / 64) ∧ (x1 / 64) < 32)) ∧ (r = ((il σ f g), [vI (bI (hB (f a 2) (x1 / 64)))]))) : Ex mt 1 38 (il σ f g) [vR 3 (some a), vI x1] r := Ex.mk mt_38 (show Gx mt 1 cd_X3_isEntry (il σ f g) b_X3_isEntry_0 [some (vR 3 (some a)), some (vI x1)] [] r from (go_loadA rfl (gi_getI (go_loadI rfl (go_pushI rfl (go_ishr (iShr_6 h.1.1) (go_callS rfl rfl rfl (pu_hasBit h.1.2.1 h.1.2.2) (h.2 ▸ (gq_retZ (bI_01 _))))))))))
theorem bk_X12_enters_0 {σ : St} {f : FI} {g : FL} {a : Nat} {x1 : Int} {r : St × List Vl} (hs : Sh12 σ a) (h : ((-2147483648 ≤ x1 ∧ x1 ≤ 2147483647) ∧ (-2147483648 ≤ (f a 33) ∧ (f a 33) ≤ 2147483647) ∧ (0 ≤ (x1 / 64) ∧ (x1 / 64) < 32)) ∧ ((¬ (((f a 33) / p2 (x1 / 64)) % 2) = 1 → (r = ((il σ f g), [vI 0]))) ∧ ((((f a 33) / p2 (x1 / 64)) % 2) = 1 → (r = ((il σ f g), [vI 1]))))) : Ex mt 0 258 (il σ f g) [vR 12 (some a), vI x1] r := Ex.mk mt_258 (show Gx mt 0 cd_X12_enters (il σ f g) b_X12_enters_0 [some (vR 12 (some a)), some (vI x1)] [] r from (go_loadA rfl (gi_getI (go_loadI rfl (go_pushI rfl (go_ishr (iShr_6 h.1.1) (go_ishr (iShr_v h.1.2.1 h.1.2.2) (go_pushI rfl (go_iand (iAnd_m1 _) (go_pushI rfl (gq_icmp_ne (fun e3 => have h1 := h.2.1 e3; (go_pushI rfl (go_fall (h1 ▸ (gq_retZ ⟨by decide, by decide⟩))))) (fun e3 => have h2 := h.2.2 e3; (go_pushI rfl (go_goto (h2 ▸ (gq_retZ ⟨by decide, by decide⟩))))))))))))))))
theorem pu_isEntry {σ : St} {f : FI} {g : FL} {a : Nat} {p : Int} (hs : Sh3 σ a) (hp : 0 ≤ p ∧ p < 512) (he : 0 ≤ f a 2 ∧ f a 2 ≤ 255) : Ex mt 1 38 (il σ f g) [vR 3 (some a), vI p] (il σ f g, [vI (bI (hB (f a 2) (p / 64)))]) := bk_X3_isEntry_0 hs ⟨⟨by omega, by omega, by omega⟩, rfl⟩
theorem pu_enters {σ : St} {f : FI} {g : FL} {a : Nat} {p : Int} (hs : Sh12 σ a) (hp : 0 ≤ p ∧ p < 512) (he : 0 ≤ f a 33 ∧ f a 33 ≤ 255) : Ex mt 0 258 (il σ f g) [vR 12 (some a), vI p] (il σ f g, [vI (bI (hB (f a 33) (p / 64)))]) := bk_X12_enters_0 hs ⟨⟨by omega, by omega, by omega⟩, fun e => by rw [bI_f e], fun e => by rw [bI_t e]⟩
def A_X3_settle_6 (σ : St) (f : FI) (g : FL) (a : Nat) (x1 : Int) (x2 : Int) (x3 : Nat) (x4 : Int) (x5 : Int) (r : St × List Vl) : Prop := ∀ (y6 : Option Vl), Gx mt 2 cd_X3_settle (il σ f g) (cd_X3_settle 6) [some (vR 3 (some a)), some (vI x1), some (vI x2), some (vR 14 (some x3)), some (vI x4), some (vI x5), y6] [] r
def A_X3_settle_99 (σ : St) (f : FI) (g : FL) (a : Nat) (x2 : Int) (x3 : Nat) (x4 : Int) (x5 : Int) (x6 : Int) (r : St × List Vl) : Prop := ∀ (y1 : Int), Gx mt 2 cd_X3_settle (il σ f g) (cd_X3_settle 99) [some (vR 3 (some a)), some (vI y1), some (vI x2), some (vR 14 (some x3)), some (vI x4), some (vI x5), some (vI x6)] [] r
theorem bk_X3_settle_0 {σ : St} {f : FI} {g : FL} {a : Nat} {x1 : Int} {x2 : Int} {x3 : Nat} {r : St × List Vl} (hs : Sh3 σ a) (h : (A_X3_settle_6 σ f g a x1 x2 x3 x1 0 r)) : Ex mt 2 47 (il σ f g) [vR 3 (some a), vI x1, vI x2, vR 14 (some x3)] r := Ex.mk mt_47 (show Gx mt 2 cd_X3_settle (il σ f g) b_X3_settle_0 [some (vR 3 (some a)), some (vI x1), some (vI x2), some (vR 14 (some x3)), none, none, none] [] r from (go_loadI rfl (go_stoI rfl rfl (go_pushI rfl (go_stoI rfl rfl (go_fall (h _)))))))
theorem bk_X3_settle_6 {σ : St} {f : FI} {g : FL} {a : Nat} {x1 : Int} {x2 : Int} {x3 : Nat} {x4 : Int} {x5 : Int} {r : St × List Vl} (hs : Sh3 σ a) (h : ((512 ≤ x5 → ((((0 ≤ x4 ∧ x4 < 512)) → ((0 ≤ x4 ∧ x4 < (ln σ x3 : Int))) ∧ ((¬ (f x3 ((x4).toNat)) = (-8) → ((0 ≤ x4 ∧ x4 < (ln σ x3 : Int))) ∧ (A_X3_settle_99 σ f g a x2 x3 x1 (f x3 ((x4).toNat)) 0 r)) ∧ ((f x3 ((x4).toNat)) = (-8) → (A_X3_settle_99 σ f g a x2 x3 x1 (-3) 0 r)))) ∧ (¬ ((0 ≤ x4 ∧ x4 < 512)) → (x4 ≤ 2147483647) ∧ (A_X3_settle_99 σ f g a x2 x3 x1 (endB_ x4) 0 r)))) ∧ (¬ 512 ≤ x5 → ((¬ ((0 ≤ x4 ∧ x4 < 512)) → ((((0 ≤ x4 ∧ x4 < 512)) → ((0 ≤ x4 ∧ x4 < (ln σ x3 : Int))) ∧ ((¬ (f x3 ((x4).toNat)) = (-8) → ((0 ≤ x4 ∧ x4 < (ln σ x3 : Int))) ∧ (A_X3_settle_99 σ f g a x2 x3 x1 (f x3 ((x4).toNat)) 0 r)) ∧ ((f x3 ((x4).toNat)) = (-8) → (A_X3_settle_99 σ f g a x2 x3 x1 (-3) 0 r)))) ∧ (¬ ((0 ≤ x4 ∧ x4 < 512)) → (x4 ≤ 2147483647) ∧ (A_X3_settle_99 σ f g a x2 x3 x1 (endB_ x4) 0 r)))) ∧ (((0 ≤ x4 ∧ x4 < 512)) → ((0 ≤ x4 ∧ x4 < (ln σ x3 : Int))) ∧ ((¬ (f x3 ((x4).toNat)) = (-9) → ((((0 ≤ x4 ∧ x4 < 512)) → ((0 ≤ x4 ∧ x4 < (ln σ x3 : Int))) ∧ ((¬ (f x3 ((x4).toNat)) = (-8) → ((0 ≤ x4 ∧ x4 < (ln σ x3 : Int))) ∧ (A_X3_settle_99 σ f g a x2 x3 x1 (f x3 ((x4).toNat)) 0 r)) ∧ ((f x3 ((x4).toNat)) = (-8) → (A_X3_settle_99 σ f g a x2 x3 x1 (-3) 0 r)))) ∧ (¬ ((0 ≤ x4 ∧ x4 < 512)) → (x4 ≤ 2147483647) ∧ (A_X3_settle_99 σ f g a x2 x3 x1 (endB_ x4) 0 r)))) ∧ ((f x3 ((x4).toNat)) = (-9) → ((0 ≤ x4 ∧ x4 < (ln σ x3 : Int)) ∧ (0 ≤ x4 ∧ x4 < 512) ∧ (-2147483648 ≤ x2 ∧ x2 ≤ 2147483647)) ∧ (∃ (f28 : FI) (g29 : FL) (v31 : Int), Ex mt 1 39 (il σ (up2 f x3 ((x4).toNat) (-8)) g) [vR 3 (some a), vI x4, vI (x2 / p2 (x4 / 64) % 2)] ((il σ f28 g29), [vI v31]) ∧ ((-2147483648 ≤ (x5 + 1) ∧ (x5 + 1) ≤ 2147483647)) ∧ (A_X3_settle_6 σ f28 g29 a x1 x2 x3 v31 (x5 + 1) r))))))))) : A_X3_settle_6 σ f g a x1 x2 x3 x4 x5 r := fun y6 => (show Gx mt 2 cd_X3_settle (il σ f g) b_X3_settle_6 [some (vR 3 (some a)), some (vI x1), some (vI x2), some (vR 14 (some x3)), some (vI x4), some (vI x5), y6] [] r from (go_loadI rfl (go_pushI rfl (gq_icmp_ge (fun e3 => have h1 := h.1 e3; (go_loadI rfl (go_callS rfl rfl rfl (pu_goesOn) (go_ifb_ne (fun e6 => have h4 := h1.1 e6; (go_loadA rfl (go_loadI rfl (gi_iald h4.1 (go_pushI rfl (gq_icmp_ne (fun e9 => have h7 := h4.2.1 e9; (go_loadA rfl (go_loadI rfl (gi_iald h7.1 (go_fall (go_stoI rfl rfl (go_loadI rfl (go_stoI rfl rfl (go_pushI rfl (go_stoI rfl rfl (go_fall (h7.2 _)))))))))))) (fun e9 => have h8 := h4.2.2 e9; (go_pushI rfl (go_goto (go_stoI rfl rfl (go_loadI rfl (go_stoI rfl rfl (go_pushI rfl (go_stoI rfl rfl (go_fall (h8 _)))))))))))))))) (fun e6 => have h5 := h1.2 e6; (go_loadI rfl (go_callS rfl rfl rfl (pu_endBy h5.1) (go_goto (go_stoI rfl rfl (go_loadI rfl (go_stoI rfl rfl (go_pushI rfl (go_stoI rfl rfl (go_fall (h5.2 _))))))))))))))) (fun e3 => have h2 := h.2 e3; (go_loadI rfl (go_callS rfl rfl rfl (pu_goesOn) (go_ifb_eq (fun e12 => have h10 := h2.1 e12; (go_loadI rfl (go_callS rfl rfl rfl (pu_goesOn) (go_ifb_ne (fun e15 => have h13 := h10.1 e15; (go_loadA rfl (go_loadI rfl (gi_iald h13.1 (go_pushI rfl (gq_icmp_ne (fun e18 => have h16 := h13.2.1 e18; (go_loadA rfl (go_loadI rfl (gi_iald h16.1 (go_fall (go_stoI rfl rfl (go_loadI rfl (go_stoI rfl rfl (go_pushI rfl (go_stoI rfl rfl (go_fall (h16.2 _)))))))))))) (fun e18 => have h17 := h13.2.2 e18; (go_pushI rfl (go_goto (go_stoI rfl rfl (go_loadI rfl (go_stoI rfl rfl (go_pushI rfl (go_stoI rfl rfl (go_fall (h17 _)))))))))))))))) (fun e15 => have h14 := h10.2 e15; (go_loadI rfl (go_callS rfl rfl rfl (pu_endBy h14.1) (go_goto (go_stoI rfl rfl (go_loadI rfl (go_stoI rfl rfl (go_pushI rfl (go_stoI rfl rfl (go_fall (h14.2 _))))))))))))))) (fun e12 => have h11 := h2.2 e12; (go_loadA rfl (go_loadI rfl (gi_iald h11.1 (go_pushI rfl (gq_icmp_ne (fun e21 => have h19 := h11.2.1 e21; (go_loadI rfl (go_callS rfl rfl rfl (pu_goesOn) (go_ifb_ne (fun e24 => have h22 := h19.1 e24; (go_loadA rfl (go_loadI rfl (gi_iald h22.1 (go_pushI rfl (gq_icmp_ne (fun e27 => have h25 := h22.2.1 e27; (go_loadA rfl (go_loadI rfl (gi_iald h25.1 (go_fall (go_stoI rfl rfl (go_loadI rfl (go_stoI rfl rfl (go_pushI rfl (go_stoI rfl rfl (go_fall (h25.2 _)))))))))))) (fun e27 => have h26 := h22.2.2 e27; (go_pushI rfl (go_goto (go_stoI rfl rfl (go_loadI rfl (go_stoI rfl rfl (go_pushI rfl (go_stoI rfl rfl (go_fall (h26 _)))))))))))))))) (fun e24 => have h23 := h19.2 e24; (go_loadI rfl (go_callS rfl rfl rfl (pu_endBy h23.1) (go_goto (go_stoI rfl rfl (go_loadI rfl (go_stoI rfl rfl (go_pushI rfl (go_stoI rfl rfl (go_fall (h23.2 _))))))))))))))) (fun e21 => have h20 := h11.2.2 e21; (go_loadA rfl (go_loadI rfl (go_pushI rfl (gi_iast h20.1.1 (go_loadA rfl (go_loadI rfl (go_loadI rfl (go_loadI rfl (go_callS rfl rfl rfl (pu_versionOf h20.1.2.1 h20.1.2.2) (Exists.elim h20.2 fun f28 w32 => Exists.elim w32 fun g29 w33 => Exists.elim w33 fun v31 h30 => (go_callV rfl rfl rfl h30.1 (go_stoI rfl rfl (go_iinc rfl h30.2.1 rfl (go_goto (h30.2.2 _))))))))))))))))))))))))))))))
theorem bk_X3_settle_99 {σ : St} {f : FI} {g : FL} {a : Nat} {x2 : Int} {x3 : Nat} {x4 : Int} {x5 : Int} {x6 : Int} {r : St × List Vl} (hs : Sh3 σ a) (h : ((512 ≤ x6 → (r = ((il σ f g), []))) ∧ (¬ 512 ≤ x6 → ((¬ ((0 ≤ x4 ∧ x4 < 512)) → (r = ((il σ f g), []))) ∧ (((0 ≤ x4 ∧ x4 < 512)) → ((0 ≤ x4 ∧ x4 < (ln σ x3 : Int))) ∧ ((¬ (f x3 ((x4).toNat)) = (-8) → (r = ((il σ f g), []))) ∧ ((f x3 ((x4).toNat)) = (-8) → ((0 ≤ x4 ∧ x4 < (ln σ x3 : Int)) ∧ (0 ≤ x4 ∧ x4 < 512) ∧ (-2147483648 ≤ x2 ∧ x2 ≤ 2147483647)) ∧ (∃ (f10 : FI) (g11 : FL) (v13 : Int), Ex mt 1 39 (il σ (up2 f x3 ((x4).toNat) x5) g) [vR 3 (some a), vI x4, vI (x2 / p2 (x4 / 64) % 2)] ((il σ f10 g11), [vI v13]) ∧ ((-2147483648 ≤ (x6 + 1) ∧ (x6 + 1) ≤ 2147483647)) ∧ (A_X3_settle_99 σ f10 g11 a x2 x3 v13 x5 (x6 + 1) r))))))))) : A_X3_settle_99 σ f g a x2 x3 x4 x5 x6 r := fun y1 => (show Gx mt 2 cd_X3_settle (il σ f g) b_X3_settle_99 [some (vR 3 (some a)), some (vI y1), some (vI x2), some (vR 14 (some x3)), some (vI x4), some (vI x5), some (vI x6)] [] r from (go_loadI rfl (go_pushI rfl (gq_icmp_ge (fun e3 => have h1 := h.1 e3; (h1 ▸ gq_retV)) (fun e3 => have h2 := h.2 e3; (go_loadI rfl (go_callS rfl rfl rfl (pu_goesOn) (go_ifb_eq (fun e6 => have h4 := h2.1 e6; (h4 ▸ gq_retV)) (fun e6 => have h5 := h2.2 e6; (go_loadA rfl (go_loadI rfl (gi_iald h5.1 (go_pushI rfl (gq_icmp_ne (fun e9 => have h7 := h5.2.1 e9; (h7 ▸ gq_retV)) (fun e9 => have h8 := h5.2.2 e9; (go_loadA rfl (go_loadI rfl (go_loadI rfl (gi_iast h8.1.1 (go_loadA rfl (go_loadI rfl (go_loadI rfl (go_loadI rfl (go_callS rfl rfl rfl (pu_versionOf h8.1.2.1 h8.1.2.2) (Exists.elim h8.2 fun f10 w14 => Exists.elim w14 fun g11 w15 => Exists.elim w15 fun v13 h12 => (go_callV rfl rfl rfl h12.1 (go_stoI rfl rfl (go_iinc rfl h12.2.1 rfl (go_goto (h12.2.2 _))))))))))))))))))))))))))))))
theorem x_settle {σ : St} {f : FI} {g : FL} {B e : Nat} {nn : Nat → Nat} {b p : Int} (hs : Sh3 σ (B + 43)) (hl : ln σ e = 512) (he : e < B + 45 ∨ B + 141 ≤ e) (hp : pk p) (hb : 0 ≤ b ∧ b ≤ 255) (hT : TCs f B nn) (hE : ∀ q : Nat, q < 512 → f e q = -9 ∨ f e q = enD (GB f g B b) (q : Int)) (h9 : f e p.toNat = -9) : ∃ f' : FI, Ex mt 2 47 (il σ f g) [vR 3 (some (B + 43)), vI p, vI b, vR 14 (some e)] (il σ f' g, []) ∧ (∀ a, a ≠ e → f' a = f a) ∧ (∀ q : Nat, q < 512 → f' e q = -9 ∨ f' e q = enD (GB f g B b) (q : Int)) ∧ (∀ q : Nat, q < 512 → f e q ≠ -9 → f' e q = f e q) ∧ f' e p.toNat = enD (GB f g B b) p := by
  have hrg : ∀ q : Int, pk q → enD (GB f g B b) q = -3 ∨ enD (GB f g B b) q = -2 ∨ pk (enD (GB f g B b) q) := fun q hq => enD_rg hq fun x hx => GB_rg hT hx
  have hgr : ∀ q : Int, pk q → GB f g B b q = -2 ∨ (0 ≤ GB f g B b q ∧ GB f g B b q < 1024) := fun q hq => GB_rg hT hq
  have hstep : ∀ (fi : FI) (q : Int), pk q → (∀ a, a ≠ e → fi a = f a) → Ex mt 1 39 (il σ fi g) [vR 3 (some (B + 43)), vI q, vI (b / p2 (q / 64) % 2)] (il σ fi g, [vI (GB f g B b q)]) := fun fi q hq hfi => by
    have eT : SameT f fi B := fun a h1 h2 => hfi a (by omega)
    have := x_stepB (g := g) (b := b) hs hq (hT.of eT)
    rw [GB_of hq eT rfl] at this
    exact this
  generalize hG : GB f g B b = G at *
  have hen := hrg p hp
  -- the second going
  have back : ∀ (m : Nat), m ≤ 512 → (∀ i, i < m → pk (itr G p i)) → (∀ i j, i < j → j < m → itr G p i ≠ itr G p j) → (m = 512 ∨ ¬ pk (itr G p m) ∨ (∃ i, i < m ∧ itr G p i = itr G p m) ∨ (pk (itr G p m) ∧ f e (itr G p m).toNat ≠ -8)) → ∀ k j : Nat, j + k = m → ∀ fj : FI, (∀ a, a ≠ e → fj a = f a) → (∀ i, i < j → fj e (itr G p i).toNat = enD G p) → (∀ i, j ≤ i → i < m → fj e (itr G p i).toNat = -8) → (∀ q : Nat, q < 512 → (∀ i, i < m → itr G p i ≠ (q : Int)) → fj e q = f e q) → ∃ f' : FI, A_X3_settle_99 σ fj g (B + 43) b e (itr G p j) (enD G p) (j : Int) (il σ f' g, []) ∧ (∀ a, a ≠ e → f' a = f a) ∧ (∀ i, i < m → f' e (itr G p i).toNat = enD G p) ∧ (∀ q : Nat, q < 512 → (∀ i, i < m → itr G p i ≠ (q : Int)) → f' e q = f e q) := by
    intro m hm512 m1 m2 m3 k
    induction k with
    | zero =>
      intro j hj fj a1 a2 a3 a4
      obtain rfl : j = m := by omega
      refine ⟨fj, bk_X3_settle_99 hs ⟨fun _ => rfl, fun e5 => ⟨fun _ => rfl, fun hpk => ⟨by omega, fun _ => rfl, fun e8 => ?_⟩⟩⟩, a1, a2, a4⟩
      exfalso
      rcases m3 with z | z | ⟨i, i1, i2⟩ | ⟨z1, z2⟩
      · omega
      · exact z hpk
      · have := a2 i i1
        rw [i2, e8] at this
        omega
      · by_cases w : ∃ i, i < j ∧ itr G p i = itr G p j
        · obtain ⟨i, i1, i2⟩ := w
          have := a2 i i1
          rw [i2, e8] at this
          omega
        · have := a4 (itr G p j).toNat (by omega) (fun i hi e => w ⟨i, hi, by rw [e]; omega⟩)
          rw [e8] at this
          exact z2 this.symm
    | succ k ih =>
      intro j hj fj a1 a2 a3 a4
      have pj := m1 j (by omega)
      have e8 := a3 j (Nat.le_refl _) (by omega)
      have es : itr G p (j + 1) = G (itr G p j) := itr_s pj
      obtain ⟨f', A, B1⟩ := ih (j + 1) (by omega) (up2 fj e (itr G p j).toNat (enD G p)) (fun a ha => by rw [up2_ne ha]; exact a1 a ha) (fun i hi => by
          by_cases z : i = j
          · rw [z, u2_s]
          · have d := m2 i j (by omega) (by omega)
            have pi := m1 i (by omega)
            rw [u2_i (by omega)]
            exact a2 i (by omega)) (fun i hi1 hi2 => by
          have d := m2 j i (by omega) hi2
          have pi := m1 i hi2
          rw [u2_i (by omega)]
          exact a3 i (by omega) hi2) (fun q hq hd => by
          have := hd j (by omega)
          rw [u2_i (by omega)]
          exact a4 q hq hd)
      rw [es] at A
      exact ⟨f', bk_X3_settle_99 hs ⟨fun e5 => absurd e5 (by omega), fun _ => ⟨fun e => absurd pj e, fun _ => ⟨by omega, fun e => absurd e8 e, fun _ => ⟨⟨by omega, by omega, by omega⟩, _, g, _, hstep _ _ pj (fun a ha => by rw [up2_ne ha]; exact a1 a ha), by omega, A⟩⟩⟩⟩, B1⟩
  -- what the end of the first going gives
  have turn : ∀ (m : Nat) (fi : FI), m ≤ 512 → (∀ i, i < m → pk (itr G p i)) → (∀ i j, i < j → j < m → itr G p i ≠ itr G p j) → (∀ a, a ≠ e → fi a = f a) → (∀ i, i < m → fi e (itr G p i).toNat = -8 ∧ f e (itr G p i).toNat = -9) → (∀ q : Nat, q < 512 → (∀ i, i < m → itr G p i ≠ (q : Int)) → fi e q = f e q) → 0 < m → (m = 512 ∨ ¬ pk (itr G p m) ∨ (pk (itr G p m) ∧ fi e (itr G p m).toNat ≠ -9)) → (((0 ≤ itr G p m ∧ itr G p m < 512) → ((0 ≤ itr G p m ∧ itr G p m < (ln σ e : Int)) ∧ ((¬ fi e (itr G p m).toNat = -8 → ((0 ≤ itr G p m ∧ itr G p m < (ln σ e : Int)) ∧ fi e (itr G p m).toNat = enD G p)) ∧ (fi e (itr G p m).toNat = -8 → enD G p = -3)))) ∧ (¬ (0 ≤ itr G p m ∧ itr G p m < 512) → (itr G p m ≤ 2147483647 ∧ enD G p = endB_ (itr G p m)))) ∧ (m = 512 ∨ ¬ pk (itr G p m) ∨ (∃ i, i < m ∧ itr G p i = itr G p m) ∨ (pk (itr G p m) ∧ f e (itr G p m).toNat ≠ -8)) := by
    intro m fi hm m1 m2 a1 a2 a3 m0 hst
    have hne8 : ∀ q : Nat, q < 512 → f e q ≠ -8 := fun q hq z => by
      rcases hE q hq with w | w
      · omega
      · have := hrg (q : Int) (by omega)
        omega
    refine ⟨⟨fun hpk => ⟨by omega, fun h8 => ⟨by omega, ?_⟩, fun h8 => ?_⟩, fun hpk => ⟨?_, enD_out hpk⟩⟩, ?_⟩
    · by_cases w : ∃ i, i < m ∧ itr G p i = itr G p m
      · obtain ⟨i, i1, i2⟩ := w
        have := (a2 i i1).1
        rw [i2] at this
        exact absurd this h8
      · have e9 := a3 (itr G p m).toNat (by omega) (fun i hi e => w ⟨i, hi, by rw [e]; omega⟩)
        rcases hst with z | z | ⟨z1, z2⟩
        · exfalso
          have : 513 ≤ 512 := itr_many (G := G) (p := p) (fun i hi => by
              by_cases y : i = 512
              · rw [y, ← z]; exact hpk
              · exact m1 i (by omega)) (fun i j hij hj => by
              by_cases y : j = 512
              · subst y
                exact fun e => w ⟨i, by omega, by rw [e, z]⟩
              · exact m2 i j hij (by omega))
          omega
        · exact absurd hpk z
        · rw [e9] at z2 ⊢
          rcases hE (itr G p m).toNat (by omega) with y | y
          · exact absurd y z2
          · rw [y, show (((itr G p m).toNat : Nat) : Int) = itr G p m by omega, enD_itr hpk]
    · have w : ∃ i, i < m ∧ itr G p i = itr G p m := Classical.byContradiction fun w => by
        have e9 := a3 (itr G p m).toNat (by omega) (fun i hi e => w ⟨i, hi, by rw [e]; omega⟩)
        rw [e9] at h8
        exact hne8 _ (by omega) h8
      obtain ⟨i, i1, i2⟩ := w
      exact enD_rep i1 hpk i2
    · have := hgr (itr G p (m - 1)) (m1 (m - 1) (by omega))
      have es : itr G p m = G (itr G p (m - 1)) := by
        have := itr_s (m1 (m - 1) (by omega))
        rw [show m - 1 + 1 = m by omega] at this
        exact this
      omega
    · by_cases hpk : pk (itr G p m)
      · exact Or.inr (Or.inr (Or.inr ⟨hpk, hne8 _ (by omega)⟩))
      · exact Or.inr (Or.inl hpk)
  have forth : ∀ k m : Nat, m + k = 512 → ∀ fi : FI, (∀ i, i < m → pk (itr G p i)) → (∀ i j, i < j → j < m → itr G p i ≠ itr G p j) → (∀ a, a ≠ e → fi a = f a) → (∀ i, i < m → fi e (itr G p i).toNat = -8 ∧ f e (itr G p i).toNat = -9) → (∀ q : Nat, q < 512 → (∀ i, i < m → itr G p i ≠ (q : Int)) → fi e q = f e q) → (m = 0 → fi = f) → ∃ (f' : FI) (M : Nat), 0 < M ∧ M ≤ 512 ∧ (∀ i, i < M → pk (itr G p i)) ∧ A_X3_settle_6 σ fi g (B + 43) p b e (itr G p m) (m : Int) (il σ f' g, []) ∧ (∀ a, a ≠ e → f' a = f a) ∧ (∀ i, i < M → f' e (itr G p i).toNat = enD G p ∧ f e (itr G p i).toNat = -9) ∧ (∀ q : Nat, q < 512 → (∀ i, i < M → itr G p i ≠ (q : Int)) → f' e q = f e q) := by
    intro k
    induction k with
    | zero =>
      intro m hm fi m1 m2 a1 a2 a3 a0
      obtain rfl : m = 512 := by omega
      obtain ⟨⟨t1, t2⟩, t3⟩ := turn 512 fi (Nat.le_refl _) m1 m2 a1 a2 a3 (by decide) (Or.inl rfl)
      obtain ⟨f', A, b1, b2, b3⟩ := back 512 (Nat.le_refl _) m1 m2 t3 512 0 rfl fi a1 (fun i hi => absurd hi (Nat.not_lt_zero i)) (fun i _ hi => (a2 i hi).1) a3
      refine ⟨f', 512, by decide, Nat.le_refl _, m1, bk_X3_settle_6 hs ⟨fun _ => ⟨fun hpk => ⟨(t1 hpk).1, fun h8 => ⟨(t1 hpk).1, ?_⟩, fun h8 => ?_⟩, fun hpk => ⟨(t2 hpk).1, ?_⟩⟩, fun e5 => absurd (by decide) e5⟩, b1, fun i hi => ⟨b2 i hi, (a2 i hi).2⟩, b3⟩
      · rw [((t1 hpk).2.1 h8).2]
        exact A
      · rw [(t1 hpk).2.2 h8] at A
        exact A
      · rw [← (t2 hpk).2]
        exact A
    | succ k ih =>
      intro m hm fi m1 m2 a1 a2 a3 a0
      by_cases hgo : pk (itr G p m) ∧ fi e (itr G p m).toNat = -9
      · obtain ⟨pm, h9m⟩ := hgo
        have es : itr G p (m + 1) = G (itr G p m) := itr_s pm
        have dm : ∀ i, i < m → itr G p i ≠ itr G p m := fun i hi z => by
          have := (a2 i hi).1
          rw [z, h9m] at this
          omega
        have f9 : f e (itr G p m).toNat = -9 := by rw [← a3 (itr G p m).toNat (by omega) (fun i hi z => dm i hi (by rw [z]; omega))]; exact h9m
        obtain ⟨f', M, q0, q1, q2, A, q3⟩ := ih (m + 1) (by omega) (up2 fi e (itr G p m).toNat (-8)) (fun i hi => by
            by_cases z : i = m
            · rw [z]; exact pm
            · exact m1 i (by omega)) (fun i j hij hj => by
            by_cases z : j = m
            · rw [z]; exact dm i (by omega)
            · exact m2 i j hij (by omega)) (fun a ha => by rw [up2_ne ha]; exact a1 a ha) (fun i hi => by
            by_cases z : i = m
            · rw [z, u2_s]
              exact ⟨rfl, f9⟩
            · have d := dm i (by omega)
              have pi := m1 i (by omega)
              rw [u2_i (by omega)]
              exact a2 i (by omega)) (fun q hq hd => by
            have := hd m (by omega)
            rw [u2_i (by omega)]
            exact a3 q hq (fun i hi => hd i (by omega))) (fun z => absurd z (by omega))
        rw [es] at A
        exact ⟨f', M, q0, q1, q2, bk_X3_settle_6 hs ⟨fun e5 => absurd e5 (by omega), fun _ => ⟨fun e => absurd pm e, fun _ => ⟨by omega, fun e => absurd h9m e, fun _ => ⟨⟨by omega, by omega, by omega⟩, _, g, _, hstep _ _ pm (fun a ha => by rw [up2_ne ha]; exact a1 a ha), by omega, A⟩⟩⟩⟩, q3⟩
      · have m0 : 0 < m := by
          rcases Nat.eq_zero_or_pos m with z | z
          · exfalso
            apply hgo
            subst z
            rw [a0 rfl]
            exact ⟨hp, h9⟩
          · exact z
        have hst : m = 512 ∨ ¬ pk (itr G p m) ∨ (pk (itr G p m) ∧ fi e (itr G p m).toNat ≠ -9) := by
          by_cases z : pk (itr G p m)
          · exact Or.inr (Or.inr ⟨z, fun w => hgo ⟨z, w⟩⟩)
          · exact Or.inr (Or.inl z)
        obtain ⟨⟨t1, t2⟩, t3⟩ := turn m fi (by omega) m1 m2 a1 a2 a3 m0 hst
        obtain ⟨f', A, b1, b2, b3⟩ := back m (by omega) m1 m2 t3 m 0 (by omega) fi a1 (fun i hi => absurd hi (Nat.not_lt_zero i)) (fun i _ hi => (a2 i hi).1) a3
        refine ⟨f', m, m0, by omega, m1, bk_X3_settle_6 hs ⟨fun e5 => absurd e5 (by omega), fun _ => ⟨fun hpk => ⟨fun z => absurd z hpk, fun _ => ⟨(t2 hpk).1, ?_⟩⟩, fun hpk => ⟨by omega, fun _ => ⟨fun _ => ⟨by omega, fun h8 => ⟨by omega, ?_⟩, fun h8 => ?_⟩, fun z => absurd hpk z⟩, fun z => absurd ⟨hpk, z⟩ hgo⟩⟩⟩, b1, fun i hi => ⟨b2 i hi, (a2 i hi).2⟩, b3⟩
        · rw [← (t2 hpk).2]
          exact A
        · rw [((t1 hpk).2.1 h8).2]
          exact A
        · rw [(t1 hpk).2.2 h8] at A
          exact A
  obtain ⟨f', M, q0, q1, q2, A, q3, q4, q5⟩ := forth 512 0 rfl f (fun i hi => absurd hi (Nat.not_lt_zero i)) (fun i j _ hj => absurd hj (Nat.not_lt_zero j)) (fun _ _ => rfl) (fun i hi => absurd hi (Nat.not_lt_zero i)) (fun _ _ _ => rfl) (fun _ => rfl)
  refine ⟨f', bk_X3_settle_0 hs A, q3, fun q hq => ?_, fun q hq hq9 => ?_, ?_⟩
  · by_cases w : ∃ i, i < M ∧ itr G p i = (q : Int)
    · obtain ⟨i, i1, i2⟩ := w
      right
      have := (q4 i i1).1
      rw [i2] at this
      have h2 := enD_itr (q2 i i1)
      rw [i2] at h2
      rw [h2]
      exact this
    · rw [q5 q hq (fun i hi e => w ⟨i, hi, e⟩)]
      exact hE q hq
  · by_cases w : ∃ i, i < M ∧ itr G p i = (q : Int)
    · obtain ⟨i, i1, i2⟩ := w
      have := (q4 i i1).2
      rw [i2] at this
      exact absurd this hq9
    · exact q5 q hq (fun i hi e => w ⟨i, hi, e⟩)
  · exact (q4 0 q0).1
def A_X3_fillEnds_8 (σ : St) (f : FI) (g : FL) (a : Nat) (x1 : Int) (x2 : Nat) (x3 : Int) (r : St × List Vl) : Prop := Gx mt 3 cd_X3_fillEnds (il σ f g) (cd_X3_fillEnds 8) [some (vR 3 (some a)), some (vI x1), some (vR 14 (some x2)), some (vI x3)] [] r
theorem bk_X3_fillEnds_0 {σ : St} {f : FI} {g : FL} {a : Nat} {x1 : Int} {x2 : Nat} {r : St × List Vl} (hs : Sh3 σ a) (h : (∃ (f1 : FI) (g2 : FL), Ex mt 0 315 (il σ f g) [vR 14 (some x2), vI (-9)] ((il σ f1 g2), []) ∧ (A_X3_fillEnds_8 σ f1 g2 a x1 x2 0 r))) : Ex mt 3 46 (il σ f g) [vR 3 (some a), vI x1, vR 14 (some x2)] r := Ex.mk mt_46 (show Gx mt 3 cd_X3_fillEnds (il σ f g) b_X3_fillEnds_0 [some (vR 3 (some a)), some (vI x1), some (vR 14 (some x2)), none] [] r from (go_loadA rfl (go_pushI rfl (Exists.elim h fun f1 w4 => Exists.elim w4 fun g2 h3 => (go_callS rfl rfl rfl h3.1 (go_pushI rfl (go_stoI rfl rfl (go_fall (h3.2)))))))))
theorem bk_X3_fillEnds_8 {σ : St} {f : FI} {g : FL} {a : Nat} {x1 : Int} {x2 : Nat} {x3 : Int} {r : St × List Vl} (hs : Sh3 σ a) (h : ((512 ≤ x3 → (r = ((il σ f g), []))) ∧ (¬ 512 ≤ x3 → ((0 ≤ x3 ∧ x3 < 512) ∧ (0 ≤ f a 2 ∧ f a 2 ≤ 255)) ∧ ((¬ ((hB (f a 2) (x3 / 64))) → ((-2147483648 ≤ (x3 + 1) ∧ (x3 + 1) ≤ 2147483647)) ∧ (A_X3_fillEnds_8 σ f g a x1 x2 (x3 + 1) r)) ∧ (((hB (f a 2) (x3 / 64))) → ((0 ≤ x3 ∧ x3 < (ln σ x2 : Int))) ∧ ((¬ (f x2 ((x3).toNat)) = (-9) → ((-2147483648 ≤ (x3 + 1) ∧ (x3 + 1) ≤ 2147483647)) ∧ (A_X3_fillEnds_8 σ f g a x1 x2 (x3 + 1) r)) ∧ ((f x2 ((x3).toNat)) = (-9) → (∃ (f10 : FI) (g11 : FL), Ex mt 2 47 (il σ f g) [vR 3 (some a), vI x3, vI x1, vR 14 (some x2)] ((il σ f10 g11), []) ∧ ((-2147483648 ≤ (x3 + 1) ∧ (x3 + 1) ≤ 2147483647)) ∧ (A_X3_fillEnds_8 σ f10 g11 a x1 x2 (x3 + 1) r))))))))) : A_X3_fillEnds_8 σ f g a x1 x2 x3 r := (show Gx mt 3 cd_X3_fillEnds (il σ f g) b_X3_fillEnds_8 [some (vR 3 (some a)), some (vI x1), some (vR 14 (some x2)), some (vI x3)] [] r from (go_loadI rfl (go_pushI rfl (gq_icmp_ge (fun e3 => have h1 := h.1 e3; (h1 ▸ gq_retV)) (fun e3 => have h2 := h.2 e3; (go_loadA rfl (go_loadI rfl (go_callV rfl rfl rfl (pu_isEntry hs h2.1.1 h2.1.2) (go_ifb_eq (fun e6 => have h4 := h2.2.1 e6; (go_iinc rfl h4.1 rfl (go_goto (h4.2)))) (fun e6 => have h5 := h2.2.2 e6; (go_loadA rfl (go_loadI rfl (gi_iald h5.1 (go_pushI rfl (gq_icmp_ne (fun e9 => have h7 := h5.2.1 e9; (go_iinc rfl h7.1 rfl (go_goto (h7.2)))) (fun e9 => have h8 := h5.2.2 e9; (go_loadA rfl (go_loadI rfl (go_loadI rfl (go_loadA rfl (Exists.elim h8 fun f10 w13 => Exists.elim w13 fun g11 h12 => (go_callV rfl rfl rfl h12.1 (go_fall (go_iinc rfl h12.2.1 rfl (go_goto (h12.2.2))))))))))))))))))))))))))
theorem bk_X3_endsBy_0 {σ : St} {f : FI} {g : FL} {a : Nat} {x1 : Int} {r : St × List Vl} (hs : Sh3 σ a) (h : (∃ (f1 : FI) (g2 : FL), Ex mt 3 46 (il σ f g) [vR 3 (some a), vI x1, vR 14 (some (a + 100))] ((il σ f1 g2), []) ∧ (r = ((il σ f1 g2), [vR 14 (some (a + 100))])))) : Ex mt 4 45 (il σ f g) [vR 3 (some a), vI x1] r := Ex.mk mt_45 (show Gx mt 4 cd_X3_endsBy (il σ f g) b_X3_endsBy_0 [some (vR 3 (some a)), some (vI x1)] [] r from (go_loadA rfl (go_loadI rfl (go_loadA rfl (gi_getR (Sh3.r6 hs) (Exists.elim h fun f1 w4 => Exists.elim w4 fun g2 h3 => (go_callV rfl rfl rfl h3.1 (go_loadA rfl (gi_getR (Sh3.r6 hs) (h3.2 ▸ gq_retA))))))))))
/-- the entries -/
def En (f : FI) (B : Nat) (q : Int) : Prop := hB (f (B + 43) 2) (q / 64)
theorem x_fillEnds {σ : St} {f : FI} {g : FL} {B e : Nat} {nn : Nat → Nat} {b : Int} (hs : Sh3 σ (B + 43)) (hl : ln σ e = 512) (he : e < B + 43 ∨ B + 141 ≤ e) (hb : 0 ≤ b ∧ b ≤ 255) (hT : TCs f B nn) (hen : 0 ≤ f (B + 43) 2 ∧ f (B + 43) 2 ≤ 255) : ∃ f' : FI, Ex mt 3 46 (il σ f g) [vR 3 (some (B + 43)), vI b, vR 14 (some e)] (il σ f' g, []) ∧ (∀ a, a ≠ e → f' a = f a) ∧ (∀ q : Nat, q < 512 → En f B q → f' e q = enD (GB f g B b) (q : Int)) := by
  have loop : ∀ k i : Nat, i + k = 512 → ∀ fi : FI, (∀ a, a ≠ e → fi a = f a) → (∀ q : Nat, q < 512 → fi e q = -9 ∨ fi e q = enD (GB f g B b) (q : Int)) → (∀ q : Nat, q < i → En f B q → fi e q = enD (GB f g B b) (q : Int)) → ∃ f' : FI, A_X3_fillEnds_8 σ fi g (B + 43) b e (i : Int) (il σ f' g, []) ∧ (∀ a, a ≠ e → f' a = f a) ∧ (∀ q : Nat, q < 512 → En f B q → f' e q = enD (GB f g B b) (q : Int)) := by
    intro k
    induction k with
    | zero =>
      intro i hi fi a1 a2 a3
      obtain rfl : i = 512 := by omega
      exact ⟨fi, bk_X3_fillEnds_8 hs ⟨fun _ => rfl, fun z => absurd (by decide) z⟩, a1, a3⟩
    | succ k ih =>
      intro i hi fi a1 a2 a3
      have eT : SameT f fi B := fun a h1 h2 => a1 a (by omega)
      have eN : fi (B + 43) = f (B + 43) := a1 _ (by omega)
      have ob : ((0 : Int) ≤ (i : Int) ∧ (i : Int) < 512) ∧ ((0 : Int) ≤ fi (B + 43) 2 ∧ fi (B + 43) 2 ≤ 255) := by rw [eN]; exact ⟨by omega, hen⟩
      have eG : ∀ q, pk q → GB fi g B b q = GB f g B b q := fun q hq => GB_of hq eT rfl
      by_cases hE : En f B (i : Int)
      · by_cases h9 : fi e i = -9
        · obtain ⟨f1, E, b1, b2, b3, b4⟩ := x_settle (g := g) (p := (i : Int)) hs hl (by omega) (by omega) hb (hT.of eT) (fun q hq => by rw [enD_cong eG]; exact a2 q hq) h9
          obtain ⟨f', A, c1, c2⟩ := ih (i + 1) (by omega) f1 (fun a ha => by rw [b1 a ha]; exact a1 a ha) (fun q hq => by rw [← enD_cong eG]; exact b2 q hq) (fun q hq hEq => by
              by_cases z : q = i
              · subst z
                rw [← enD_cong eG]
                exact b4
              · have a3q := a3 q (by omega) hEq
                rw [b3 q (by omega)]
                · exact a3q
                · rw [a3q]
                  have := enD_rg (G := GB f g B b) (p := (q : Int)) (by omega) fun x hx => GB_rg hT hx
                  omega)
          exact ⟨f', bk_X3_fillEnds_8 hs ⟨fun z => absurd z (by omega), fun _ => ⟨ob, fun z => absurd (by rw [eN]; exact hE) z, fun _ => ⟨by omega, fun z => absurd h9 z, fun _ => ⟨f1, g, E, by omega, A⟩⟩⟩⟩, c1, c2⟩
        · obtain ⟨f', A, c1, c2⟩ := ih (i + 1) (by omega) fi a1 a2 (fun q hq hEq => by
              by_cases z : q = i
              · subst z
                rcases a2 q (by omega) with w | w
                · exact absurd w h9
                · exact w
              · exact a3 q (by omega) hEq)
          exact ⟨f', bk_X3_fillEnds_8 hs ⟨fun z => absurd z (by omega), fun _ => ⟨ob, fun z => absurd (by rw [eN]; exact hE) z, fun _ => ⟨by omega, fun _ => ⟨by omega, A⟩, fun z => absurd z h9⟩⟩⟩, c1, c2⟩
      · obtain ⟨f', A, c1, c2⟩ := ih (i + 1) (by omega) fi a1 a2 (fun q hq hEq => by
            by_cases z : q = i
            · subst z
              exact absurd hEq hE
            · exact a3 q (by omega) hEq)
        exact ⟨f', bk_X3_fillEnds_8 hs ⟨fun z => absurd z (by omega), fun _ => ⟨ob, fun _ => ⟨by omega, A⟩, fun z => absurd (by rw [eN] at z; exact z) hE⟩⟩, c1, c2⟩
  have hf := x_fillI (f := f) (g := g) (v := -9) hl (by decide)
  obtain ⟨f', A, c1, c2⟩ := loop 512 0 rfl (up1 f e (fun k => if k < 512 then -9 else f e k)) (fun a ha => up1_ne ha) (fun q hq => by
      left
      rw [u1, if_pos rfl]
      show (if q < 512 then -9 else f e q) = -9
      rw [if_pos hq]) (fun q hq => absurd hq (Nat.not_lt_zero q))
  exact ⟨f', bk_X3_fillEnds_0 hs ⟨_, g, hf, A⟩, c1, c2⟩
