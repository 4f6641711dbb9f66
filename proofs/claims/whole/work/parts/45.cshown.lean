/-! shown, guessed -/
def Shw (R : Nat → BitVec 64) (v : Int) : Prop := (v < 0 ∧ many R = 0) ∨ (0 ≤ v ∧ many R = 1 ∧ rb R v.toNat = true)
/-- the first of which it is not so -/
def FU (ok : Nat → Prop) (v : Int) : Prop := (v = -1 ∧ ∀ q, q < 512 → ok q) ∨ ∃ q : Nat, q < 512 ∧ v = (q : Int) ∧ ¬ ok q ∧ ∀ j, j < q → ok j
theorem FU.one {ok : Nat → Prop} {v w : Int} (h : FU ok v) (h2 : FU ok w) : v = w := by
  rcases h with ⟨rfl, h⟩ | ⟨q, hq, rfl, h3, h4⟩
  · rcases h2 with ⟨rfl, -⟩ | ⟨q, hq, rfl, h3, h4⟩
    · rfl
    · exact absurd (h q hq) h3
  · rcases h2 with ⟨rfl, h⟩ | ⟨p, hp, rfl, h5, h6⟩
    · exact absurd (h q hq) h3
    · rcases Nat.lt_trichotomy q p with z | z | z
      · exact absurd (h6 q z) h3
      · rw [z]
      · exact absurd (h4 p z) h5
theorem FU.cong {ok ok' : Nat → Prop} (e : ∀ q, q < 512 → (ok q ↔ ok' q)) {v : Int} (h : FU ok v) : FU ok' v := by
  rcases h with ⟨rfl, h⟩ | ⟨q, hq, rfl, h3, h4⟩
  · exact Or.inl ⟨rfl, fun q hq => (e q hq).mp (h q hq)⟩
  · exact Or.inr ⟨q, hq, rfl, fun z => h3 ((e q hq).mpr z), fun j hj => (e j (by omega)).mp (h4 j hj)⟩
def A_X3_firstUnlike_2 (σ : St) (f : FI) (g : FL) (a : Nat) (x1 : Nat) (x2 : Nat) (x3 : Int) (r : St × List Vl) : Prop := ∀ (y4 : Option Vl), Gx mt 3 cd_X3_firstUnlike (il σ f g) (cd_X3_firstUnlike 2) [some (vR 3 (some a)), some (vR 10 (some x1)), some (vR 14 (some x2)), some (vI x3), y4] [] r
theorem bk_X3_firstUnlike_0 {σ : St} {f : FI} {g : FL} {a : Nat} {x1 : Nat} {x2 : Nat} {r : St × List Vl} (hs : Sh3 σ a) (h : (A_X3_firstUnlike_2 σ f g a x1 x2 0 r)) : Ex mt 3 48 (il σ f g) [vR 3 (some a), vR 10 (some x1), vR 14 (some x2)] r := Ex.mk mt_48 (show Gx mt 3 cd_X3_firstUnlike (il σ f g) b_X3_firstUnlike_0 [some (vR 3 (some a)), some (vR 10 (some x1)), some (vR 14 (some x2)), none, none] [] r from (go_pushI rfl (go_stoI rfl rfl (go_fall (h _)))))
theorem bk_X3_firstUnlike_2 {σ : St} {f : FI} {g : FL} {a : Nat} {x1 : Nat} {x2 : Nat} {x3 : Int} {r : St × List Vl} (hs : Sh3 σ a) (h : ((512 ≤ x3 → (r = ((il σ f g), [vI (-1)]))) ∧ (¬ 512 ≤ x3 → ((0 ≤ x3 ∧ x3 < 512) ∧ (0 ≤ f a 2 ∧ f a 2 ≤ 255)) ∧ ((¬ ((hB (f a 2) (x3 / 64))) → ((-2147483648 ≤ (x3 + 1) ∧ (x3 + 1) ≤ 2147483647)) ∧ (A_X3_firstUnlike_2 σ f g a x1 x2 (x3 + 1) r)) ∧ (((hB (f a 2) (x3 / 64))) → ((0 ≤ x3 ∧ x3 < (ln σ x2 : Int))) ∧ ((0 ≤ (f x2 ((x3).toNat)) → (∃ (f10 : FI) (g11 : FL) (v13 : Int), Ex mt 2 137 (il σ f g) [vR 10 (some x1), vI x3, vI (f x2 ((x3).toNat))] ((il σ f10 g11), [vI v13]) ∧ ((¬ v13 = 0 → ((-2147483648 ≤ (x3 + 1) ∧ (x3 + 1) ≤ 2147483647)) ∧ (A_X3_firstUnlike_2 σ f10 g11 a x1 x2 (x3 + 1) r)) ∧ (v13 = 0 → (r = ((il σ f10 g11), [vI x3])))))) ∧ (¬ 0 ≤ (f x2 ((x3).toNat)) → (∃ (f19 : FI) (g20 : FL) (v22 : Int), Ex mt 1 136 (il σ f g) [vR 10 (some x1), vI x3] ((il σ f19 g20), [vI v22]) ∧ ((¬ v22 = 0 → ((-2147483648 ≤ (x3 + 1) ∧ (x3 + 1) ≤ 2147483647)) ∧ (A_X3_firstUnlike_2 σ f19 g20 a x1 x2 (x3 + 1) r)) ∧ (v22 = 0 → (r = ((il σ f19 g20), [vI x3])))))))))))) : A_X3_firstUnlike_2 σ f g a x1 x2 x3 r := fun y4 => (show Gx mt 3 cd_X3_firstUnlike (il σ f g) b_X3_firstUnlike_2 [some (vR 3 (some a)), some (vR 10 (some x1)), some (vR 14 (some x2)), some (vI x3), y4] [] r from (go_loadI rfl (go_pushI rfl (gq_icmp_ge (fun e3 => have h1 := h.1 e3; (go_pushI rfl (h1 ▸ gq_retI))) (fun e3 => have h2 := h.2 e3; (go_loadA rfl (go_loadI rfl (go_callV rfl rfl rfl (pu_isEntry hs h2.1.1 h2.1.2) (go_ifb_eq (fun e6 => have h4 := h2.2.1 e6; (go_iinc rfl h4.1 rfl (go_goto (h4.2 _)))) (fun e6 => have h5 := h2.2.2 e6; (go_loadA rfl (go_loadI rfl (gi_iald h5.1 (go_stoI rfl rfl (go_loadI rfl (gq_if_ge (fun e9 => have h7 := h5.2.1 e9; (go_loadA rfl (go_loadI rfl (go_loadI rfl (Exists.elim h7 fun f10 w17 => Exists.elim w17 fun g11 w18 => Exists.elim w18 fun v13 h12 => (go_callV rfl rfl rfl h12.1 (gq_if_ne (fun e16 => have h14 := h12.2.1 e16; (go_iinc rfl h14.1 rfl (go_goto (h14.2 _)))) (fun e16 => have h15 := h12.2.2 e16; (go_fall (go_loadI rfl (h15 ▸ gq_retI))))))))))) (fun e9 => have h8 := h5.2.2 e9; (go_loadA rfl (go_loadI rfl (Exists.elim h8 fun f19 w26 => Exists.elim w26 fun g20 w27 => Exists.elim w27 fun v22 h21 => (go_callV rfl rfl rfl h21.1 (gq_if_ne (fun e25 => have h23 := h21.2.1 e25; (go_iinc rfl h23.1 rfl (go_goto (h23.2 _)))) (fun e25 => have h24 := h21.2.2 e25; (go_goto (go_loadI rfl (h24 ▸ gq_retI))))))))))))))))))))))))))
theorem x_firstUnlike {σ : St} {f : FI} {g : FL} {B e qw md : Nat} {E : Nat → Int} (hs : Sh3 σ (B + 43)) (hl : ln σ e = 512) (hw : ShW σ qw md) (hen : 0 ≤ f (B + 43) 2 ∧ f (B + 43) 2 ≤ 255) (hE : ∀ q : Nat, q < 512 → En f B q → f e q = E q ∧ E q < 512) : ∃ v : Int, FU (fun q => En f B q → Shw (rwC g md q) (E q)) v ∧ Ex mt 3 48 (il σ f g) [vR 3 (some (B + 43)), vR 10 (some qw), vR 14 (some e)] (il σ f g, [vI v]) := by
  have loop : ∀ k i : Nat, i + k = 512 → (∀ j, j < i → En f B j → Shw (rwC g md j) (E j)) → ∃ v : Int, FU (fun q => En f B q → Shw (rwC g md q) (E q)) v ∧ A_X3_firstUnlike_2 σ f g (B + 43) qw e (i : Int) (il σ f g, [vI v]) := by
    intro k
    induction k with
    | zero =>
      intro i hi hj
      obtain rfl : i = 512 := by omega
      exact ⟨-1, Or.inl ⟨rfl, hj⟩, bk_X3_firstUnlike_2 hs ⟨fun _ => rfl, fun z => absurd (by decide) z⟩⟩
    | succ k ih =>
      intro i hi hj
      have ob : ((0 : Int) ≤ (i : Int) ∧ (i : Int) < 512) ∧ ((0 : Int) ≤ f (B + 43) 2 ∧ f (B + 43) 2 ≤ 255) := ⟨by omega, hen⟩
      have ei : (i : Int).toNat = i := rfl
      by_cases hEn : En f B (i : Int)
      · obtain ⟨e1, e2⟩ := hE i (by omega) hEn
        by_cases hok : Shw (rwC g md (i : Int)) (E i)
        · obtain ⟨v, hv, A⟩ := ih (i + 1) (by omega) fun j hj2 hEj => by
            by_cases z : j = i
            · rw [z]; exact hok
            · exact hj j (by omega) hEj
          refine ⟨v, hv, bk_X3_firstUnlike_2 hs ⟨fun z => absurd z (by omega), fun _ => ⟨ob, fun z => absurd hEn z, fun _ => ⟨by omega, ?_⟩⟩⟩⟩
          rw [ei, e1]
          rcases hok with ⟨o1, o2⟩ | ⟨o1, o2, o3⟩
          · exact ⟨fun z => absurd z (by omega), fun _ => ⟨f, g, _, x_makesNone hw (by omega), fun _ => ⟨by omega, A⟩, fun z => absurd o2 ((bI_0 _).mp z)⟩⟩
          · exact ⟨fun _ => ⟨f, g, _, x_makesJust hw (by omega) ⟨o1, e2⟩, fun _ => ⟨by omega, A⟩, fun z => absurd ⟨o3, o2⟩ ((bI_0 _).mp z)⟩, fun z => absurd o1 z⟩
        · refine ⟨i, Or.inr ⟨i, by omega, rfl, fun z => hok (z hEn), hj⟩, bk_X3_firstUnlike_2 hs ⟨fun z => absurd z (by omega), fun _ => ⟨ob, fun z => absurd hEn z, fun _ => ⟨by omega, ?_⟩⟩⟩⟩
          rw [ei, e1]
          by_cases o1 : 0 ≤ E i
          · exact ⟨fun _ => ⟨f, g, _, x_makesJust hw (by omega) ⟨o1, e2⟩, fun z => absurd ((bI_0 _).mpr fun y => hok (Or.inr ⟨o1, y.2, y.1⟩)) z, fun _ => rfl⟩, fun z => absurd o1 z⟩
          · exact ⟨fun z => absurd z o1, fun _ => ⟨f, g, _, x_makesNone hw (by omega), fun z => absurd ((bI_0 _).mpr fun y => hok (Or.inl ⟨by omega, y⟩)) z, fun _ => rfl⟩⟩
      · obtain ⟨v, hv, A⟩ := ih (i + 1) (by omega) fun j hj2 hEj => by
          by_cases z : j = i
          · subst z; exact absurd hEj hEn
          · exact hj j (by omega) hEj
        exact ⟨v, hv, bk_X3_firstUnlike_2 hs ⟨fun z => absurd z (by omega), fun _ => ⟨ob, fun _ => ⟨by omega, A⟩, fun z => absurd z hEn⟩⟩⟩
  obtain ⟨v, hv, A⟩ := loop 512 0 rfl fun j hj => absurd hj (Nat.not_lt_zero j)
  exact ⟨v, hv, bk_X3_firstUnlike_0 hs A⟩
theorem bk_X12_isShown_0 {σ : St} {f : FI} {g : FL} {a : Nat} {x1 : Int} {x2 : Int} {x3 : Int} {r : St × List Vl} (hs : Sh12 σ a) (h : (∃ (f1 : FI) (g2 : FL) (v4 : Int), Ex mt 4 255 (il σ f g) [vR 12 (some a), vI x2, vI x3] ((il σ f1 g2), [vI v4]) ∧ ((0 ≤ v4 → ((0 ≤ x1 ∧ x1 < 12) ∧ (0 ≤ x2 ∧ x2 < 512)) ∧ ((¬ (many (rwM g2 a x1 x2) : Int) = 1 → (r = ((il σ f1 g2), [vI 0]))) ∧ ((many (rwM g2 a x1 x2) : Int) = 1 → ((0 ≤ x1 ∧ x1 < 12) ∧ (0 ≤ x2 ∧ x2 < 512) ∧ (0 ≤ v4 ∧ v4 < 512)) ∧ ((¬ ((rb (rwM g2 a x1 x2) (v4).toNat = true)) → (r = ((il σ f1 g2), [vI 0]))) ∧ (((rb (rwM g2 a x1 x2) (v4).toNat = true)) → (r = ((il σ f1 g2), [vI 1]))))))) ∧ (¬ 0 ≤ v4 → ((0 ≤ x1 ∧ x1 < 12) ∧ (0 ≤ x2 ∧ x2 < 512)) ∧ ((¬ (many (rwM g2 a x1 x2) : Int) = 0 → (r = ((il σ f1 g2), [vI 0]))) ∧ ((many (rwM g2 a x1 x2) : Int) = 0 → (r = ((il σ f1 g2), [vI 1])))))))) : Ex mt 5 259 (il σ f g) [vR 12 (some a), vI x1, vI x2, vI x3] r := Ex.mk mt_259 (show Gx mt 5 cd_X12_isShown (il σ f g) b_X12_isShown_0 [some (vR 12 (some a)), some (vI x1), some (vI x2), some (vI x3), none] [] r from (go_loadA rfl (go_loadI rfl (go_loadI rfl (Exists.elim h fun f1 w17 => Exists.elim w17 fun g2 w18 => Exists.elim w18 fun v4 h3 => (go_callV rfl rfl rfl h3.1 (go_stoI rfl rfl (go_loadI rfl (gq_if_ge (fun e7 => have h5 := h3.2.1 e7; (go_loadA rfl (go_loadI rfl (go_loadI rfl (go_callV rfl rfl rfl (pu_many hs h5.1.1 h5.1.2) (go_pushI rfl (gq_icmp_ne (fun e10 => have h8 := h5.2.1 e10; (go_pushI rfl (go_fall (h8 ▸ (gq_retZ ⟨by decide, by decide⟩))))) (fun e10 => have h9 := h5.2.2 e10; (go_loadA rfl (go_loadI rfl (go_loadI rfl (go_loadI rfl (go_callV rfl rfl rfl (pu_makesOf hs h9.1.1 h9.1.2.1 h9.1.2.2) (go_ifb_eq (fun e13 => have h11 := h9.2.1 e13; (go_pushI rfl (go_fall (h11 ▸ (gq_retZ ⟨by decide, by decide⟩))))) (fun e13 => have h12 := h9.2.2 e13; (go_pushI rfl (go_goto (h12 ▸ (gq_retZ ⟨by decide, by decide⟩))))))))))))))))))) (fun e7 => have h6 := h3.2.2 e7; (go_loadA rfl (go_loadI rfl (go_loadI rfl (go_callV rfl rfl rfl (pu_many hs h6.1.1 h6.1.2) (gq_if_ne (fun e16 => have h14 := h6.2.1 e16; (go_pushI rfl (go_goto (h14 ▸ (gq_retZ ⟨by decide, by decide⟩))))) (fun e16 => have h15 := h6.2.2 e16; (go_pushI rfl (go_goto (h15 ▸ (gq_retZ ⟨by decide, by decide⟩))))))))))))))))))))
def A_X12_shownBut_2 (σ : St) (f : FI) (g : FL) (a : Nat) (x1 : Int) (x2 : Int) (x3 : Int) (r : St × List Vl) : Prop := Gx mt 6 cd_X12_shownBut (il σ f g) (cd_X12_shownBut 2) [some (vR 12 (some a)), some (vI x1), some (vI x2), some (vI x3)] [] r
theorem bk_X12_shownBut_0 {σ : St} {f : FI} {g : FL} {a : Nat} {x1 : Int} {x2 : Int} {r : St × List Vl} (hs : Sh12 σ a) (h : (A_X12_shownBut_2 σ f g a x1 x2 0 r)) : Ex mt 6 260 (il σ f g) [vR 12 (some a), vI x1, vI x2] r := Ex.mk mt_260 (show Gx mt 6 cd_X12_shownBut (il σ f g) b_X12_shownBut_0 [some (vR 12 (some a)), some (vI x1), some (vI x2), none] [] r from (go_pushI rfl (go_stoI rfl rfl (go_fall (h)))))
theorem bk_X12_shownBut_2 {σ : St} {f : FI} {g : FL} {a : Nat} {x1 : Int} {x2 : Int} {x3 : Int} {r : St × List Vl} (hs : Sh12 σ a) (h : ((512 ≤ x3 → (r = ((il σ f g), [vI (-1)]))) ∧ (¬ 512 ≤ x3 → ((0 ≤ x3 ∧ x3 < 512) ∧ (0 ≤ f a 33 ∧ f a 33 ≤ 255)) ∧ ((¬ ((hB (f a 33) (x3 / 64))) → ((-2147483648 ≤ (x3 + 1) ∧ (x3 + 1) ≤ 2147483647)) ∧ (A_X12_shownBut_2 σ f g a x1 x2 (x3 + 1) r)) ∧ (((hB (f a 33) (x3 / 64))) → (∃ (f7 : FI) (g8 : FL) (v10 : Int), Ex mt 5 259 (il σ f g) [vR 12 (some a), vI x1, vI x3, vI x2] ((il σ f7 g8), [vI v10]) ∧ ((¬ v10 = 0 → ((-2147483648 ≤ (x3 + 1) ∧ (x3 + 1) ≤ 2147483647)) ∧ (A_X12_shownBut_2 σ f7 g8 a x1 x2 (x3 + 1) r)) ∧ (v10 = 0 → (r = ((il σ f7 g8), [vI x3])))))))))) : A_X12_shownBut_2 σ f g a x1 x2 x3 r := (show Gx mt 6 cd_X12_shownBut (il σ f g) b_X12_shownBut_2 [some (vR 12 (some a)), some (vI x1), some (vI x2), some (vI x3)] [] r from (go_loadI rfl (go_pushI rfl (gq_icmp_ge (fun e3 => have h1 := h.1 e3; (go_pushI rfl (h1 ▸ gq_retI))) (fun e3 => have h2 := h.2 e3; (go_loadA rfl (go_loadI rfl (go_callV rfl rfl rfl (pu_enters hs h2.1.1 h2.1.2) (go_ifb_eq (fun e6 => have h4 := h2.2.1 e6; (go_iinc rfl h4.1 rfl (go_goto (h4.2)))) (fun e6 => have h5 := h2.2.2 e6; (go_loadA rfl (go_loadI rfl (go_loadI rfl (go_loadI rfl (Exists.elim h5 fun f7 w14 => Exists.elim w14 fun g8 w15 => Exists.elim w15 fun v10 h9 => (go_callV rfl rfl rfl h9.1 (gq_if_ne (fun e13 => have h11 := h9.2.1 e13; (go_iinc rfl h11.1 rfl (go_goto (h11.2)))) (fun e13 => have h12 := h9.2.2 e13; (go_loadI rfl (h12 ▸ gq_retI))))))))))))))))))))
theorem enD_lt {f : FI} {g : FL} {B : Nat} {nn : Nat → Nat} (h : TCs f B nn) {b p : Int} (hp : pk p) : enD (GB f g B b) p = -3 ∨ enD (GB f g B b) p = -2 ∨ pk (enD (GB f g B b) p) := enD_rg hp fun _ hx => GB_rg h hx
theorem x_isShown {σ : St} {f : FI} {g : FL} {B : Nat} {nn : Nat → Nat} {b p w s : Int} (hm : Sh12 σ (B + 165)) (hB : ITb f B nn) (hL : IL f g B) (hS : IS f B s) (hs : s < 2000000000) (hp : pk p) (hb : 0 ≤ b ∧ b ≤ 255) (hw : 0 ≤ w ∧ w < 12) : ∃ (f' : FI) (v : Int), (v = 0 ∨ v = 1) ∧ (v = 1 ↔ Shw (rwM g (B + 165) w p) (enD (GB f g B b) p)) ∧ Ex mt 5 259 (il σ f g) [vR 12 (some (B + 165)), vI w, vI p, vI b] (il σ f' g, [vI v]) ∧ IS f' B (s + 1) ∧ Fr (Scr B) f f' := by
  obtain ⟨f', n, E, -, -, -, -, S, F⟩ := x_endsAs (g := g) (b := b) hm hB hL hS hs hp hb
  have rg := enD_lt (g := g) hB.tcs (b := b) hp
  generalize enD (GB f g B b) p = v at *
  by_cases h0 : 0 ≤ v
  · by_cases h1 : many (rwM g (B + 165) w p) = 1
    · by_cases h2 : rb (rwM g (B + 165) w p) v.toNat = true
      · exact ⟨f', 1, Or.inr rfl, ⟨fun _ => Or.inr ⟨h0, h1, h2⟩, fun _ => rfl⟩, bk_X12_isShown_0 hm ⟨f', g, v, E, fun _ => ⟨⟨by omega, by omega⟩, fun z => absurd (by omega) z, fun _ => ⟨⟨by omega, by omega, by omega⟩, fun z => absurd h2 z, fun _ => rfl⟩⟩, fun z => absurd h0 z⟩, S, F⟩
      · exact ⟨f', 0, Or.inl rfl, ⟨fun z => absurd z (by decide), fun z => z.elim (fun y => absurd y.1 (by omega)) (fun y => absurd y.2.2 h2)⟩, bk_X12_isShown_0 hm ⟨f', g, v, E, fun _ => ⟨⟨by omega, by omega⟩, fun z => absurd (by omega) z, fun _ => ⟨⟨by omega, by omega, by omega⟩, fun _ => rfl, fun z => absurd z h2⟩⟩, fun z => absurd h0 z⟩, S, F⟩
    · exact ⟨f', 0, Or.inl rfl, ⟨fun z => absurd z (by decide), fun z => z.elim (fun y => absurd y.1 (by omega)) (fun y => absurd y.2.1 h1)⟩, bk_X12_isShown_0 hm ⟨f', g, v, E, fun _ => ⟨⟨by omega, by omega⟩, fun _ => rfl, fun z => absurd (by omega) h1⟩, fun z => absurd h0 z⟩, S, F⟩
  · by_cases h1 : many (rwM g (B + 165) w p) = 0
    · exact ⟨f', 1, Or.inr rfl, ⟨fun _ => Or.inl ⟨by omega, h1⟩, fun _ => rfl⟩, bk_X12_isShown_0 hm ⟨f', g, v, E, fun z => absurd z h0, fun _ => ⟨⟨by omega, by omega⟩, fun z => absurd (by omega) z, fun _ => rfl⟩⟩, S, F⟩
    · exact ⟨f', 0, Or.inl rfl, ⟨fun z => absurd z (by decide), fun z => z.elim (fun y => absurd y.2 h1) (fun y => absurd y.1 (by omega))⟩, bk_X12_isShown_0 hm ⟨f', g, v, E, fun z => absurd z h0, fun _ => ⟨⟨by omega, by omega⟩, fun _ => rfl, fun z => absurd (by omega) h1⟩⟩, S, F⟩
theorem x_shownBut {σ : St} {f : FI} {g : FL} {B : Nat} {nn : Nat → Nat} {b w s : Int} (hm : Sh12 σ (B + 165)) (hB0 : ITb f B nn) (hL : IL f g B) (hS : IS f B s) (hs : s < 1999999000) (hb : 0 ≤ b ∧ b ≤ 255) (hw : 0 ≤ w ∧ w < 12) (hen : 0 ≤ f (B + 165) 33 ∧ f (B + 165) 33 ≤ 255) : ∃ (f' : FI) (v s' : Int), FU (fun q => hB (f (B + 165) 33) ((q : Int) / 64) → Shw (rwM g (B + 165) w q) (enD (GB f g B b) q)) v ∧ Ex mt 6 260 (il σ f g) [vR 12 (some (B + 165)), vI w, vI b] (il σ f' g, [vI v]) ∧ IS f' B s' ∧ s' ≤ s + 512 ∧ Fr (Scr B) f f' := by
  have loop : ∀ k i : Nat, i + k = 512 → ∀ (fi : FI) (si : Int), IS fi B si → si ≤ s + i → Fr (Scr B) f fi → (∀ j : Nat, j < i → hB (f (B + 165) 33) ((j : Int) / 64) → Shw (rwM g (B + 165) w j) (enD (GB f g B b) j)) → ∃ (f' : FI) (v s' : Int), FU (fun q => hB (f (B + 165) 33) ((q : Int) / 64) → Shw (rwM g (B + 165) w q) (enD (GB f g B b) q)) v ∧ A_X12_shownBut_2 σ fi g (B + 165) w b (i : Int) (il σ f' g, [vI v]) ∧ IS f' B s' ∧ s' ≤ s + 512 ∧ Fr (Scr B) f f' := by
    intro k
    induction k with
    | zero =>
      intro i hi fi si hSi hsi hF hj
      obtain rfl : i = 512 := by omega
      exact ⟨fi, -1, si, Or.inl ⟨rfl, hj⟩, bk_X12_shownBut_2 hm ⟨fun _ => rfl, fun z => absurd (by decide) z⟩, hSi, hsi, hF⟩
    | succ k ih =>
      intro i hi fi si hSi hsi hF hj
      have e33 : fi (B + 165) 33 = f (B + 165) 33 := hF _ _ (by unfold Scr; omega)
      have ob : ((0 : Int) ≤ (i : Int) ∧ (i : Int) < 512) ∧ ((0 : Int) ≤ fi (B + 165) 33 ∧ fi (B + 165) 33 ≤ 255) := by rw [e33]; exact ⟨by omega, hen⟩
      by_cases hEn : hB (f (B + 165) 33) ((i : Int) / 64)
      · obtain ⟨f1, v, v1, v2, E, S1, F1⟩ := x_isShown (g := g) (p := (i : Int)) hm (Scr.itb hB0 hF) (Scr.il hL hF) hSi (by omega) (by omega) hb hw
        have eG : enD (GB fi g B b) (i : Int) = enD (GB f g B b) (i : Int) := enD_cong fun q hq => GB_of hq (Scr.T hF) rfl
        rw [eG] at v2
        rcases v1 with rfl | rfl
        · refine ⟨f1, i, si + 1, Or.inr ⟨i, by omega, rfl, fun z => absurd (v2.mpr (z hEn)) (by decide), hj⟩, bk_X12_shownBut_2 hm ⟨fun z => absurd z (by omega), fun _ => ⟨ob, fun z => absurd (by rw [e33]; exact hEn) z, fun _ => ⟨f1, g, _, E, fun z => absurd rfl z, fun _ => rfl⟩⟩⟩, S1, by omega, hF.trans F1⟩
        · obtain ⟨f', u, s', a1, A, a2⟩ := ih (i + 1) (by omega) f1 (si + 1) S1 (by omega) (hF.trans F1) fun j hj2 hEj => by
            by_cases z : j = i
            · subst z; exact v2.mp rfl
            · exact hj j (by omega) hEj
          exact ⟨f', u, s', a1, bk_X12_shownBut_2 hm ⟨fun z => absurd z (by omega), fun _ => ⟨ob, fun z => absurd (by rw [e33]; exact hEn) z, fun _ => ⟨f1, g, _, E, fun _ => ⟨by omega, A⟩, fun z => absurd z (by decide)⟩⟩⟩, a2⟩
      · obtain ⟨f', u, s', a1, A, a2⟩ := ih (i + 1) (by omega) fi si hSi (by omega) hF fun j hj2 hEj => by
          by_cases z : j = i
          · subst z; exact absurd hEj hEn
          · exact hj j (by omega) hEj
        exact ⟨f', u, s', a1, bk_X12_shownBut_2 hm ⟨fun z => absurd z (by omega), fun _ => ⟨ob, fun _ => ⟨by omega, A⟩, fun z => absurd (by rw [e33] at z; exact z) hEn⟩⟩, a2⟩
  obtain ⟨f', u, s', a1, A, a2⟩ := loop 512 0 rfl f s hS (by omega) Fr.rfl' fun j hj => absurd hj (Nat.not_lt_zero j)
  exact ⟨f', u, s', a1, bk_X12_shownBut_0 hm A, a2⟩
theorem bk_X11_shown_0 {σ : St} {f : FI} {g : FL} {a : Nat} {x1 : Int} {x2 : Int} {r : St × List Vl} (hs : Sh11 σ a) (h : ((∃ (f1 : FI) (g2 : FL), Ex mt 0 188 (il σ f g) [vR 11 (some a), vI x1] ((il σ f1 g2), [vR 10 none]) ∧ (r = ((il σ f1 g2), [vI (-2)]))) ∨ (∃ (f1 : FI) (g2 : FL) (q4 : Nat), Ex mt 0 188 (il σ f g) [vR 11 (some a), vI x1] ((il σ f1 g2), [vR 10 (some q4)]) ∧ ((((0 ≤ x2 ∧ x2 ≤ 255)) → (∃ (f8 : FI) (g9 : FL) (q11 : Nat), Ex mt 4 45 (il σ f1 g2) [vR 3 (some (a + 43)), vI x2] ((il σ f8 g9), [vR 14 (some q11)]) ∧ (∃ (f12 : FI) (g13 : FL) (v15 : Int), Ex mt 3 48 (il σ f8 g9) [vR 3 (some (a + 43)), vR 10 (some q4), vR 14 (some q11)] ((il σ f12 g13), [vI v15]) ∧ (r = ((il σ f12 g13), [vI v15]))))) ∧ (¬ ((0 ≤ x2 ∧ x2 ≤ 255)) → (r = ((il σ f1 g2), [vI (-2)]))))))) : Ex mt 5 163 (il σ f g) [vR 11 (some a), vI x1, vI x2] r := Ex.mk mt_163 (show Gx mt 5 cd_X11_shown (il σ f g) b_X11_shown_0 [some (vR 11 (some a)), some (vI x1), some (vI x2), none] [] r from (go_loadA rfl (go_loadI rfl (Or.elim h (fun h20q => (Exists.elim h20q fun f1 w21 => Exists.elim w21 fun g2 h20 => (go_callV rfl rfl rfl h20.1 (go_stoA rfl rfl (go_loadA rfl (go_nullN (go_pushI rfl (h20.2 ▸ gq_retI)))))))) (fun h3q => (Exists.elim h3q fun f1 w22 => Exists.elim w22 fun g2 w23 => Exists.elim w23 fun q4 h3 => (go_callV rfl rfl rfl h3.1 (go_stoA rfl rfl (go_loadA rfl (go_nullS (go_loadI rfl (go_pushI rfl (go_callS rfl rfl rfl (pu_upTo) (go_ifb_ne (fun e7 => have h5 := h3.2.1 e7; (go_loadA rfl (gi_getR (Sh11.r9 hs) (go_loadA rfl (go_loadA rfl (gi_getR (Sh11.r9 hs) (go_loadI rfl (Exists.elim h5 fun f8 w18 => Exists.elim w18 fun g9 w19 => Exists.elim w19 fun q11 h10 => (go_callV rfl rfl rfl h10.1 (Exists.elim h10.2 fun f12 w16 => Exists.elim w16 fun g13 w17 => Exists.elim w17 fun v15 h14 => (go_callV rfl rfl rfl h14.1 (h14.2 ▸ gq_retI)))))))))))) (fun e7 => have h6 := h3.2.2 e7; (go_fall (go_pushI rfl (h6 ▸ gq_retI))))))))))))))))))
theorem bk_X12_shown_0 {σ : St} {f : FI} {g : FL} {a : Nat} {x1 : Int} {x2 : Int} {r : St × List Vl} (hs : Sh12 σ a) (h : ((-2147483648 ≤ f a 4 - 1 ∧ f a 4 - 1 ≤ 2147483647) ∧ (-2147483648 ≤ x1 ∧ x1 ≤ 2147483647)) ∧ ((¬ ((0 ≤ x1 ∧ x1 ≤ f a 4 - 1)) → (r = ((il σ f g), [vI (-2)]))) ∧ (((0 ≤ x1 ∧ x1 ≤ f a 4 - 1)) → ((-2147483648 ≤ x2 ∧ x2 ≤ 2147483647)) ∧ ((¬ ((0 ≤ x2 ∧ x2 ≤ 255)) → (r = ((il σ f g), [vI (-2)]))) ∧ (((0 ≤ x2 ∧ x2 ≤ 255)) → (∃ (f7 : FI) (g8 : FL) (v10 : Int), Ex mt 6 260 (il σ f g) [vR 12 (some a), vI x1, vI x2] ((il σ f7 g8), [vI v10]) ∧ (r = ((il σ f7 g8), [vI v10])))))))) : Ex mt 7 261 (il σ f g) [vR 12 (some a), vI x1, vI x2] r := Ex.mk mt_261 (show Gx mt 7 cd_X12_shown (il σ f g) b_X12_shown_0 [some (vR 12 (some a)), some (vI x1), some (vI x2)] [] r from (go_loadA rfl (go_loadI rfl (go_callV rfl rfl rfl (pu_isWish hs h.1.1 h.1.2) (go_ifb_eq (fun e3 => have h1 := h.2.1 e3; (go_pushI rfl (go_fall (h1 ▸ gq_retI)))) (fun e3 => have h2 := h.2.2 e3; (go_loadI rfl (go_i2l (go_pushL rfl (go_pushL rfl (go_callS rfl rfl rfl (pu_in h2.1 ⟨by decide, by decide⟩ ⟨by decide, by decide⟩ (v := x2) (lo := 0) (hi := 255)) (go_ifb_eq (fun e6 => have h4 := h2.2.1 e6; (go_pushI rfl (go_fall (h4 ▸ gq_retI)))) (fun e6 => have h5 := h2.2.2 e6; (go_loadA rfl (go_loadI rfl (go_loadI rfl (Exists.elim h5 fun f7 w11 => Exists.elim w11 fun g8 w12 => Exists.elim w12 fun v10 h9 => (go_callV rfl rfl rfl h9.1 (go_goto (h9.2 ▸ gq_retI))))))))))))))))))))
def A_X11_guessed_26 (σ : St) (f : FI) (g : FL) (a : Nat) (x2 : Nat) (x3 : Int) (x4 : Int) (r : St × List Vl) : Prop := ∀ (y1 : Int), Gx mt 5 cd_X11_guessed (il σ f g) (cd_X11_guessed 26) [some (vR 11 (some a)), some (vI y1), some (vR 14 (some x2)), some (vI x3), some (vI x4)] [] r
theorem bk_X11_guessed_0 {σ : St} {f : FI} {g : FL} {a : Nat} {x1 : Int} {r : St × List Vl} (hs : Sh11 σ a) (h : ((((0 ≤ x1 ∧ x1 ≤ 255)) → (∃ (f4 : FI) (g5 : FL) (q7 : Nat), Ex mt 4 45 (il σ f g) [vR 3 (some (a + 43)), vI x1] ((il σ f4 g5), [vR 14 (some q7)]) ∧ (A_X11_guessed_26 σ f4 g5 a q7 0 0 r))) ∧ (¬ ((0 ≤ x1 ∧ x1 ≤ 255)) → (r = ((il σ f g), [vI (-1)]))))) : Ex mt 5 164 (il σ f g) [vR 11 (some a), vI x1] r := Ex.mk mt_164 (show Gx mt 5 cd_X11_guessed (il σ f g) b_X11_guessed_0 [some (vR 11 (some a)), some (vI x1), none, none, none] [] r from (go_loadI rfl (go_pushI rfl (go_callS rfl rfl rfl (pu_upTo) (go_ifb_ne (fun e3 => have h1 := h.1 e3; (go_loadA rfl (gi_getR (Sh11.r9 hs) (go_loadI rfl (Exists.elim h1 fun f4 w8 => Exists.elim w8 fun g5 w9 => Exists.elim w9 fun q7 h6 => (go_callV rfl rfl rfl h6.1 (go_stoA rfl rfl (go_pushI rfl (go_stoI rfl rfl (go_pushI rfl (go_stoI rfl rfl (go_fall (h6.2 _))))))))))))) (fun e3 => have h2 := h.2 e3; (go_pushI rfl (h2 ▸ gq_retI))))))))
theorem bk_X11_guessed_26 {σ : St} {f : FI} {g : FL} {a : Nat} {x2 : Nat} {x3 : Int} {x4 : Int} {r : St × List Vl} (hs : Sh11 σ a) (h : (((f a 3) ≤ x4 → (r = ((il σ f g), [vI x3]))) ∧ (¬ (f a 3) ≤ x4 → ((0 ≤ x4 ∧ x4 < 12)) ∧ (∃ q4, gR σ (a + 2) ((x4).toNat) = some q4 ∧ (∃ (f6 : FI) (g7 : FL) (v9 : Int), Ex mt 3 48 (il σ f g) [vR 3 (some (a + 43)), vR 10 (some q4), vR 14 (some x2)] ((il σ f6 g7), [vI v9]) ∧ ((¬ v9 = (-1) → ((-2147483648 ≤ (x4 + 1) ∧ (x4 + 1) ≤ 2147483647)) ∧ (A_X11_guessed_26 σ f6 g7 a x2 x3 (x4 + 1) r)) ∧ (v9 = (-1) → ((0 ≤ x4 ∧ x4 < 31)) ∧ ((-2147483648 ≤ (x4 + 1) ∧ (x4 + 1) ≤ 2147483647)) ∧ (A_X11_guessed_26 σ f6 g7 a x2 (iOr x3 (p2 x4)) (x4 + 1) r)))))))) : A_X11_guessed_26 σ f g a x2 x3 x4 r := fun y1 => (show Gx mt 5 cd_X11_guessed (il σ f g) b_X11_guessed_26 [some (vR 11 (some a)), some (vI y1), some (vR 14 (some x2)), some (vI x3), some (vI x4)] [] r from (go_loadI rfl (go_loadA rfl (gi_getI (gq_icmp_ge (fun e3 => have h1 := h.1 e3; (go_loadI rfl (h1 ▸ gq_retI))) (fun e3 => have h2 := h.2 e3; (go_loadA rfl (gi_getR (Sh11.r9 hs) (go_loadA rfl (gi_getR (Sh11.r2 hs) (go_loadI rfl (Exists.elim h2.2 fun q4 h5 => (gi_aald (inl_ (Sh11.l2 hs) h2.1) h5.1 (go_loadA rfl (Exists.elim h5.2 fun f6 w13 => Exists.elim w13 fun g7 w14 => Exists.elim w14 fun v9 h8 => (go_callV rfl rfl rfl h8.1 (go_pushI rfl (gq_icmp_ne (fun e12 => have h10 := h8.2.1 e12; (go_iinc rfl h10.1 rfl (go_goto (h10.2 _)))) (fun e12 => have h11 := h8.2.2 e12; (go_loadI rfl (go_pushI rfl (go_loadI rfl (go_ishl (iShl_1 h11.1) (go_ior rfl (go_stoI rfl rfl (go_fall (go_iinc rfl h11.2.1 rfl (go_goto (h11.2.2 _)))))))))))))))))))))))))))))
def A_X12_guessed_18 (σ : St) (f : FI) (g : FL) (a : Nat) (x1 : Int) (x2 : Int) (x3 : Int) (r : St × List Vl) : Prop := Gx mt 7 cd_X12_guessed (il σ f g) (cd_X12_guessed 18) [some (vR 12 (some a)), some (vI x1), some (vI x2), some (vI x3)] [] r
theorem bk_X12_guessed_0 {σ : St} {f : FI} {g : FL} {a : Nat} {x1 : Int} {r : St × List Vl} (hs : Sh12 σ a) (h : ((-2147483648 ≤ x1 ∧ x1 ≤ 2147483647)) ∧ ((((0 ≤ x1 ∧ x1 ≤ 255)) → (A_X12_guessed_18 σ f g a x1 0 0 r)) ∧ (¬ ((0 ≤ x1 ∧ x1 ≤ 255)) → (r = ((il σ f g), [vI (-1)]))))) : Ex mt 7 262 (il σ f g) [vR 12 (some a), vI x1] r := Ex.mk mt_262 (show Gx mt 7 cd_X12_guessed (il σ f g) b_X12_guessed_0 [some (vR 12 (some a)), some (vI x1), none, none] [] r from (go_loadI rfl (go_i2l (go_pushL rfl (go_pushL rfl (go_callS rfl rfl rfl (pu_in h.1 ⟨by decide, by decide⟩ ⟨by decide, by decide⟩ (v := x1) (lo := 0) (hi := 255)) (go_ifb_ne (fun e3 => have h1 := h.2.1 e3; (go_pushI rfl (go_stoI rfl rfl (go_pushI rfl (go_stoI rfl rfl (go_fall (h1))))))) (fun e3 => have h2 := h.2.2 e3; (go_pushI rfl (h2 ▸ gq_retI))))))))))
theorem bk_X12_guessed_18 {σ : St} {f : FI} {g : FL} {a : Nat} {x1 : Int} {x2 : Int} {x3 : Int} {r : St × List Vl} (hs : Sh12 σ a) (h : (((f a 4) ≤ x3 → (r = ((il σ f g), [vI x2]))) ∧ (¬ (f a 4) ≤ x3 → (∃ (f4 : FI) (g5 : FL) (v7 : Int), Ex mt 6 260 (il σ f g) [vR 12 (some a), vI x3, vI x1] ((il σ f4 g5), [vI v7]) ∧ ((¬ v7 = (-1) → ((-2147483648 ≤ (x3 + 1) ∧ (x3 + 1) ≤ 2147483647)) ∧ (A_X12_guessed_18 σ f4 g5 a x1 (iOr x2 0) (x3 + 1) r)) ∧ (v7 = (-1) → ((0 ≤ x3 ∧ x3 < 31)) ∧ ((-2147483648 ≤ (x3 + 1) ∧ (x3 + 1) ≤ 2147483647)) ∧ (A_X12_guessed_18 σ f4 g5 a x1 (iOr x2 (p2 x3)) (x3 + 1) r))))))) : A_X12_guessed_18 σ f g a x1 x2 x3 r := (show Gx mt 7 cd_X12_guessed (il σ f g) b_X12_guessed_18 [some (vR 12 (some a)), some (vI x1), some (vI x2), some (vI x3)] [] r from (go_loadI rfl (go_loadA rfl (gi_getI (gq_icmp_ge (fun e3 => have h1 := h.1 e3; (go_loadI rfl (h1 ▸ gq_retI))) (fun e3 => have h2 := h.2 e3; (go_loadI rfl (go_loadA rfl (go_loadI rfl (go_loadI rfl (Exists.elim h2 fun f4 w11 => Exists.elim w11 fun g5 w12 => Exists.elim w12 fun v7 h6 => (go_callV rfl rfl rfl h6.1 (go_pushI rfl (gq_icmp_ne (fun e10 => have h8 := h6.2.1 e10; (go_pushI rfl (go_fall (go_ior rfl (go_stoI rfl rfl (go_iinc rfl h8.1 rfl (go_goto (h8.2)))))))) (fun e10 => have h9 := h6.2.2 e10; (go_pushI rfl (go_loadI rfl (go_ishl (iShl_1 h9.1) (go_goto (go_ior rfl (go_stoI rfl rfl (go_iinc rfl h9.2.1 rfl (go_goto (h9.2.2))))))))))))))))))))))))
theorem IW.fr {σ : St} {f f' : FI} {g : FL} {B w : Nat} {q md : Nat → Nat} (h : IW σ f g B w q md) (e1 : f' B 3 = f B 3) (e2 : f' (B + 165) 4 = f (B + 165) 4) (e3 : f' (B + 165 + 6) = f (B + 165 + 6)) (e4 : ∀ j, j < w → f' (q j) 0 = f (q j) 0) : IW σ f' g B w q md := by
  refine ⟨⟨h.1.1, by rw [e1]; exact h.1.2.1, by rw [e2]; exact h.1.2.2⟩, fun j hj => ?_⟩
  rw [e3, e4 j hj]
  exact h.2 j hj
theorem Shw.cong {R S : Nat → BitVec 64} (h : ∀ i, i < 8 → R i = S i) {v : Int} (hv : v < 512) : Shw R v ↔ Shw S v := by
  unfold Shw
  rw [many_cong h]
  constructor
  · rintro (z | ⟨z1, z2, z3⟩)
    · exact Or.inl z
    · exact Or.inr ⟨z1, z2, by rw [← rb_cong h (by omega)]; exact z3⟩
  · rintro (z | ⟨z1, z2, z3⟩)
    · exact Or.inl z
    · exact Or.inr ⟨z1, z2, by rw [rb_cong h (by omega)]; exact z3⟩
/-- what both answer of one wish: the class over the row of ends, the model by its ways -/
theorem both_shown {σ : St} {f fc : FI} {g : FL} {B w : Nat} {q md nn : Nat → Nat} {b s : Int} (hs : Sh11 σ B) (hm : Sh12 σ (B + 165)) (h : IW σ f g B w q md) (hB0 : ITb f B nn) (hL : IL f g B) (hE : IE f B) (hS : IS f B s) (hsl : s < 1999999000) (hb : 0 ≤ b ∧ b ≤ 255) (ec : ∀ a, a ≠ B + 143 → ¬ (B + 165 ≤ a) → fc a = f a) (hc : ∀ p : Nat, p < 512 → En f B p → fc (B + 143) p = enD (GB f g B b) (p : Int)) {j : Nat} (hj : j < w) : ∃ (v s' : Int) (f' : FI), Ex mt 3 48 (il σ fc g) [vR 3 (some (B + 43)), vR 10 (some (q j)), vR 14 (some (B + 143))] (il σ fc g, [vI v]) ∧ Ex mt 6 260 (il σ f g) [vR 12 (some (B + 165)), vI (j : Int), vI b] (il σ f' g, [vI v]) ∧ IS f' B s' ∧ s' ≤ s + 512 ∧ Fr (Scr B) f f' := by
  have hw := (h.2 j hj).2.1
  have w12 := h.1.1
  have en : fc (B + 43) = f (B + 43) := ec _ (by omega) (by omega)
  obtain ⟨v, hv, E1⟩ := x_firstUnlike (f := fc) (g := g) (e := B + 143) (E := fun p => enD (GB f g B b) (p : Int)) hs.net hs.net.l6 hw (by rw [en]; exact hE.2) (fun p hp hEp => ⟨hc p hp (by unfold En at hEp ⊢; rw [en] at hEp; exact hEp), by
    have := enD_lt (g := g) hB0.tcs (b := b) (p := (p : Int)) (by omega)
    omega⟩)
  obtain ⟨f', u, s', hu, E2, S2, s2, F2⟩ := x_shownBut (g := g) (b := b) (w := (j : Int)) hm hB0 hL hS hsl hb (by omega) (by rw [← hE.1]; exact hE.2)
  have : v = u := (hv.cong fun p hp => by
    have rg := enD_lt (g := g) hB0.tcs (b := b) (p := (p : Int)) (by omega)
    have hrow := h.row hj (p := (p : Int)) (by omega)
    unfold En
    rw [en, hE.1, Shw.cong hrow (by omega)]).one hu
  subst this
  exact ⟨v, s', f', E1, E2, S2, s2, F2⟩
theorem x_endsBy {σ : St} {f : FI} {g : FL} {B : Nat} {nn : Nat → Nat} {b : Int} (hs : Sh3 σ (B + 43)) (hb : 0 ≤ b ∧ b ≤ 255) (hT : TCs f B nn) (hen : 0 ≤ f (B + 43) 2 ∧ f (B + 43) 2 ≤ 255) : ∃ f' : FI, Ex mt 4 45 (il σ f g) [vR 3 (some (B + 43)), vI b] (il σ f' g, [vR 14 (some (B + 143))]) ∧ (∀ a, a ≠ B + 143 → f' a = f a) ∧ (∀ q : Nat, q < 512 → En f B q → f' (B + 143) q = enD (GB f g B b) (q : Int)) := by
  obtain ⟨f', E, a1, a2⟩ := x_fillEnds (g := g) (e := B + 143) hs hs.l6 (by omega) hb hT hen
  exact ⟨f', bk_X3_endsBy_0 hs ⟨f', g, E, rfl⟩, a1, a2⟩
theorem c_shown {σ : St} {f : FI} {g : FL} {B : Nat} (hs : Sh11 σ B) (hm : Sh12 σ (B + 165)) {w : Nat} {q md nn : Nat → Nat} {s : Int} (h : IW σ f g B w q md) (hq : ∀ j, j < w → B + 220 ≤ q j) (hB0 : ITb f B nn) (hL : IL f g B) (hE : IE f B) (hS : IS f B s) (hsl : s < 1999999000) {x y : Int} (rx : -2147483648 ≤ x ∧ x ≤ 2147483647) (ry : -2147483648 ≤ y ∧ y ≤ 2147483647) : ∃ (v : Int) (f1 f2 : FI), Ex mt 5 163 (il σ f g) [vR 11 (some B), vI x, vI y] (il σ f1 g, [vI v]) ∧ Ex mt 7 261 (il σ f1 g) [vR 12 (some (B + 165)), vI x, vI y] (il σ f2 g, [vI v]) ∧ (∃ s2, IS f2 B s2 ∧ s2 ≤ s + 512) ∧ Fr (fun a k => a = B + 143 ∨ (a = B + 165 ∧ 38 ≤ k ∧ k ≤ 41) ∨ a = B + 165 + 23 ∨ a = B + 165 + 24) f f2 := by
  have h1 := h.1
  by_cases hx : 0 ≤ x ∧ x < w
  · obtain ⟨j, rfl⟩ := Int.eq_ofNat_of_zero_le hx.1
    have hj : j < w := by omega
    by_cases hy : 0 ≤ y ∧ y ≤ 255
    · obtain ⟨f1, E0, a1, a2⟩ := x_endsBy (g := g) hs.net hy hB0.tcs hE.2
      have eT : SameT f f1 B := fun a h1 h2 => a1 a (by omega)
      have hB1 : ITb f1 B nn := hB0.fr eT fun a h1 h2 => a1 a (by omega)
      have hL1 : IL f1 g B := hL.fr (a1 _ (by omega)) (by rw [a1 _ (by omega)]) rfl
      have hE1 : IE f1 B := by unfold IE at hE ⊢; rw [a1 _ (by omega), a1 _ (by omega)]; exact hE
      have hS1 : IS f1 B s := ⟨⟨by rw [a1 _ (by omega)]; exact hS.1.1, hS.1.2⟩, fun i hi => by rw [a1 _ (by omega)]; exact hS.2 i hi⟩
      have h1' : IW σ f1 g B w q md := h.fr (by rw [a1 _ (by omega)]) (by rw [a1 _ (by omega)]) (a1 _ (by omega)) (fun i hi => by have := hq i hi; rw [a1 _ (by omega)])
      have eG : ∀ p : Int, enD (GB f1 g B y) p = enD (GB f g B y) p := fun p => enD_cong fun z hz => GB_of hz eT rfl
      obtain ⟨v, s', f2, E1, E2, S2, s2, F2⟩ := both_shown (fc := f1) hs hm h1' hB1 hL1 hE1 hS1 hsl hy (fun _ _ _ => rfl) (fun p hp hEp => by rw [eG]; exact a2 p hp (by unfold En at hEp ⊢; rw [a1 _ (by omega)] at hEp; exact hEp)) hj
      refine ⟨v, f1, f2, bk_X11_shown_0 hs (Or.inr ⟨f, g, _, x_wishAt1 hs h hj, fun _ => ⟨f1, g, _, E0, f1, g, _, E1, rfl⟩, fun z => absurd hy z⟩), bk_X12_shown_0 hm ?_, ⟨s', S2, s2⟩, fun a k hk => by rw [F2 a k (by unfold Scr; omega), a1 a (by omega)]⟩
      rw [a1 (B + 165) (by omega)]
      exact ⟨by omega, fun z => absurd (by omega) z, fun _ => ⟨by omega, fun z => absurd hy z, fun _ => ⟨f2, g, _, E2, rfl⟩⟩⟩
    · exact ⟨-2, f, f, bk_X11_shown_0 hs (Or.inr ⟨f, g, _, x_wishAt1 hs h hj, fun z => absurd z hy, fun _ => rfl⟩), bk_X12_shown_0 hm ⟨by omega, fun z => absurd (by omega) z, fun _ => ⟨by omega, fun _ => rfl, fun z => absurd z hy⟩⟩, ⟨s, hS, by omega⟩, Fr.rfl'⟩
  · exact ⟨-2, f, f, bk_X11_shown_0 hs (Or.inl ⟨f, g, x_wishAt0 hs h hx, rfl⟩), bk_X12_shown_0 hm ⟨by omega, fun _ => rfl, fun z => absurd (by omega) hx⟩, ⟨s, hS, by omega⟩, Fr.rfl'⟩
theorem c_guessed {σ : St} {f : FI} {g : FL} {B : Nat} (hs : Sh11 σ B) (hm : Sh12 σ (B + 165)) {w : Nat} {q md nn : Nat → Nat} {s : Int} (h : IW σ f g B w q md) (hq : ∀ j, j < w → B + 220 ≤ q j) (hB0 : ITb f B nn) (hL : IL f g B) (hE : IE f B) (hS : IS f B s) (hsl : s < 1999990000) {x : Int} (rx : -2147483648 ≤ x ∧ x ≤ 2147483647) : ∃ (v : Int) (f1 f2 : FI), Ex mt 5 164 (il σ f g) [vR 11 (some B), vI x] (il σ f1 g, [vI v]) ∧ Ex mt 7 262 (il σ f1 g) [vR 12 (some (B + 165)), vI x] (il σ f2 g, [vI v]) ∧ (∃ s2, IS f2 B s2 ∧ s2 ≤ s + 6144) ∧ Fr (fun a k => a = B + 143 ∨ (a = B + 165 ∧ 38 ≤ k ∧ k ≤ 41) ∨ a = B + 165 + 23 ∨ a = B + 165 + 24) f f2 := by
  have h1 := h.1
  by_cases hy : 0 ≤ x ∧ x ≤ 255
  · obtain ⟨f1, E0, a1, a2⟩ := x_endsBy (g := g) hs.net hy hB0.tcs hE.2
    have loop : ∀ k i : Nat, i + k = w → ∀ (u : Nat) (fi : FI) (si : Int), u < 2 ^ i → IS fi B si → si ≤ s + 512 * i → Fr (Scr B) f1 fi → ∃ (v : Int) (f2 : FI) (s2 : Int), A_X11_guessed_26 σ f1 g B (B + 143) (u : Int) (i : Int) (il σ f1 g, [vI v]) ∧ A_X12_guessed_18 σ fi g (B + 165) x (u : Int) (i : Int) (il σ f2 g, [vI v]) ∧ IS f2 B s2 ∧ s2 ≤ s + 512 * w ∧ Fr (Scr B) f1 f2 := by
      intro k
      induction k with
      | zero =>
        intro i hi u fi si hu hSi hsi hF
        obtain rfl : i = w := by omega
        refine ⟨u, fi, si, bk_X11_guessed_26 hs ⟨fun _ => rfl, fun z => absurd (by rw [a1 _ (by omega)]; omega) z⟩, bk_X12_guessed_18 hm ⟨fun _ => rfl, fun z => absurd (by rw [hF _ _ (by unfold Scr; omega), a1 _ (by omega)]; omega) z⟩, hSi, hsi, hF⟩
      | succ k ih =>
        intro i hi u fi si hu hSi hsi hF
        have hj : i < w := by omega
        have ef : ∀ a k, ¬ (a = B + 143 ∨ Scr B a k) → fi a k = f a k := fun a k hk => by rw [hF a k (fun z => hk (Or.inr z)), a1 a (fun z => hk (Or.inl z))]
        have eT : SameT f fi B := fun a h1 h2 => by
          funext k
          exact ef a k (by unfold Scr; omega)
        have hBi : ITb fi B nn := hB0.fr eT fun a h1 h2 => by
          funext k
          exact ef a k (by unfold Scr; omega)
        have hLi : IL fi g B := hL.fr (by
          funext k
          exact ef _ k (by unfold Scr; omega)) (ef _ _ (by unfold Scr; omega)) rfl
        have hEi : IE fi B := by unfold IE at hE ⊢; rw [ef _ _ (by unfold Scr; omega), ef _ _ (by unfold Scr; omega)]; exact hE
        have hWi : IW σ fi g B w q md := h.fr (ef _ _ (by unfold Scr; omega)) (ef _ _ (by unfold Scr; omega)) (by
          funext k
          exact ef _ k (by unfold Scr; omega)) (fun i hi => by have := hq i hi; exact ef _ _ (by unfold Scr; omega))
        have eG : ∀ p : Int, enD (GB fi g B x) p = enD (GB f g B x) p := fun p => enD_cong fun z hz => GB_of hz eT rfl
        obtain ⟨v, s', f2, E1, E2, S2, s2, F2⟩ := both_shown (fc := f1) hs hm hWi hBi hLi hEi hSi (by omega) hy (fun a ha1 ha2 => by
            funext k
            rw [a1 a ha1, ef a k (by unfold Scr; omega)]) (fun p hp hEp => by
            rw [eG]
            exact a2 p hp (by unfold En at hEp ⊢; rw [ef _ _ (by unfold Scr; omega)] at hEp; exact hEp)) hj
        have hu2 : u < 2147483648 := Nat.lt_of_lt_of_le hu (Nat.le_trans (pow31 (by omega)) (by decide))
        have hpw : 2 ^ i < 2 ^ (i + 1) := p2_lt (by omega)
        have f3 : ¬ f1 B 3 ≤ (i : Int) := by rw [a1 _ (by omega)]; omega
        have f4 : ¬ fi (B + 165) 4 ≤ (i : Int) := by rw [ef _ _ (by unfold Scr; omega)]; omega
        by_cases hv : v = -1
        · obtain ⟨v', f3', s3, A1, A2, A3⟩ := ih (i + 1) (by omega) (u ||| 2 ^ i) f2 s' (or_lt (by omega) (by omega)) S2 (by omega) (hF.trans F2)
          rw [← iOr_p2 hu2 (by omega)] at A1 A2
          exact ⟨v', f3', s3, bk_X11_guessed_26 hs ⟨fun z => absurd z f3, fun _ => ⟨by omega, q i, (h.2 i hj).1, f1, g, _, E1, fun z => absurd hv z, fun _ => ⟨by omega, by omega, A1⟩⟩⟩, bk_X12_guessed_18 hm ⟨fun z => absurd z f4, fun _ => ⟨f2, g, _, E2, fun z => absurd hv z, fun _ => ⟨by omega, by omega, A2⟩⟩⟩, A3⟩
        · obtain ⟨v', f3', s3, A1, A2, A3⟩ := ih (i + 1) (by omega) u f2 s' (by omega) S2 (by omega) (hF.trans F2)
          refine ⟨v', f3', s3, bk_X11_guessed_26 hs ⟨fun z => absurd z f3, fun _ => ⟨by omega, q i, (h.2 i hj).1, f1, g, _, E1, fun _ => ⟨by omega, A1⟩, fun z => absurd z hv⟩⟩, bk_X12_guessed_18 hm ⟨fun z => absurd z f4, fun _ => ⟨f2, g, _, E2, fun _ => ⟨by omega, ?_⟩, fun z => absurd z hv⟩⟩, A3⟩
          rw [iOr_0 hu2]
          exact A2
    have hS1 : IS f1 B s := ⟨⟨by rw [a1 _ (by omega)]; exact hS.1.1, hS.1.2⟩, fun i hi => by rw [a1 _ (by omega)]; exact hS.2 i hi⟩
    obtain ⟨v, f2, s2, A1, A2, S2, s3, F2⟩ := loop w 0 (by omega) 0 f1 s (by decide) hS1 (by omega) Fr.rfl'
    exact ⟨v, f1, f2, bk_X11_guessed_0 hs ⟨fun _ => ⟨f1, g, _, E0, A1⟩, fun z => absurd hy z⟩, bk_X12_guessed_0 hm ⟨by omega, fun _ => A2, fun z => absurd hy z⟩, ⟨s2, S2, by omega⟩, fun a k hk => by rw [F2 a k (by unfold Scr; omega), a1 a (by omega)]⟩
  · exact ⟨-1, f, f, bk_X11_guessed_0 hs ⟨fun z => absurd z hy, fun _ => rfl⟩, bk_X12_guessed_0 hm ⟨by omega, fun z => absurd z hy, fun _ => rfl⟩, ⟨s, hS, by omega⟩, Fr.rfl'⟩
