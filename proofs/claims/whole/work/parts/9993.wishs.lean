/-! the class makes a wish of a tree -/
theorem x_wishS {σ : St} {f fc : FI} {g : FL} {B w N : Nat} {wt : Nat → Nat} {x : Int} {K L R : FN} (hs : Sh11 σ B) (hM0 : MkI σ (B + 13) wt) (hS : Stat σ f) (hl : Lo σ B) (hB : B + 220 ≤ nx σ) (h0 : 0 < B) (hw : w < 12) (h3 : f B 3 = (w : Int)) (hx : 0 ≤ x ∧ x ≤ 3) (E1 : Ex mt 5 50 (il σ f g) [vR 4 (some (B + 5)), vR 14 (some (B + 1)), vI (f B 1)] (il (wR σ (B + 5) 3 (some (B + 1))) fc g, [vI 0])) (Fc : FCr B f fc) (hv : Wf K L R N ∧ Pf K L R N ∧ (ev K L R N).1 = 1) (hN : 1 ≤ N ∧ N ≤ 200) (c3 : fc (B + 6) 3 = (N : Int)) (hH : Hld fc (B + 6) N K L R) : ∃ (σ' : St) (f' : FI) (g' : FL) (wt' : Nat → Nat) (md rn : Nat), Ex mt 7 144 (il σ f g) [vR 11 (some B), vI x] (il σ' f' g', [vI (w : Int)]) ∧ ExW B σ σ' ∧ nx σ' ≤ nx σ + 27 ∧ sl σ' ≤ sl σ + 90000 ∧ (∀ j, gR σ' (B + 2) j = if j = w then some (nx σ + 4) else gR σ (B + 2) j) ∧ (gR σ' (nx σ + 4) 1 = some (nx σ) ∧ gR σ' (nx σ + 4) 2 = some md ∧ gR σ' (nx σ + 4) 3 = some rn ∧ ln σ' md = 4096 ∧ ln σ' rn = 8) ∧ (nx σ + 5 ≤ rn ∧ rn < nx σ') ∧ (B + 220 ≤ md ∨ md = wt 0) ∧ md < nx σ' ∧ (md = wt 0 ∨ nx σ ≤ md) ∧ MkI σ' (B + 13) wt' ∧ (∀ j, j < 20 → wt' j = wt j ∨ nx σ ≤ wt' j) ∧ (∀ j, j < 20 → wt' j ≠ md) ∧ Is (g' md) ((ev K L R N).2 0) ∧ (f' (nx σ + 4) 0 = x ∧ f' (nx σ + 4) 4 = 0 ∧ ∀ j, f' rn j = 0) ∧ Sh9 σ' (nx σ) N ∧ f' (nx σ) 3 = (N : Int) ∧ Hld f' (nx σ) N K L R ∧ (f' B 1 = 0 ∧ f' B 3 = ((w + 1 : Nat) : Int)) ∧ (∀ c j, c < nx σ → ¬ (B + 5 ≤ c ∧ c ≤ B + 11) → ¬ (c = B ∧ (j = 1 ∨ j = 3)) → ¬ (c = B + 13 ∧ j = 2) → f' c j = f c j) ∧ ∀ c, c < nx σ → c ≠ B + 13 + 22 → (∀ j, j < 20 → wt j ≠ c) → g' c = g c := by
  obtain ⟨σa, ea⟩ : ∃ y, y = wR σ (B + 5) 3 (some (B + 1)) := ⟨_, rfl⟩
  have Wa : ExW B σ σa := by rw [ea]; exact exw_text
  have na : nx σa = nx σ := by rw [ea]; rfl
  have sa : sl σa = sl σ := by rw [ea]; rfl
  rw [← ea] at E1
  have hsa := Wa.sh11 hB hs
  -- the copy
  obtain ⟨fa, hfa⟩ : ∃ y : FI, y = up2 fc B 1 0 := ⟨_, rfl⟩
  have fao : ∀ c j, ¬ (c = B ∧ j = 1) → fa c j = fc c j := fun c j hc => by rw [hfa]; unfold up2; rw [if_neg hc]
  obtain ⟨σb, fb, gb, E2, e2, n2, s2, sh2, t3, tH, k2⟩ := x_copied (σ := σa) (f := fa) (g := g) (b := B + 6) hsa.o6.2.1 (by omega) hN (by rw [fao _ _ (by omega)]; exact c3) (fun i hi => by rw [fao _ _ (by omega), fao _ _ (by omega), fao _ _ (by omega)]; exact hH i hi)
  rw [na] at n2 sh2 t3 tH k2 E2
  rw [sa] at s2
  -- the wish's cell
  obtain ⟨σc, ec⟩ : ∃ y, y = mk σb 10 0 5 := ⟨_, rfl⟩
  have e3 : Ext σb σc := by rw [ec]; exact Ext.mk _ _ _ _
  have n3 : nx σc = nx σ + 5 := by rw [ec, mk_nx]; omega
  have s3 : sl σc = sl σb + 5 := by rw [ec, mk_sl]
  have Wc : ExW B σ σc := Wa.trans ((e2.trans e3).w)
  have Wb : ExW B σ σb := Wa.trans e2.w
  have hsb := Wb.sh11 hB hs
  have hsc := Wc.sh11 hB hs
  obtain ⟨fd, hfd⟩ : ∃ y : FI, y = up1 fb (nx σb) (fun _ => 0) := ⟨_, rfl⟩
  have fdo : ∀ c, c < nx σ + 4 → fd c = fb c := fun c hc => by rw [hfd, up1_ne' (by omega)]
  have fco : ∀ c j, c < nx σ → ¬ (B + 5 ≤ c ∧ c ≤ B + 11) → ¬ (c = B ∧ j = 1) → fd c j = f c j := fun c j hc h1 h2 => by
    rw [fdo c (by omega), (k2 c hc).1, fao c j h2]
    exact Fc c j (by omega)
  have stc := (ExW.stat (f' := fd) hS hl Wc (by omega) h0 (fun c hc k => fco c k (by omega) (by omega) (by omega)))
  have shc : Sh9 σc (nx σ) N := ⟨((e3.2 _ (by omega)).2.2 0).trans sh2.1, (e3.2 _ (by omega)).1.trans sh2.2.1, ((e3.2 _ (by omega)).2.2 1).trans sh2.2.2.1, (e3.2 _ (by omega)).1.trans sh2.2.2.2.1, ((e3.2 _ (by omega)).2.2 2).trans sh2.2.2.2.2.1, (e3.2 _ (by omega)).1.trans sh2.2.2.2.2.2⟩
  have M1 : MkI σa (B + 13) wt := fun j hj => by
    obtain ⟨q1, q2, q3, q4⟩ := hM0 j hj
    rw [ea]
    exact ⟨by rw [wR_gR, if_neg (by omega)]; exact q1, q2, q3, q4⟩
  have Mc : MkI σc (B + 13) wt := (M1.ext e2 (by omega)).ext e3 (by omega)
  have tHd : Hld fd (nx σ) N K L R := fun i hi => by rw [fdo _ (by omega), fdo _ (by omega), fdo _ (by omega)]; exact tH i hi
  obtain ⟨σd, fe, ge, wt', md, E4, e4, n4, s4, M4, w4, l4, ⟨m4, m5, m6⟩, d4, I4, k4, g4⟩ := x_relationOf (σ := σc) (f := fd) (g := up1 gb (nx σb) (fun _ => 0)) (A := B + 13) (t := nx σ) (B := B) (wt := wt) hsc.o7 Mc shc stc.1 stc.2 (by omega) (by omega) (by omega) (by omega) (by rw [fdo _ (by omega)]; exact t3) hN.2 tHd hv.1 hv.2.1 hv.2.2
  have shd : Sh9 σd (nx σ) N := e4.sh9 (by omega) (by omega) shc
  have nd : nx σ + 5 ≤ nx σd := by have := e4.1; omega
  obtain ⟨σe, ff, gf, E5, n5, s5, ⟨r1, r2, r3, r4⟩, k5, x5, z5, o5, p5⟩ := x_init10 (σ := σd) (f := fe) (g := ge) (a := nx σ + 4) (t := nx σ) (md := md) (x := x) shd (by omega)
  have Wd := Wc.trans e4.w
  have We : ExW B σ σe := ⟨by omega, fun c hc => by
    obtain ⟨a1, a2, a3⟩ := Wd.2 c hc
    obtain ⟨b1, b2, b3⟩ := k5 c (by omega)
    exact ⟨b1.trans a1, b2.trans a2, fun k h1 h2 h3 => (b3 k (by omega)).trans (a3 k h1 h2 h3)⟩⟩
  have fb3 : fb B 3 = (w : Int) := by
    rw [(k2 B (by omega)).1, fao _ _ (by omega), Fc _ _ (by omega)]
    exact h3
  have ff3 : ff B 3 = (w : Int) := by
    rw [o5 _ _ (by omega) (by omega), k4 _ _ (by omega) (by omega), fdo _ (by omega)]
    exact fb3
  have l12 : ln σe (B + 2) = 12 := (We.2 _ (by omega)).1.trans hs.2.2.2.1
  rw [hfa] at E2
  rw [ec, hfd] at E4
  rw [← n2] at E5
  rw [ec] at hsc
  have ffo : ∀ c j, c < nx σ + 4 → ¬ (c = B + 13 ∧ j = 2) → ff c j = fb c j := fun c j hc h1 => by
    rw [o5 _ _ (by omega) (by omega), k4 _ _ (by omega) h1, fdo _ (by omega)]
  refine ⟨wR σe (B + 2) w (some (nx σ + 4)), up2 ff B 3 ((w + 1 : Nat) : Int), gf, wt', md, nx σd, bk_X11_wish_0 hs ⟨fun y => absurd y (by rw [h3]; omega), fun _ => ⟨fun _ => ⟨σa, fc, g, 0, E1, fun _ => ⟨hsa, σb, fb, gb, nx σ, E2, ⟨hsb, hsc⟩, σd, fe, ge, md, E4, σe, ff, gf, E5, ?_⟩, fun y => absurd rfl y⟩, fun y => absurd hx y⟩⟩, ⟨by rw [wR_nx]; exact We.1, fun c hc => ⟨(We.2 c hc).1, (We.2 c hc).2.1, fun k h1 h2 h3 => by rw [wR_gR, if_neg (fun z => h2 z.1)]; exact (We.2 c hc).2.2 k h1 h2 h3⟩⟩, by rw [wR_nx]; omega, by rw [wR_sl]; omega, fun j => ?_, ⟨?_, ?_, ?_, ?_, ?_⟩, ⟨by omega, by rw [wR_nx]; omega⟩, by omega, by rw [wR_nx]; omega, by omega, fun j hj => ?_, fun j hj => ?_, d4, ?_, ⟨by rw [u2_a (by omega)]; exact x5, ?_, fun j => by rw [u2_a (by omega)]; exact z5 j⟩, ?_, ?_, fun i hi => ?_, ⟨?_, u2_s⟩, fun c j hc h1 h2 h3' => ?_, fun c hc h1 h2 => ?_⟩
  · rw [fb3, ff3, n2, l12, show ((w : Int)).toNat = w from rfl, show (w : Int) + 1 = ((w + 1 : Nat) : Int) by omega, show ((w + 1 : Nat) : Int) - 1 = (w : Int) by omega]
    exact ⟨⟨by omega, by omega, by omega⟩, rfl⟩
  · rw [wR_gR]
    by_cases e : j = w
    · rw [if_pos ⟨rfl, e⟩, if_pos e]
    · rw [if_neg (fun z => e z.2), if_neg e, (k5 _ (by omega)).2.2 j (by omega), (e4.2 _ (by omega)).2.2 j (by omega), ((e2.trans e3).2 _ (by omega)).2.2 j, ea, wR_gR, if_neg (by omega)]
  · rw [wR_gR, if_neg (by omega)]
    exact r1
  · rw [wR_gR, if_neg (by omega)]
    exact r2
  · rw [wR_gR, if_neg (by omega)]
    exact r3
  · rw [wR_ln, (k5 md m5).1]
    exact l4
  · rw [wR_ln]
    exact r4
  · obtain ⟨q1, q2, q3, q4⟩ := M4 j hj
    exact ⟨by rw [wR_gR, if_neg (by omega), (k5 _ (by omega)).2.2 j (by omega)]; exact q1, by rw [wR_nx]; omega, by rw [wR_ln, (k5 _ q2).1]; exact q3, q4⟩
  · have := w4 j hj
    omega
  · rw [p5 md m5]
    exact I4
  · rw [u2_a (by omega), o5 _ _ (by omega) (by omega), k4 _ _ (by omega) (by omega), hfd, n2, up1_at']
  · exact ⟨by rw [wR_gR, if_neg (by omega), (k5 _ (by omega)).2.2 0 (by omega)]; exact shd.1, by rw [wR_ln, (k5 _ (by omega)).1]; exact shd.2.1, by rw [wR_gR, if_neg (by omega), (k5 _ (by omega)).2.2 1 (by omega)]; exact shd.2.2.1, by rw [wR_ln, (k5 _ (by omega)).1]; exact shd.2.2.2.1, by rw [wR_gR, if_neg (by omega), (k5 _ (by omega)).2.2 2 (by omega)]; exact shd.2.2.2.2.1, by rw [wR_ln, (k5 _ (by omega)).1]; exact shd.2.2.2.2.2⟩
  · rw [u2_a (by omega), ffo _ _ (by omega) (by omega)]
    exact t3
  · rw [u2_a (by omega), u2_a (by omega), u2_a (by omega), ffo _ _ (by omega) (by omega), ffo _ _ (by omega) (by omega), ffo _ _ (by omega) (by omega)]
    exact tH i hi
  · rw [u2_i (by decide), ffo _ _ (by omega) (by omega), (k2 B (by omega)).1, hfa, u2_s]
  · have e : up2 ff B 3 ((w + 1 : Nat) : Int) c j = ff c j := by
      unfold up2
      rw [if_neg (by omega)]
    rw [e, o5 _ _ (by omega) (by omega), k4 _ _ (by omega) h3']
    exact fco c j hc h1 (by omega)
  · rw [p5 c (by omega), g4 c (by omega) h1 h2, up1_ne' (by omega)]
    exact (k2 c hc).2
