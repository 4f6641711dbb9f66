/-! the call wish -/
/-- all that a wish is, in the class and in the model -/
def WI (σ : St) (f : FI) (g : FL) (B w : Nat) (q md tr rn wt : Nat → Nat) : Prop := IW σ f g B w q md ∧ TrW σ f B w q tr ∧ IN σ f B w q rn ∧ LY B w q rn ∧ MkI σ (B + 13) wt ∧ (∀ j, j < w → B + 220 ≤ md j ∧ q j < nx σ ∧ md j < nx σ ∧ rn j < nx σ ∧ tr j + 3 < nx σ) ∧ (∀ j, j < 20 → (wt j ≤ B + 35 ∨ B + 220 ≤ wt j) ∧ ∀ i, i < w → wt j ≠ md i) ∧ ∀ i j e, i < w → j < w → e ≤ 3 → tr j + e ≠ rn i ∧ tr j + e ≠ q i
/-- the skeleton grew; the old cells are as they were, but for some below B + 220 -/
def KWs (B : Nat) (σ σ' : St) : Prop := nx σ ≤ nx σ' ∧ ∀ a, a < nx σ → ln σ' a = ln σ a ∧ ∀ k, (B + 220 ≤ a ∨ a = B + 2 ∨ a = B + 14) → gR σ' a k = gR σ a k
theorem WI.fr' {σ σ' : St} {f f' : FI} {g g' : FL} {B w : Nat} {q md tr rn wt : Nat → Nat} (h : WI σ f g B w q md tr rn wt) (hB : B + 220 ≤ nx σ) (hk : KWs B σ σ') (hN : IN σ' f' B w q rn) (hq : ∀ j, j < w → f' (q j) 0 = f (q j) 0) (ht : ∀ j e k, j < w → e ≤ 3 → f' (tr j + e) k = f (tr j + e) k) (h3 : f' B 3 = f B 3) (h4 : f' (B + 165) 4 = f (B + 165) 4) (hM : ∀ a k, (B + 165 + 2 ≤ a ∧ a ≤ B + 165 + 4 ∧ k < 300 * w) ∨ ((a = B + 165 + 5 ∨ a = B + 165 + 6) ∧ k < w) → f' a k = f a k) (hg : ∀ j, j < w → g' (md j) = g (md j)) (hg2 : g' (B + 165 + 10) = g (B + 165 + 10)) : WI σ' f' g' B w q md tr rn wt := by
  obtain ⟨hI, hT, hN0, hY, hM0, hb, hw, ha⟩ := h
  refine ⟨⟨⟨hI.1.1, h3.trans hI.1.2.1, h4.trans hI.1.2.2⟩, fun j hj => ?_⟩, fun j hj => ?_, hN, hY, fun j hj => ?_, fun j hj => ?_, hw, ha⟩
  · obtain ⟨a1, ⟨a2, a3⟩, a4, a5, a6⟩ := hI.2 j hj
    have b := hb j hj
    have y := (hY j j hj hj).1
    refine ⟨((hk.2 _ (by omega)).2 j (by omega)).trans a1, ⟨((hk.2 _ (by omega)).2 2 (by omega)).trans a2, (hk.2 _ (by omega)).1.trans a3⟩, fun i hi => ?_, ?_⟩
    · rw [hg j hj, hg2]
      exact a4 i hi
    · rw [hq j hj, hM _ _ (Or.inr ⟨Or.inr rfl, hj⟩)]
      exact ⟨a5, a6⟩
  · obtain ⟨a1, a2, N, K, L, R, s9, t3, hH, hWf, hNN, hlv, hbT, m5, mt⟩ := hT j hj
    have b := hb j hj
    have y := (hY j j hj hj).1
    have k3 : f' (tr j) 3 = f (tr j) 3 := ht j 0 3 hj (by omega)
    refine ⟨((hk.2 _ (by omega)).2 1 (by omega)).trans a1, a2, N, K, L, R, ⟨((hk.2 _ (by omega)).2 0 (by omega)).trans s9.1, (hk.2 _ (by omega)).1.trans s9.2.1, ((hk.2 _ (by omega)).2 1 (by omega)).trans s9.2.2.1, (hk.2 _ (by omega)).1.trans s9.2.2.2.1, ((hk.2 _ (by omega)).2 2 (by omega)).trans s9.2.2.2.2.1, (hk.2 _ (by omega)).1.trans s9.2.2.2.2.2⟩, k3.trans t3, fun i hi => ?_, hWf, hNN, hlv, hbT, (hM _ _ (Or.inr ⟨Or.inl rfl, hj⟩)).trans m5, fun i hi => ?_⟩
    · rw [ht j 1 i hj (by omega), ht j 2 i hj (by omega), ht j 3 i hj (by omega)]
      exact hH i hi
    · rw [hM _ _ (Or.inl ⟨by omega, by omega, by omega⟩), hM _ _ (Or.inl ⟨by omega, by omega, by omega⟩), hM _ _ (Or.inl ⟨by omega, by omega, by omega⟩)]
      exact mt i hi
  · obtain ⟨q1, q2, q3, q4⟩ := hM0 j hj
    have n := hk.1
    exact ⟨((hk.2 _ (by omega)).2 j (by omega)).trans q1, by omega, by rw [(hk.2 _ q2).1]; exact q3, q4⟩
  · have b := hb j hj
    have n := hk.1
    omega
theorem IN.fr {σ σ' : St} {f f' : FI} {B w : Nat} {q rn : Nat → Nat} (h : IN σ f B w q rn) (hq : ∀ j, j < w → gR σ' (q j) 3 = gR σ (q j) 3 ∧ ln σ' (rn j) = ln σ (rn j)) (h1 : ∀ j k, j < w → f' (rn j) k = f (rn j) k) (h2 : ∀ j, j < w → f' (q j) 4 = f (q j) 4) (h3 : ∀ k, f' (B + 165 + 36) k = f (B + 165 + 36) k) (h4 : ∀ k, f' (B + 165 + 37) k = f (B + 165 + 37) k) : IN σ' f' B w q rn := by
  refine ⟨fun j hj => ?_, fun k k1 k2 => (h3 k).trans (h.2.1 k k1 k2), fun k k1 k2 => (h4 k).trans (h.2.2 k k1 k2)⟩
  obtain ⟨⟨a1, a2⟩, a3, a4⟩ := h.1 j hj
  refine ⟨⟨(hq j hj).1.trans a1, (hq j hj).2.trans a2⟩, fun b hb => ?_, ?_⟩
  · rw [h1 j b hj, h3]
    exact a3 b hb
  · rw [h2 j hj, h4]
    exact a4
theorem WI.fr {σ σ' : St} {f f' : FI} {g g' : FL} {B w : Nat} {q md tr rn wt : Nat → Nat} (h : WI σ f g B w q md tr rn wt) (hB : B + 220 ≤ nx σ) (hk : KWs B σ σ') (hf : ∀ a k, (B + 220 ≤ a ∧ a < nx σ) ∨ (a = B ∧ k = 3) ∨ (a = B + 165 ∧ k = 4) ∨ (B + 165 + 2 ≤ a ∧ a ≤ B + 165 + 4 ∧ k < 300 * w) ∨ a = B + 165 + 5 ∨ a = B + 165 + 6 ∨ a = B + 165 + 36 ∨ a = B + 165 + 37 → f' a k = f a k) (hg : ∀ a, (B + 220 ≤ a ∧ a < nx σ) → g' a = g a) (hg2 : g' (B + 165 + 10) = g (B + 165 + 10)) : WI σ' f' g' B w q md tr rn wt := by
  obtain ⟨hI, hT, hN0, hY, hM0, hb, hw, ha⟩ := id h
  refine h.fr' hB hk (hN0.fr (fun j hj => ?_) (fun j k hj => hf _ _ ?_) (fun j hj => hf _ _ ?_) (fun k => hf _ _ (by omega)) (fun k => hf _ _ (by omega))) (fun j hj => hf _ _ ?_) (fun j e k hj he => hf _ _ ?_) (hf _ _ (by omega)) (hf _ _ (by omega)) (fun a k z => hf _ _ (by omega)) (fun j hj => hg _ ?_) hg2
  · have b := hb j hj
    have y := (hY j j hj hj).1
    exact ⟨(hk.2 _ (by omega)).2 3 (by omega), (hk.2 _ (by omega)).1⟩
  · have b := hb j hj
    have y := (hY j j hj hj).1
    omega
  · have b := hb j hj
    have y := (hY j j hj hj).1
    omega
  · have b := hb j hj
    have y := (hY j j hj hj).1
    omega
  · have b := hb j hj
    have y := (hT j hj).2.1
    omega
  · have b := hb j hj
    omega
/-- what a wish may change -/
def WsS (σ : St) (B a k : Nat) : Prop := nx σ ≤ a ∨ (B + 5 ≤ a ∧ a ≤ B + 11) ∨ (a = B ∧ (k = 1 ∨ k = 3)) ∨ (a = B + 13 ∧ k = 2) ∨ (a = B + 165 ∧ ((1 ≤ k ∧ k ≤ 8) ∨ k = 17 ∨ k = 18)) ∨ (B + 165 + 2 ≤ a ∧ a ≤ B + 165 + 8)
def up3 (q : Nat → Nat) (w v : Nat) : Nat → Nat := fun j => if j = w then v else q j
theorem up3_s {q : Nat → Nat} {w v : Nat} : up3 q w v w = v := if_pos rfl
theorem up3_n {q : Nat → Nat} {w v j : Nat} (h : j ≠ w) : up3 q w v j = q j := if_neg h
theorem rdy_fr {σ σ' : St} {f f' : FI} {B w n : Nat} {T : Nat → Int} (h : Rdy σ f (B + 165) w T n) (hs : Sh12 σ' (B + 165)) (hf : ∀ a k, (a = B + 165 ∨ a = B + 165 + 1) → f' a k = f a k) : Rdy σ' f' (B + 165) w T n := ⟨hs, (hf _ _ (Or.inl rfl)).trans h.2.1, fun i hi => by rw [hf _ _ (Or.inr rfl)]; exact h.2.2.1 i hi, (hf _ _ (Or.inl rfl)).trans h.2.2.2⟩
theorem wish_fail {σ : St} {f fc : FI} {g : FL} {B w n : Nat} {q md tr rn wt : Nat → Nat} {x F : Int} {T : Nat → Int} (hs : Sh11 σ B) (hm : Sh12 σ (B + 165)) (hW : WI σ f g B w q md tr rn wt) (hB : B + 220 ≤ nx σ) (hw : w < 12) (rx : -2147483648 ≤ x ∧ x ≤ 2147483647) (hx : 0 ≤ x ∧ x ≤ 3) (E1 : Ex mt 5 50 (il σ f g) [vR 4 (some (B + 5)), vR 14 (some (B + 1)), vI (f B 1)] (il (wR σ (B + 5) 3 (some (B + 1))) fc g, [vI F])) (Fc : FCr B f fc) (rdy : Rdy σ f (B + 165) w T n) (hF : 1 ≤ F ∧ F ≤ 1700) (hM : ∀ (σm : St) (fm : FI) (gm : FL) (x1 : Int), Rdy σm fm (B + 165) w T n → ∃ (fm' : FI) (vm : Int), (∀ r, A_X12_wish_65 σm fm' gm (B + 165) x1 vm r → A_X12_wish_65 σm (ini fm (B + 165)) gm (B + 165) x1 1 r) ∧ FMr (B + 165) w fm fm' ∧ fm' (B + 165) 3 = F) : ∃ (σ1 : St) (v : Int) (f1 f2 : FI), Ex mt 7 144 (il σ f g) [vR 11 (some B), vI x] (il σ1 f1 g, [vI v]) ∧ Ex mt 5 222 (il σ1 f1 g) [vR 12 (some (B + 165)), vI x] (il σ1 f2 g, [vI v]) ∧ WI σ1 f2 g B w q md tr rn wt ∧ IT f2 B ∧ ExW B σ σ1 ∧ nx σ1 = nx σ ∧ sl σ1 = sl σ ∧ Fr (WsS σ B) f f2 := by
  obtain ⟨σa, ea⟩ : ∃ y, y = wR σ (B + 5) 3 (some (B + 1)) := ⟨_, rfl⟩
  have Wa : ExW B σ σa := by rw [ea]; exact exw_text
  rw [← ea] at E1
  have hma := (Wa.ks hB hs.o10).sh12 hm
  obtain ⟨fa, hfa⟩ : ∃ y : FI, y = up2 fc B 1 0 := ⟨_, rfl⟩
  have fao : ∀ c j, ¬ (c = B ∧ j = 1) → (c < B + 5 ∨ B + 11 < c) → fa c j = f c j := fun c j hc h2 => by
    rw [hfa]
    unfold up2
    rw [if_neg hc]
    exact Fc c j h2
  obtain ⟨fm', vm, KM, FM, e3⟩ := hM σa fa g x (rdy_fr rdy hma (fun a k ha => fao _ _ (by omega) (by omega)))
  have e4 : fa (B + 165) 4 = (w : Int) := (fao _ _ (by omega) (by omega)).trans rdy.2.2.2
  have EM : A_X12_wish_65 σa fm' g (B + 165) x vm (il σa (up2 fm' (B + 165) 1 0) g, [vI (-2 - F)]) := bk_X12_wish_65 hma (by
    rw [e3]
    exact ⟨fun _ => ⟨fun y => by omega, fun _ => ⟨by omega, rfl⟩⟩, fun _ => ⟨fun _ => ⟨fun y => by omega, fun _ => ⟨by omega, rfl⟩⟩, fun y => by omega⟩⟩)
  have f2o : ∀ a k, ¬ (a = B + 165 ∧ (k = 1 ∨ k = 2 ∨ k = 3 ∨ (5 ≤ k ∧ k ≤ 8) ∨ k = 17 ∨ k = 18)) → ¬ ((B + 165 + 2 ≤ a ∧ a ≤ B + 165 + 4) ∧ 300 * w ≤ k) → a ≠ B + 165 + 7 → a ≠ B + 165 + 8 → ¬ (a = B ∧ k = 1) → (a < B + 5 ∨ B + 11 < a) → up2 fm' (B + 165) 1 0 a k = f a k := fun a k h1 h2 h3 h4 h5 h6 => by
    have e : up2 fm' (B + 165) 1 0 a k = fm' a k := by
      unfold up2
      rw [if_neg (by omega)]
    rw [e, FM a k (by omega) h2 h3 h4]
    exact fao a k h5 h6
  refine ⟨σa, -2 - F, fa, up2 fm' (B + 165) 1 0, bk_X11_wish_0 hs ⟨fun y => ?_, fun _ => ⟨fun _ => ⟨σa, fc, g, F, E1, fun y => by omega, fun _ => ⟨by omega, by rw [hfa]⟩⟩, fun y => absurd hx y⟩⟩, bk_X12_wish_0 hma ⟨fun y => by rw [e4] at y; omega, fun _ => ⟨rx, fun _ => KM _ EM, fun y => absurd hx y⟩⟩, ?_, ?_, Wa, by rw [ea]; rfl, by rw [ea]; rfl, fun a k hk => ?_⟩
  · have := hW.1.1.2.1
    rw [this] at y
    omega
  · refine hW.fr hB ⟨Wa.1, fun a ha => ⟨(Wa.2 a ha).1, fun k z => ?_⟩⟩ (fun a k z => f2o a k (by omega) (by omega) (by omega) (by omega) (by omega) (by omega)) (fun _ _ => rfl) rfl
    rw [ea, wR_gR, if_neg (by omega)]
  · have b1 : up2 fm' (B + 165) 1 0 B 1 = 0 := by
      rw [u2_a (by omega), FM B 1 (by omega) (by omega) (by omega) (by omega), hfa, u2_s]
    exact ⟨⟨by rw [b1, u2_s], by rw [b1]; omega, by rw [b1]; omega⟩, fun i hi => by rw [b1] at hi; omega⟩
  · unfold WsS at hk
    exact f2o a k (by omega) (by omega) (by omega) (by omega) (by omega) (by omega)
theorem wish_works {σ : St} {f fc : FI} {g : FL} {B w n N : Nat} {q md tr rn wt : Nat → Nat} {x : Int} {T : Nat → Int} {K L R : FN} (hs : Sh11 σ B) (hm : Sh12 σ (B + 165)) (hW : WI σ f g B w q md tr rn wt) (hS : Stat σ f) (hl : Lo σ B) (h0 : 0 < B) (hB : B + 220 ≤ nx σ) (hw : w < 12) (rx : -2147483648 ≤ x ∧ x ≤ 2147483647) (hx : 0 ≤ x ∧ x ≤ 3) (E1 : Ex mt 5 50 (il σ f g) [vR 4 (some (B + 5)), vR 14 (some (B + 1)), vI (f B 1)] (il (wR σ (B + 5) 3 (some (B + 1))) fc g, [vI 0])) (Fc : FCr B f fc) (rdy : Rdy σ f (B + 165) w T n) (hv : Wf K L R N ∧ Pf K L R N ∧ (ev K L R N).1 = 1) (hN : 1 ≤ N ∧ N ≤ 200) (hlv : lv K L R (N - 1) ≤ 40) (hbT : (bT K L R (N - 1)).length ≤ 200) (c3 : fc (B + 6) 3 = (N : Int)) (hH : Hld fc (B + 6) N K L R) (hM : ∀ (σm : St) (fm : FI) (gm : FL) (x1 : Int), Rdy σm fm (B + 165) w T n → ∃ (fm' : FI) (vm : Int), (∀ r, A_X12_wish_65 σm fm' gm (B + 165) x1 vm r → A_X12_wish_65 σm (ini fm (B + 165)) gm (B + 165) x1 1 r) ∧ FMr (B + 165) w fm fm' ∧ (fm' (B + 165) 3 = 0 ∧ fm' (B + 165) 18 = 1 ∧ fm' (B + 165) 4 = (w : Int)) ∧ fm' (B + 165) 5 = (N : Int) ∧ ∀ i, i < N → fm' (B + 165 + 2) (300 * w + i) = swp (K i) ∧ fm' (B + 165 + 3) (300 * w + i) = L i ∧ fm' (B + 165 + 4) (300 * w + i) = R i) : ∃ (q' md' tr' rn' wt' : Nat → Nat) (σ1 : St) (v : Int) (f1 f2 : FI) (g1 g2 : FL), Ex mt 7 144 (il σ f g) [vR 11 (some B), vI x] (il σ1 f1 g1, [vI v]) ∧ Ex mt 5 222 (il σ1 f1 g1) [vR 12 (some (B + 165)), vI x] (il σ1 f2 g2, [vI v]) ∧ WI σ1 f2 g2 B (w + 1) q' md' tr' rn' wt' ∧ IT f2 B ∧ ExW B σ σ1 ∧ nx σ1 ≤ nx σ + 27 ∧ sl σ1 ≤ sl σ + 90000 ∧ g2 (B + 43) = g (B + 43) ∧ Fr (WsS σ B) f f2 := by
  obtain ⟨hI, hT, hN0, hY, hM0, hb, hwt, ha⟩ := hW
  obtain ⟨σ', f', g', wt', mdn, rnn, EC, We, nn', sn', gq, ⟨g1, g2, g3, l1, l2⟩, ⟨r1, r2⟩, m1, m2, m3, MK, k1, k2, I1, ⟨x1, x2, x3⟩, s9, t3, tH, ⟨b1, b3⟩, fo, go⟩ := x_wishS hs hM0 hS hl hB h0 hw hI.1.2.1 hx E1 Fc hv hN c3 hH
  have hms := (We.ks hB hs.o10).sh12 hm
  have nx1 := We.1
  have md1 : B + 220 ≤ mdn := by
    rcases m1 with m1 | m1
    · exact m1
    · obtain ⟨_, a2, a3, _⟩ := hM0 0 (by omega)
      have l := (We.2 _ a2).1
      rw [← m1] at l a3
      have w0 := (hwt 0 (by omega)).1
      rw [← m1] at w0
      omega
  obtain ⟨fm', vm, KM, FM, ⟨z3, z18, z4⟩, z5, zT⟩ := hM σ' f' g' x (rdy_fr rdy hms (fun a k h => fo _ _ (by omega) (by omega) (by omega) (by omega)))
  obtain ⟨fw, hfw⟩ : ∃ y : FI, y = up2 (up2 (up2 fm' (B + 165) 1 0) (B + 165 + 5) w (N : Int)) (B + 165 + 6) w x := ⟨_, rfl⟩
  have fwo : ∀ a k, ¬ (a = B + 165 ∧ k = 1) → ¬ ((a = B + 165 + 5 ∨ a = B + 165 + 6) ∧ k = w) → fw a k = fm' a k := fun a k h1 h2 => by
    rw [hfw]
    unfold up2
    rw [if_neg (by omega), if_neg (by omega), if_neg (by omega)]
  have fw5 : fw (B + 165 + 5) w = (N : Int) := by rw [hfw, u2_a (by omega), u2_s]
  have fw6 : fw (B + 165 + 6) w = x := by rw [hfw, u2_s]
  have fw1 : fw (B + 165) 1 = 0 := by rw [hfw, u2_a (by omega), u2_a (by omega), u2_s]
  have zT' : ∀ i, i < N → fw (B + 165 + 2) (300 * w + i) = swp (K i) ∧ fw (B + 165 + 3) (300 * w + i) = L i ∧ fw (B + 165 + 4) (300 * w + i) = R i := fun i hi => by
    rw [fwo _ _ (by omega) (by omega), fwo _ _ (by omega) (by omega), fwo _ _ (by omega) (by omega)]
    exact zT i hi
  obtain ⟨gw, EW, w1, w2, w3⟩ := m_works (σ := σ') (g := g') hms hw hN.2 fw5 zT' hv.1 hv.2.1 hv.2.2
  have fw4 : fw (B + 165) 4 = (w : Int) := (fwo _ _ (by omega) (by omega)).trans z4
  obtain ⟨f2, hf2⟩ : ∃ y : FI, y = up2 fw (B + 165) 4 ((w + 1 : Nat) : Int) := ⟨_, rfl⟩
  have EM : A_X12_wish_65 σ' fm' g' (B + 165) x vm (il σ' f2 gw, [vI (w : Int)]) := bk_X12_wish_65 hms (by
    rw [z3, z18, z4, z5, show ((w : Int)).toNat = w from rfl, ← hfw]
    refine ⟨fun _ => ⟨fun _ => ⟨by omega, fw, gw, EW, ?_⟩, fun y => absurd (Int.le_refl 0) y⟩, fun y => by omega⟩
    rw [fw4, hf2, show (w : Int) + 1 = ((w + 1 : Nat) : Int) by omega, show ((w + 1 : Nat) : Int) - 1 = (w : Int) by omega]
    exact ⟨by omega, rfl⟩)
  have e4 : f' (B + 165) 4 = (w : Int) := (fo _ _ (by omega) (by omega) (by omega) (by omega)).trans hI.1.2.2
  -- what changed
  have f2o : ∀ a k, ¬ (a = B + 165 ∧ ((1 ≤ k ∧ k ≤ 8) ∨ k = 17 ∨ k = 18)) → ¬ ((B + 165 + 2 ≤ a ∧ a ≤ B + 165 + 4) ∧ 300 * w ≤ k) → ¬ ((a = B + 165 + 5 ∨ a = B + 165 + 6) ∧ k = w) → a ≠ B + 165 + 7 → a ≠ B + 165 + 8 → f2 a k = f' a k := fun a k h1 h2 h3 h4 h5 => by
    have e : f2 a k = fw a k := by
      rw [hf2]
      unfold up2
      rw [if_neg (by omega)]
    rw [e, fwo a k (by omega) h3]
    exact FM a k (by omega) h2 h4 h5
  have f2f : ∀ a k, a < nx σ → ¬ (B + 5 ≤ a ∧ a ≤ B + 11) → ¬ (a = B ∧ (k = 1 ∨ k = 3)) → ¬ (a = B + 13 ∧ k = 2) → ¬ (a = B + 165 ∧ ((1 ≤ k ∧ k ≤ 8) ∨ k = 17 ∨ k = 18)) → ¬ ((B + 165 + 2 ≤ a ∧ a ≤ B + 165 + 4) ∧ 300 * w ≤ k) → ¬ ((a = B + 165 + 5 ∨ a = B + 165 + 6) ∧ k = w) → a ≠ B + 165 + 7 → a ≠ B + 165 + 8 → f2 a k = f a k := fun a k h1 h2 h3 h4 h5 h6 h7 h8 h9 => (f2o a k h5 h6 h7 h8 h9).trans (fo a k h1 h2 h3 h4)
  have g2f : ∀ a, a < nx σ → a ≠ B + 35 → (∀ j, j < 20 → wt j ≠ a) → a ≠ B + 165 + 9 → a ≠ B + 165 + 10 → a ≠ B + 165 + 11 → gw a = g a := fun a h1 h2 h3 h4 h5 h6 => (w1 a h4 h5 h6).trans (go a h1 (by omega) h3)
  have gM : g' (B + 165 + 10) = g (B + 165 + 10) := go _ (by omega) (by omega) (fun j hj => by have := (hwt j hj).1; omega)
  refine ⟨up3 q w (nx σ + 4), up3 md w mdn, up3 tr w (nx σ), up3 rn w rnn, wt', σ', (w : Int), f', f2, g', gw, EC, bk_X12_wish_0 hms ⟨fun y => by rw [e4] at y; omega, fun _ => ⟨rx, fun _ => KM _ EM, fun y => absurd hx y⟩⟩, ⟨⟨⟨by omega, (f2o _ _ (by omega) (by omega) (by omega) (by omega) (by omega)).trans b3, by rw [hf2, u2_s]⟩, fun j hj => ?_⟩, fun j hj => ?_, ⟨fun j hj => ?_, fun k ka kb => ?_, fun k ka kb => ?_⟩, fun i j hi hj => ?_, MK, fun j hj => ?_, fun j hj => ⟨?_, fun i hi => ?_⟩, fun i j e hi hj he => ?_⟩, ?_, We, nn', sn', ?_, fun a k hk => ?_⟩
  · by_cases e : j = w
    · rw [e, up3_s, up3_s, gq w, if_pos rfl]
      refine ⟨rfl, ⟨g2, l1⟩, fun i hi => ?_, ?_⟩
      · rw [w1 mdn (by omega) (by omega) (by omega)]
        exact I1.ext w3 i hi
      · have q6 : f2 (B + 165 + 6) w = x := by rw [hf2, u2_a (by omega)]; exact fw6
        rw [f2o _ _ (by omega) (by omega) (by omega) (by omega) (by omega), x1, q6]
        exact ⟨rfl, by omega, by omega⟩
    · have j1 : j < w := by omega
      rw [up3_n e, up3_n e, gq j, if_neg e]
      obtain ⟨a1, ⟨a2, a3⟩, a4, a5, a6⟩ := hI.2 j j1
      have b := hb j j1
      have y := (hY j j j1 j1).1
      refine ⟨a1, ⟨((We.2 _ (by omega)).2.2 2 (by omega) (by omega) (by omega)).trans a2, (We.2 _ (by omega)).1.trans a3⟩, fun i hi => ?_, ?_⟩
      · rw [g2f (md j) (by omega) (by omega) (fun i hi => (hwt i hi).2 j j1) (by omega) (by omega) (by omega), w2 _ (by omega), gM]
        exact a4 i hi
      · rw [f2f _ _ (by omega) (by omega) (by omega) (by omega) (by omega) (by omega) (by omega) (by omega) (by omega), f2f _ _ (by omega) (by omega) (by omega) (by omega) (by omega) (by omega) (by omega) (by omega) (by omega)]
        exact ⟨a5, a6⟩
  · by_cases e : j = w
    · rw [e, up3_s, up3_s]
      refine ⟨g1, by omega, N, K, L, R, s9, ?_, fun i hi => ?_, hv.1, hN, hlv, hbT, ?_, fun i hi => ?_⟩
      · rw [f2o _ _ (by omega) (by omega) (by omega) (by omega) (by omega)]
        exact t3
      · rw [f2o _ _ (by omega) (by omega) (by omega) (by omega) (by omega), f2o _ _ (by omega) (by omega) (by omega) (by omega) (by omega), f2o _ _ (by omega) (by omega) (by omega) (by omega) (by omega)]
        exact tH i hi
      · rw [hf2, u2_a (by omega)]
        exact fw5
      · rw [hf2, u2_a (by omega), u2_a (by omega), u2_a (by omega)]
        exact zT' i hi
    · have j1 : j < w := by omega
      rw [up3_n e, up3_n e]
      obtain ⟨a1, a2, N', K', L', R', s9', t3', hH', hWf', hNN', hlv', hbT', m5', mt'⟩ := hT j j1
      have b := hb j j1
      have y := (hY j j j1 j1).1
      refine ⟨((We.2 _ (by omega)).2.2 1 (by omega) (by omega) (by omega)).trans a1, a2, N', K', L', R', ⟨((We.2 _ (by omega)).2.2 0 (by omega) (by omega) (by omega)).trans s9'.1, (We.2 _ (by omega)).1.trans s9'.2.1, ((We.2 _ (by omega)).2.2 1 (by omega) (by omega) (by omega)).trans s9'.2.2.1, (We.2 _ (by omega)).1.trans s9'.2.2.2.1, ((We.2 _ (by omega)).2.2 2 (by omega) (by omega) (by omega)).trans s9'.2.2.2.2.1, (We.2 _ (by omega)).1.trans s9'.2.2.2.2.2⟩, ?_, fun i hi => ?_, hWf', hNN', hlv', hbT', ?_, fun i hi => ?_⟩
      · rw [f2f _ _ (by omega) (by omega) (by omega) (by omega) (by omega) (by omega) (by omega) (by omega) (by omega)]
        exact t3'
      · rw [f2f _ _ (by omega) (by omega) (by omega) (by omega) (by omega) (by omega) (by omega) (by omega) (by omega), f2f _ _ (by omega) (by omega) (by omega) (by omega) (by omega) (by omega) (by omega) (by omega) (by omega), f2f _ _ (by omega) (by omega) (by omega) (by omega) (by omega) (by omega) (by omega) (by omega) (by omega)]
        exact hH' i hi
      · rw [f2f _ _ (by omega) (by omega) (by omega) (by omega) (by omega) (by omega) (by omega) (by omega) (by omega)]
        exact m5'
      · rw [f2f _ _ (by omega) (by omega) (by omega) (by omega) (by omega) (by omega) (by omega) (by omega) (by omega), f2f _ _ (by omega) (by omega) (by omega) (by omega) (by omega) (by omega) (by omega) (by omega) (by omega), f2f _ _ (by omega) (by omega) (by omega) (by omega) (by omega) (by omega) (by omega) (by omega) (by omega)]
        exact mt' i hi
  · by_cases e : j = w
    · rw [e, up3_s, up3_s]
      refine ⟨⟨g3, l2⟩, fun b hb8 => ?_, ?_⟩
      · have z : f2 (B + 165 + 36) (8 * w + b) = 0 := by
          rw [f2f _ _ (by omega) (by omega) (by omega) (by omega) (by omega) (by omega) (by omega) (by omega) (by omega)]
          exact hN0.2.1 _ (by omega) (by omega)
        rw [f2o _ _ (by omega) (by omega) (by omega) (by omega) (by omega), x3 b, z]
        omega
      · have z : f2 (B + 165 + 37) w = 0 := by
          rw [f2f _ _ (by omega) (by omega) (by omega) (by omega) (by omega) (by omega) (by omega) (by omega) (by omega)]
          exact hN0.2.2 _ (by omega) (by omega)
        rw [f2o _ _ (by omega) (by omega) (by omega) (by omega) (by omega), x2, z]
        omega
    · have j1 : j < w := by omega
      rw [up3_n e, up3_n e]
      obtain ⟨⟨a1, a2⟩, a3, a4⟩ := hN0.1 j j1
      have b := hb j j1
      have y := (hY j j j1 j1).1
      refine ⟨⟨((We.2 _ (by omega)).2.2 3 (by omega) (by omega) (by omega)).trans a1, (We.2 _ (by omega)).1.trans a2⟩, fun b hb8 => ?_, ?_⟩
      · rw [f2f _ _ (by omega) (by omega) (by omega) (by omega) (by omega) (by omega) (by omega) (by omega) (by omega), f2f _ _ (by omega) (by omega) (by omega) (by omega) (by omega) (by omega) (by omega) (by omega) (by omega)]
        exact a3 b hb8
      · rw [f2f _ _ (by omega) (by omega) (by omega) (by omega) (by omega) (by omega) (by omega) (by omega) (by omega), f2f _ _ (by omega) (by omega) (by omega) (by omega) (by omega) (by omega) (by omega) (by omega) (by omega)]
        exact a4
  · rw [f2f _ _ (by omega) (by omega) (by omega) (by omega) (by omega) (by omega) (by omega) (by omega) (by omega)]
    exact hN0.2.1 k (by omega) kb
  · rw [f2f _ _ (by omega) (by omega) (by omega) (by omega) (by omega) (by omega) (by omega) (by omega) (by omega)]
    exact hN0.2.2 k (by omega) kb
  · by_cases ei : i = w <;> by_cases ej : j = w
    · rw [ei, ej, up3_s, up3_s]
      omega
    · have b := hb j (by omega)
      have y := hY j j (by omega) (by omega)
      rw [ei, up3_s, up3_s, up3_n ej, up3_n ej]
      omega
    · have b := hb i (by omega)
      have y := hY i i (by omega) (by omega)
      rw [ej, up3_s, up3_s, up3_n ei, up3_n ei]
      omega
    · rw [up3_n ei, up3_n ei, up3_n ej, up3_n ej]
      exact hY i j (by omega) (by omega)
  · by_cases e : j = w
    · rw [e, up3_s, up3_s, up3_s, up3_s]
      omega
    · have b := hb j (by omega)
      rw [up3_n e, up3_n e, up3_n e, up3_n e]
      omega
  · have a := k1 j hj
    have c := (hwt j hj).1
    omega
  · by_cases e : i = w
    · rw [e, up3_s]
      exact k2 j hj
    · have b := hb i (by omega)
      have a := k1 j hj
      have c := (hwt j hj).2 i (by omega)
      rw [up3_n e]
      omega
  · by_cases ei : i = w <;> by_cases ej : j = w
    · rw [ei, ej, up3_s, up3_s, up3_s]
      omega
    · have b := hb j (by omega)
      rw [ei, up3_s, up3_s, up3_n ej]
      omega
    · have b := hb i (by omega)
      rw [ej, up3_s, up3_n ei, up3_n ei]
      omega
    · rw [up3_n ei, up3_n ei, up3_n ej]
      exact ha i j e (by omega) (by omega) he
  · have c1 : f2 B 1 = 0 := (f2o _ _ (by omega) (by omega) (by omega) (by omega) (by omega)).trans b1
    have c2 : f2 (B + 165) 1 = 0 := by
      rw [hf2, u2_i (by omega)]
      exact fw1
    exact ⟨⟨by rw [c1, c2], by rw [c1]; omega, by rw [c1]; omega⟩, fun i hi => by rw [c1] at hi; omega⟩
  · exact g2f _ (by omega) (by omega) (fun j hj => by have := (hwt j hj).1; omega) (by omega) (by omega) (by omega)
  · unfold WsS at hk
    exact f2f a k (by omega) (by omega) (by omega) (by omega) (by omega) (by omega) (by omega) (by omega) (by omega)
theorem c_wish {σ : St} {f : FI} {g : FL} {B w : Nat} {q md tr rn wt : Nat → Nat} (hs : Sh11 σ B) (hm : Sh12 σ (B + 165)) (hW : WI σ f g B w q md tr rn wt) (hT : IT f B) (hS : Stat σ f) (hl : Lo σ B) (h0 : 0 < B) (hB : B + 220 ≤ nx σ) {x : Int} (rx : -2147483648 ≤ x ∧ x ≤ 2147483647) : ∃ (w' : Nat) (q' md' tr' rn' wt' : Nat → Nat) (σ1 : St) (v : Int) (f1 f2 : FI) (g1 g2 : FL), Ex mt 7 144 (il σ f g) [vR 11 (some B), vI x] (il σ1 f1 g1, [vI v]) ∧ Ex mt 5 222 (il σ1 f1 g1) [vR 12 (some (B + 165)), vI x] (il σ1 f2 g2, [vI v]) ∧ WI σ1 f2 g2 B w' q' md' tr' rn' wt' ∧ IT f2 B ∧ ExW B σ σ1 ∧ nx σ1 ≤ nx σ + 27 ∧ sl σ1 + 90000 * w ≤ sl σ + 90000 * w' ∧ g2 (B + 43) = g (B + 43) ∧ Fr (WsS σ B) f f2 := by
  obtain ⟨v1, v2, v3⟩ := hW.1.1
  by_cases hq : w < 12 ∧ 0 ≤ x ∧ x ≤ 3
  · obtain ⟨hw, hx⟩ := hq
    obtain ⟨n, en⟩ : ∃ n : Nat, f B 1 = (n : Int) := ⟨(f B 1).toNat, by have := hT.1.2; omega⟩
    have hn : n ≤ 200 := by have := hT.1.2; omega
    have rdy : Rdy σ f (B + 165) w (f (B + 1)) n := ⟨hm, by rw [← hT.1.1]; exact en, fun i hi => hT.2 i (by omega), v3⟩
    have st := ExW.stat (f' := f) hS hl (exw_text (σ := σ) (B := B)) (by omega) h0 (fun _ _ _ => rfl)
    obtain ⟨fc, F, A, FC, out⟩ := wish_read (g := g) (sh4_of hs) st.1 st.2 hw hn (fun i hi => ⟨rfl, by have := hT.2 i (by omega); omega, by have := hT.2 i (by omega); omega⟩) rdy
    have E1 := x_readC hs hn A
    rw [← en] at E1
    rcases out with ⟨hF, hM⟩ | ⟨hF, N, K, L, R, hv, hN, hlv, hbT, c3, hH, hM⟩
    · obtain ⟨σ1, v, f1, f2, X1, X2, W2, T2, e2, n2, s2, fr2⟩ := wish_fail hs hm hW hB hw rx hx E1 FC rdy hF hM
      exact ⟨w, q, md, tr, rn, wt, σ1, v, f1, f2, g, g, X1, X2, W2, T2, e2, by omega, by omega, rfl, fr2⟩
    · rw [hF] at E1
      obtain ⟨q', md', tr', rn', wt', σ1, v, f1, f2, g1, g2, X1, X2, W2, T2, e2, n2, s2, k2, fr2⟩ := wish_works hs hm hW hS hl h0 hB hw rx hx E1 FC rdy hv ⟨hN.1, by omega⟩ hlv (by omega) c3 hH hM
      exact ⟨w + 1, q', md', tr', rn', wt', σ1, v, f1, f2, g1, g2, X1, X2, W2, T2, e2, n2, by omega, k2, fr2⟩
  · refine ⟨w, q, md, tr, rn, wt, σ, -1, f, f, g, g, bk_X11_wish_0 hs ⟨fun _ => rfl, fun y => ⟨fun z => absurd ⟨by rw [v2] at y; omega, z⟩ hq, fun _ => rfl⟩⟩, bk_X12_wish_0 hm ⟨fun _ => rfl, fun y => ⟨rx, fun z => absurd ⟨by rw [v3] at y; omega, z⟩ hq, fun _ => rfl⟩⟩, hW, hT, ExW.rfl', by omega, Nat.le_refl _, rfl, fun _ _ _ => rfl⟩
