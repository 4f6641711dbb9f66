/-! the law from its start -/
theorem Sh11.kp {σ σ' : St} {B : Nat} (h : Sh11 σ B) (K : ∀ c, c < B + 165 → ln σ' c = ln σ c ∧ ∀ k, gR σ' c k = gR σ c k) : Sh11 σ' B := by
  have cl : ∀ (lo hi : Nat), hi ≤ B + 165 → Cl lo hi σ σ' (fun _ _ => 0) (fun _ _ => 0) (fun _ _ => 0) (fun _ _ => 0) := fun lo hi hh c c1 c2 => ⟨K c (by omega), rfl, rfl⟩
  obtain ⟨a1, a2, a3, a4, a5, a6, a7, a8, a9, a10, a11, a12, a13, a14, a15, a16, a17, a18, a19, a20, a21, a22, a23, a24⟩ := h
  have sh3 : Sh3 σ' (B + 43) := a16.cl (cl _ _ (by omega))
  obtain ⟨b1, b2, b3, b4, b5, b6, b7, b8, b9, b10, b11, b12, b13, b14, b15, b16, b17, b18, b19⟩ := a18
  obtain ⟨c1, c2, c3, c4, c5, c6, c7, c8⟩ := a20
  exact ⟨((K _ (by omega)).2 _).trans a1, (K _ (by omega)).1.trans a2, ((K _ (by omega)).2 _).trans a3, (K _ (by omega)).1.trans a4, ((K _ (by omega)).2 _).trans a5, (K _ (by omega)).1.trans a6, ((K _ (by omega)).2 _).trans a7, (K _ (by omega)).1.trans a8, ((K _ (by omega)).2 _).trans a9, a10.cl (cl _ _ (by omega)), ((K _ (by omega)).2 _).trans a11, a12.cl (cl _ _ (by omega)), ((K _ (by omega)).2 _).trans a13, a14.cl (cl _ _ (by omega)), ((K _ (by omega)).2 _).trans a15, sh3, ((K _ (by omega)).2 _).trans a17, ⟨((K _ (by omega)).2 _).trans b1, sh3, ((K _ (by omega)).2 _).trans b3, (K _ (by omega)).1.trans b4, ((K _ (by omega)).2 _).trans b5, (K _ (by omega)).1.trans b6, ((K _ (by omega)).2 _).trans b7, (K _ (by omega)).1.trans b8, ((K _ (by omega)).2 _).trans b9, (K _ (by omega)).1.trans b10, ((K _ (by omega)).2 _).trans b11, (K _ (by omega)).1.trans b12, ((K _ (by omega)).2 _).trans b13, (K _ (by omega)).1.trans b14, ((K _ (by omega)).2 _).trans b15, (K _ (by omega)).1.trans b16, (by
      rw [(K (B + 43 + 101) (by omega)).2 9, (K (B + 43 + 101) (by omega)).2 10]
      exact b17), (K _ (by omega)).1.trans b18, (K _ (by omega)).1.trans b19⟩, ((K _ (by omega)).2 _).trans a19, ⟨((K _ (by omega)).2 _).trans c1, sh3, ((K _ (by omega)).2 _).trans c3, (K _ (by omega)).1.trans c4, ((K _ (by omega)).2 _).trans c5, (K _ (by omega)).1.trans c6, ((K _ (by omega)).2 _).trans c7, (K _ (by omega)).1.trans c8⟩, ((K _ (by omega)).2 _).trans a21, a22.cl (cl _ _ (by omega)), ((K _ (by omega)).2 _).trans a23, a24.cl (cl _ _ (by omega))⟩
theorem Stat.kp {σ σ' : St} {f f' : FI} {g g' : FL} {B : Nat} (h : Stat σ f) (hl : Lo σ B) (h0 : 0 < B) (K : Kp B σ σ' f f' g g') : Stat σ' f' ∧ Lo σ' B := by
  have e0 : ∀ k, gR σ' 0 k = gR σ 0 k := (K 0 h0).1.2.2
  have eS : stS σ' = stS σ ∧ stG σ' = stG σ ∧ stA σ' 0 = stA σ 0 ∧ stA σ' 1 = stA σ 1 := by
    unfold stS stG stA
    rw [e0, e0]
    exact ⟨rfl, rfl, rfl, rfl⟩
  have l1 := (K _ hl.1).1.1
  have l2 := (K _ hl.2).1.1
  have f1 := (K _ hl.1).2.1
  have f2 := (K _ hl.2).2.1
  unfold Stat Lo at *
  rw [eS.1, eS.2.1, eS.2.2.1, eS.2.2.2, l1, l2, f1, f2]
  exact ⟨h, hl⟩
theorem hB4 (v : Int) (h0 : 0 ≤ v) (h1 : v < 4) : hB 255 v ↔ hB 15 v := by
  have e : v = 0 ∨ v = 1 ∨ v = 2 ∨ v = 3 := by omega
  rcases e with rfl | rfl | rfl | rfl <;> decide
/-- the state behind the two constructors -/
theorem mst0 {σ : St} {f : FI} {g : FL} {B S0 : Nat} (hs : Sh11 σ B) (hm : Sh12 σ (B + 165)) (hS : Stat σ f) (hl : Lo σ B) (h0 : 0 < B) (hn : nx σ = B + 220) (hsl : sl σ ≤ S0) (W : ∀ k, k < 20 → gR σ (B + 14) k = some (B + 15 + k) ∧ ln σ (B + 15 + k) = 0) (vB : ∀ k, f B k = 0) (v3 : ∀ k, k < 16 → f (B + 3) k = 255) (vz : ∀ c k, c = B + 4 ∨ c = B + 36 ∨ c = B + 154 ∨ c = B + 159 ∨ c = B + 160 ∨ c = B + 161 ∨ c = B + 162 → f c k = 0) (v43 : ∀ k, f (B + 43) k = if k = 2 then 255 else 0) (g43 : ∀ k, g (B + 43) k = 0) (tc : ∀ j, j < 16 → TC f (B + 45 + 6 * j) 0) (v144 : ∀ k, f (B + 144) k = if k = 3 then -1 else 0) (v145 : ∀ k, k < 8 → f (B + 145) k = -1) (m0 : ∀ k, f (B + 165) k = if k = 33 then 255 else if k = 51 ∨ k = 54 ∨ k = 37 then -1 else 0) (m13 : ∀ h, h < 4 → f (B + 165 + 13) h = 255 ∧ f (B + 165 + 14) h = 15 ∧ f (B + 165 + 15) h = 15 ∧ f (B + 165 + 16) h = 15) (m53 : ∀ b, b < 8 → f (B + 165 + 53) b = -1) (mz : ∀ c k, B + 165 < c → c < B + 220 → ¬ (B + 165 + 13 ≤ c ∧ c ≤ B + 165 + 16) → c ≠ B + 165 + 53 → f c k = 0) : Mst σ f g B S0 0 := by
  have y1 : f (B + 165) 1 = 0 := by rw [m0]; rfl
  have y4 : f (B + 165) 4 = 0 := by rw [m0]; rfl
  have y33 : f (B + 165) 33 = 255 := by rw [m0]; rfl
  have y34 : f (B + 165) 34 = 0 := by rw [m0]; rfl
  have y37 : f (B + 165) 37 = -1 := by rw [m0]; rfl
  have y39 : f (B + 165) 39 = 0 := by rw [m0]; rfl
  have y51 : f (B + 165) 51 = -1 := by rw [m0]; rfl
  have y54 : f (B + 165) 54 = -1 := by rw [m0]; rfl
  have y67 : f (B + 165) 67 = 0 := by rw [m0]; rfl
  have y69 : f (B + 165) 69 = 0 := by rw [m0]; rfl
  have y70 : f (B + 165) 70 = 0 := by rw [m0]; rfl
  have z1 : f (B + 43) 2 = 255 := by rw [v43]; rfl
  have z2 : f (B + 43) 4 = 0 := by rw [v43]; rfl
  have z3 : f (B + 144) 3 = -1 := by rw [v144]; rfl
  have z4 : f (B + 154) 2 = 0 := vz _ _ (by omega)
  have z5 : f (B + 36) 1 = 0 := vz _ _ (by omega)
  have z6 : f (B + 162) 2 = 0 := vz _ _ (by omega)
  have z7 : f (B + 162) 3 = 0 := vz _ _ (by omega)
  refine ⟨0, fun _ => 0, fun _ => 0, fun _ => 0, fun _ => 0, fun j => B + 15 + j, fun _ => 0, 0, ⟨⟨hs, hm, hS, hl, h0, by omega⟩, ⟨?_, ?_, ?_, ?_, ?_, ?_, ?_, ?_, ?_, ?_, ?_, ?_, ?_⟩, ?_, ?_⟩, by omega, by omega, by omega⟩
  · exact ⟨⟨by rw [vB, y1], by rw [vB]; omega, by rw [vB]; omega⟩, fun i hi => by rw [vB] at hi; omega⟩
  · intro h hh
    obtain ⟨w1, w2, w3, w4⟩ := m13 h hh
    rw [w1, w2, w3, w4, v3 _ (by omega), v3 _ (by omega), v3 _ (by omega), v3 _ (by omega)]
    refine ⟨fun k hk => by rw [v3 _ (by omega)]; omega, by omega, fun v a b => Iff.rfl, fun v a b => hB4 v a b, fun v a b => hB4 v a b, fun v a b => hB4 v a b⟩
  · intro h hh
    rw [vz _ _ (by omega), mz _ _ (by omega) (by omega) (by omega) (by omega)]
    omega
  · unfold IE
    rw [z1, y33]
    omega
  · refine ⟨by rw [z6, y69]; omega, by rw [z7, y70]; omega, fun i hi => by rw [z6] at hi; omega⟩
  · intro b hb
    rw [v145 b hb, m53 b hb]
    omega
  · exact ⟨Or.inl ⟨y37, z2⟩, fun i hi => by rw [z2] at hi; omega⟩
  · exact ⟨by rw [z3, y51]; omega, fun i hi => by rw [z3] at hi; omega, fun i j _ hj => by rw [z3] at hj; omega⟩
  · exact ⟨Or.inl ⟨y54, z4⟩, fun i hi => by rw [z4] at hi; omega⟩
  · exact ⟨by rw [z5, y67]; omega, fun i hi => by rw [z5] at hi; omega⟩
  · refine ⟨fun b hb => ?_, fun l hl => ?_⟩
    · rw [vz _ _ (by omega), mz _ _ (by omega) (by omega) (by omega) (by omega)]
      omega
    · rw [vz (B + 160) l (by omega), vz (B + 161) l (by omega), mz (B + 165 + 39) l (by omega) (by omega) (by omega) (by omega), mz (B + 165 + 40) l (by omega) (by omega) (by omega) (by omega)]
      exact ⟨rfl, rfl⟩
  · intro j hj
    exact ⟨tc j hj, mz _ _ (by omega) (by omega) (by omega) (by omega), fun k hk => absurd hk (Nat.not_lt_zero k)⟩
  · exact ⟨⟨y39, Int.le_refl _⟩, fun i hi => by rw [mz _ _ (by omega) (by omega) (by omega) (by omega)]; omega⟩
  · refine ⟨fun l hl => ?_, ?_, fun b hb => ?_⟩
    · rw [g43, mz _ _ (by omega) (by omega) (by omega) (by omega)]
      simp
    · rw [g43, y34]
      rfl
    · rw [g43]
      simp
  · refine ⟨⟨⟨by omega, by rw [vB]; rfl, by rw [y4]; rfl⟩, fun j hj => absurd hj (Nat.not_lt_zero j)⟩, fun j hj => absurd hj (Nat.not_lt_zero j), ⟨fun j hj => absurd hj (Nat.not_lt_zero j), fun k _ hk => mz _ _ (by omega) (by omega) (by omega) (by omega), fun k _ hk => mz _ _ (by omega) (by omega) (by omega) (by omega)⟩, fun i j hi => absurd hi (Nat.not_lt_zero i), fun j hj => ?_, fun j hj => absurd hj (Nat.not_lt_zero j), fun j hj => ⟨by dsimp only; omega, fun i hi => absurd hi (Nat.not_lt_zero i)⟩, fun i j e hi => absurd hi (Nat.not_lt_zero i)⟩
    exact ⟨(W j hj).1, by dsimp only; omega, Or.inl (W j hj).2, fun i hi hij => by dsimp only; omega⟩
theorem law_run {σ : St} {f : FI} {g : FL} {b L : Nat} (hS : Stat σ f) (hl : Lo σ (nx σ)) (h0 : 0 < nx σ) (hb : b < nx σ) (hN : ∀ a k, gR σ a k ≠ some b) (hr : ∀ j, -2147483648 ≤ f b j ∧ f b j ≤ 2147483647) (hL : ln σ b = L) (hL2 : L ≤ 3072) : ∃ (σ' : St) (f' : FI) (g' : FL), Ex mt 206 316 (il σ f g) [vR 20 (some b)] (il σ' f' g', [vI 1]) ∧ nx σ' ≤ nx σ + 220 + 27 * 512 ∧ sl σ' ≤ sl σ + 195123 + 234 * 512 + 90000 * 12 := by
  obtain ⟨B, eB⟩ : ∃ B, B = nx σ := ⟨_, rfl⟩
  rw [← eB] at hl h0 hb
  obtain ⟨σc, fc, gc, EC, nc, lc, KC, shC, W, vB, v3, vz, v43, g43, tc, v144, v145⟩ := x_init11 (σ := mk σ 11 0 14) (f := up1 f B (fun _ => 0)) (g := up1 g B (fun _ => 0)) (B := B) (by rw [mk_nx, eB])
  obtain ⟨σm, fm, gm, EM, KM, nm, lm, shM, ⟨fa, a1, mi, zr⟩, gM⟩ := x_init12 (σ := mk σc 12 0 79) (f := up1 fc (B + 165) (fun _ => 0)) (g := up1 gc (B + 165) (fun _ => 0)) (d := B + 165) (by rw [mk_nx, nc])
  rw [mk_sl] at lc lm
  have N1 := nr_ex (p := b) EC ((Nb.trans (Nb.rfl' (p := b) (σ := il σ f g) ⟨by rw [eB] at hb; exact hb, hN⟩) (by rw [eB]; exact nb_mk (σ := il σ f g) (t := 11) (n := 0) (s := 14) ⟨by rw [eB] at hb; exact hb, hN⟩)).1) (Nk_R.mpr ⟨fun e => by cases e; omega, Nk_nil⟩)
  have N2 := nr_ex (p := b) EM (by
    have q := (nb_mk (σ := il σc fc gc) (t := 12) (n := 0) (s := 79) N1.1).1
    have e : nx (il σc fc gc) = B + 165 := nc
    exact q) (Nk_R.mpr ⟨fun e => by cases e; omega, Nk_nil⟩)
  -- below the new cells nothing changed
  have K0 : Kp B σ (mk σ 11 0 14) f (up1 f B (fun _ => 0)) g (up1 g B (fun _ => 0)) := by rw [eB]; exact Kp.mk (Nat.le_refl _)
  have K1 : Kp (B + 165) σc (mk σc 12 0 79) fc (up1 fc (B + 165) (fun _ => 0)) gc (up1 gc (B + 165) (fun _ => 0)) := by rw [← nc]; exact Kp.mk (Nat.le_refl _)
  have K2 := K1.trans KM
  have KT : Kp B σ σm f fm g gm := K0.trans (KC.trans (K2.le (by omega)))
  obtain ⟨st, lo⟩ := hS.kp hl h0 KT
  have fo : ∀ c, c < B + 165 → fm c = fc c := fun c hc => (K2 c hc).2.1
  have M := mst0 (σ := σm) (f := fm) (g := gm) (B := B) (S0 := sl σ + 195123) (shC.kp (fun c hc => ⟨(K2 c hc).1.1, (K2 c hc).1.2.2⟩)) shM st lo h0 (by omega) (by omega) (fun k hk => ⟨((K2 _ (by omega)).1.2.2 k).trans (W k hk).1, (K2 _ (by omega)).1.1.trans (W k hk).2⟩) (fun k => by rw [fo _ (by omega), vB.1, up1_at']) (fun k hk => by rw [fo _ (by omega)]; exact v3 k hk) (fun c k hc => by rw [fo _ (by omega)]; exact vz c k hc) (fun k => by rw [fo _ (by omega)]; exact v43 k) (fun k => by rw [(K2 _ (by omega)).2.2]; exact g43 k) (fun j hj => (tc j hj).of (by rw [fo _ (by omega)]) (fo _ (by omega)) (fo _ (by omega)) (fo _ (by omega)) (fo _ (by omega)) (fo _ (by omega))) (fun k => by rw [fo _ (by omega)]; exact v144 k) (fun k hk => by rw [fo _ (by omega)]; exact v145 k hk) (fun k => by rw [mi.1 k, a1, up1_at']) mi.2.1 mi.2.2.1 (fun c k c1 c2 c3 c4 => by rw [mi.2.2.2 c (by omega) c3 c4]; exact (zr c (by omega) (by omega)).1 k)
  have eb : fm b = f b := (KT b hb).2.1
  obtain ⟨σ', f', g', A, M'⟩ := lw_loop (b := b) (B := B) (S0 := sl σ + 195123) (L := L) hL2 512 0 σm fm gm 0 rfl (by omega) ⟨M, N2.1, fun j => by rw [eb]; exact hr j, (KT b hb).1.1.trans hL, hb⟩ rfl
  obtain ⟨w, q, md, tr, rn, wt, nn, s, hI, _, b2, b3⟩ := M'
  have hw := hI.2.2.2.1.1.1
  refine ⟨σ', f', g', bk_L_law_0 ?_, by omega, by omega⟩
  intro y1 y2 y3 y4 d1 d2 d3 d4
  obtain rfl : y1 = B := d1.trans eB.symm
  subst d2 d3 d4
  refine ⟨σc, fc, gc, EC, ?_⟩
  intro y5 y6 y7 y8 d5 d6 d7 d8
  obtain rfl : y5 = y1 + 165 := d5.trans nc
  subst d6 d7 d8
  exact ⟨σm, fm, gm, EM, A⟩
