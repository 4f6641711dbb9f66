/-! reading a value -/
theorem bk_X4_readValue_0 {σ : St} {f : FI} {g : FL} {b : Nat} {x1 : Int} {x2 : Int} {r : St × List Vl} (hs : Sh4 σ b) (h : (∃ (f1 : FI) (g2 : FL), Ex mt 0 65 (il σ f g) [vR 4 (some (b + 5))] ((il σ f1 g2), []) ∧ (∃ (f4 : FI) (g5 : FL) (v7 : Int), Ex mt 0 66 (il σ f1 g2) [vR 4 (some (b + 5))] ((il σ f4 g5), [vI v7]) ∧ ((((48 ≤ v7 ∧ v7 ≤ 57)) → (∃ (f11 : FI) (g12 : FL) (v14 : Int), Ex mt 1 69 (il σ f4 g5) [vR 4 (some (b + 5))] ((il σ f11 g12), [vI v14]) ∧ ((1 < v14 → (∃ (f18 : FI) (g19 : FL), Ex mt 0 64 (il σ f11 g12) [vR 4 (some (b + 5)), vI (f11 (b + 5) 5), vI 1] ((il σ f18 g19), []) ∧ (r = ((il σ f18 g19), [])))) ∧ (¬ 1 < v14 → ((-2147483648 ≤ (v7 - 48) ∧ (v7 - 48) ≤ 2147483647) ∧ Stat σ f11 ∧ (0 ≤ x2 ∧ x2 < 4)) ∧ (((v7 - 48) ≤ (f11 (stG σ) ((x2).toNat)) → ((-2147483648 ≤ ((f11 (b + 5) 5) + 1) ∧ ((f11 (b + 5) 5) + 1) ≤ 2147483647) ∧ (-2147483648 ≤ (v7 - 48) ∧ (v7 - 48) ≤ 2147483647)) ∧ (∃ (f25 : FI) (g26 : FL), Ex mt 1 61 (il σ (up2 f11 (b + 5) 5 ((f11 (b + 5) 5) + 1)) g12) [vR 4 (some (b + 5)), vI x1, vI x2, vI (v7 - 48)] ((il σ f25 g26), []) ∧ (r = ((il σ f25 g26), [])))) ∧ (¬ (v7 - 48) ≤ (f11 (stG σ) ((x2).toNat)) → (∃ (f29 : FI) (g30 : FL), Ex mt 0 64 (il σ f11 g12) [vR 4 (some (b + 5)), vI (f11 (b + 5) 5), vI 1] ((il σ f29 g30), []) ∧ (r = ((il σ f29 g30), []))))))))) ∧ (¬ ((48 ≤ v7 ∧ v7 ≤ 57)) → (∃ (f35 : FI) (g36 : FL), Ex mt 0 64 (il σ f4 g5) [vR 4 (some (b + 5)), vI (f4 (b + 5) 5), vI 0] ((il σ f35 g36), []) ∧ (r = ((il σ f35 g36), [])))))))) : Ex mt 2 56 (il σ f g) [vR 4 (some (b + 5)), vI x1, vI x2] r := Ex.mk mt_56 (show Gx mt 2 cd_X4_readValue (il σ f g) b_X4_readValue_0 [some (vR 4 (some (b + 5))), some (vI x1), some (vI x2), none] [] r from (go_loadA rfl (Exists.elim h fun f1 w41 => Exists.elim w41 fun g2 h3 => (go_callV rfl rfl rfl h3.1 (go_loadA rfl (Exists.elim h3.2 fun f4 w39 => Exists.elim w39 fun g5 w40 => Exists.elim w40 fun v7 h6 => (go_callV rfl rfl rfl h6.1 (go_stoI rfl rfl (go_loadI rfl (go_callS rfl rfl rfl (pu_isDigit4) (go_ifb_ne (fun e10 => have h8 := h6.2.1 e10; (go_loadA rfl (Exists.elim h8 fun f11 w33 => Exists.elim w33 fun g12 w34 => Exists.elim w34 fun v14 h13 => (go_callV rfl rfl rfl h13.1 (go_pushI rfl (gq_icmp_gt (fun e17 => have h15 := h13.2.1 e17; (go_loadA rfl (go_loadA rfl (gi_getI (go_pushI rfl (Exists.elim h15 fun f18 w21 => Exists.elim w21 fun g19 h20 => (go_callV rfl rfl rfl h20.1 (h20.2 ▸ gq_retV)))))))) (fun e17 => have h16 := h13.2.2 e17; (go_loadI rfl (go_pushI rfl (go_isub h16.1.1 (gi_gets (Stat.eG h16.1.2.1) (go_loadI rfl (gi_fald (inl_ (Stat.lG h16.1.2.1) h16.1.2.2) (gq_icmp_le (fun e24 => have h22 := h16.2.1 e24; (go_loadA rfl (go_dupA (gi_getI (go_pushI rfl (go_iadd h22.1.1 (gi_putI (go_loadA rfl (go_loadI rfl (go_loadI rfl (go_loadI rfl (go_pushI rfl (go_isub h22.1.2 (Exists.elim h22.2 fun f25 w28 => Exists.elim w28 fun g26 h27 => (go_callV rfl rfl rfl h27.1 (h27.2 ▸ gq_retV)))))))))))))))) (fun e24 => have h23 := h16.2.2 e24; (go_fall (go_loadA rfl (go_loadA rfl (gi_getI (go_pushI rfl (Exists.elim h23 fun f29 w32 => Exists.elim w32 fun g30 h31 => (go_callV rfl rfl rfl h31.1 (h31.2 ▸ gq_retV))))))))))))))))))))))) (fun e10 => have h9 := h6.2.2 e10; (go_loadA rfl (go_loadA rfl (gi_getI (go_pushI rfl (Exists.elim h9 fun f35 w38 => Exists.elim w38 fun g36 h37 => (go_callV rfl rfl rfl h37.1 (h37.2 ▸ gq_retV)))))))))))))))))))
/-- the fault behind a value that was read from e to d -/
def nF (T : Nat → Int) (fl F : Int) (e d : Nat) : Int := if d = e then flt F e 0 else if 1 < d - e ∨ (if fl = 3 then 7 else 3) < T e - 48 then flt F e 1 else F
theorem flt_rg {F k : Int} {p : Nat} (hF : 0 ≤ F ∧ F ≤ 1700) (hp : p ≤ 200) (hk : 0 ≤ k ∧ k ≤ 3) : 1 ≤ flt F p k ∧ flt F p k ≤ 1700 := by
  unfold flt
  split
  · omega
  · omega
theorem nF_rg {T : Nat → Int} {fl F : Int} {e d : Nat} (hF : 0 ≤ F ∧ F ≤ 1700) (he : e ≤ 200) : 0 ≤ nF T fl F e d ∧ nF T fl F e d ≤ 1700 := by
  have a := flt_rg (k := 0) hF he (by omega)
  have b := flt_rg (k := 1) hF he (by omega)
  unfold nF
  by_cases z : d = e
  · rw [if_pos z]
    omega
  · rw [if_neg z]
    by_cases y : 1 < d - e ∨ (if fl = 3 then 7 else 3) < T e - 48
    · rw [if_pos y]
      omega
    · rw [if_neg y]
      exact hF
theorem Stat.fr3 {σ : St} {f f' : FI} {B : Nat} (h : Stat σ f) (hl : Lo σ B) (e : ∀ c j, c < B → f' c j = f c j) : Stat σ f' := by
  unfold Stat at h ⊢
  rw [e _ _ hl.1, e _ _ hl.1, e _ _ hl.1, e _ _ hl.1, e _ _ hl.2, e _ _ hl.2, e _ _ hl.2, e _ _ hl.2]
  exact h
theorem dig_pos {T : Nat → Int} {n e d : Nat} (hr : Run (fun i => 48 ≤ T i ∧ T i ≤ 57) n e d) : (48 ≤ sg T n e ∧ sg T n e ≤ 57) ↔ ¬ d = e := by
  obtain ⟨r1, r2, r3, r4⟩ := hr
  unfold sg
  by_cases z : n ≤ e
  · rw [if_pos z]
    omega
  · rw [if_neg z]
    constructor
    · intro y e1
      rw [e1] at r4
      exact r4 (by omega) y
    · intro y
      exact r3 e (Nat.le_refl _) (by omega)
theorem dig_sg {T : Nat → Int} {n e d : Nat} (hr : Run (fun i => 48 ≤ T i ∧ T i ≤ 57) n e d) (h : ¬ d = e) : sg T n e = T e := by
  obtain ⟨r1, r2, r3, r4⟩ := hr
  unfold sg
  rw [if_neg (by omega)]
theorem m_number {σ : St} {f : FI} {g : FL} {M n p e d a : Nat} {T : Nat → Int} {F fl : Int} (hm : Sh12 σ M) (hn : n ≤ 200) (hT : ∀ i, i < n → 0 ≤ T i ∧ T i ≤ 255) (hfl : 0 ≤ fl ∧ fl ≤ 3) (h : MT f M T n p F a) (hb : Run (fun i => T i = 32) n p e) (hd : Run (fun i => 48 ≤ T i ∧ T i ≤ 57) n e d) : ∃ f' : FI, Ex mt 2 217 (il σ f g) [vR 12 (some M), vI fl] (il σ f' g, [vI (if d = e then 0 else T e - 48)]) ∧ MT f' M T n d (nF T fl F e d) a ∧ FM M f f' := by
  obtain ⟨f1, E1, G1, H1⟩ := m_blanks (g := g) hm hn h hb
  have D := m_isDigit (g := g) hm hn hT G1
  have pos := dig_pos hd
  have he : e ≤ 200 := Nat.le_trans hb.2.1 hn
  by_cases z : d = e
  · rw [if_pos z]
    obtain ⟨f2, E2, G2, H2⟩ := m_fails (g := g) (k := 0) (q := e) hm he (by omega) G1
    refine ⟨f2, bk_X12_number_0 hm ⟨f1, g, E1, f1, g, _, D, fun y => absurd (bI_f (fun w => pos.mp w z)) y, fun _ => ⟨f2, g, ?_, rfl⟩⟩, ?_, H1.tr H2⟩
    · rw [G1.2.2.1]
      exact E2
    · unfold nF
      rw [if_pos z, z]
      exact G2
  · rw [if_neg z]
    have s := dig_sg hd z
    have te := hd.2.2.1 e (Nat.le_refl _) (by have := hd.1; omega)
    obtain ⟨r1, r2, r3, r4⟩ := hd
    have loop : ∀ u i : Nat, i + u = d → e ≤ i → ∀ fi : FI, MT fi M T n i F a → FM M f fi → ∃ f' : FI, A_X12_number_35 σ fi g M fl (e : Int) (T e - 48) (il σ f' g, [vI (T e - 48)]) ∧ MT f' M T n d (nF T fl F e d) a ∧ FM M f f' := by
      intro u
      induction u with
      | zero =>
        intro i hi hp fi hC hF
        obtain rfl : i = d := hi
        have D2 := m_isDigit (g := g) hm hn hT hC
        have nd : ¬ (48 ≤ sg T n i ∧ sg T n i ≤ 57) := by
          unfold sg
          by_cases y : n ≤ i
          · rw [if_pos y]
            omega
          · rw [if_neg y]
            exact r4 (by omega)
        obtain ⟨f2, E2, G2, H2⟩ := m_fails (g := g) (k := 1) (q := e) hm he (by omega) hC
        unfold nF
        rw [if_neg z]
        by_cases bad : 1 < i - e ∨ (if fl = 3 then 7 else 3) < T e - 48
        · rw [if_pos bad]
          refine ⟨f2, bk_X12_number_35 hm ⟨fi, g, _, D2, fun _ => ?_, fun y => absurd (bI_f nd) y⟩, G2, hF.tr H2⟩
          rw [hC.2.2.1]
          refine ⟨by omega, fun _ => ⟨f2, g, E2, rfl⟩, fun y => ⟨fun y3 => ⟨fun y4 => ?_, fun _ => ⟨f2, g, E2, rfl⟩⟩, fun y3 => ⟨fun y4 => ?_, fun _ => ⟨f2, g, E2, rfl⟩⟩⟩⟩
          · rw [if_neg y3] at bad
            omega
          · rw [if_pos y3] at bad
            omega
        · rw [if_neg bad]
          refine ⟨fi, bk_X12_number_35 hm ⟨fi, g, _, D2, fun _ => ?_, fun y => absurd (bI_f nd) y⟩, hC, hF⟩
          rw [hC.2.2.1]
          refine ⟨by omega, fun y => absurd (by omega) bad, fun y => ⟨fun y3 => ⟨fun _ => rfl, fun y4 => ?_⟩, fun y3 => ⟨fun _ => rfl, fun y4 => ?_⟩⟩⟩
          · rw [if_neg y3] at bad
            omega
          · rw [if_pos y3] at bad
            omega
      | succ u ih =>
        intro i hi hp fi hC hF
        have D2 := m_isDigit (g := g) hm hn hT hC
        have yd : 48 ≤ sg T n i ∧ sg T n i ≤ 57 := by
          unfold sg
          rw [if_neg (by omega)]
          exact r3 i hp (by omega)
        obtain ⟨f', A, G1, G2⟩ := ih (i + 1) (by omega) (by omega) (up2 fi M 2 ((i + 1 : Nat) : Int)) hC.p (hF.up (by omega))
        refine ⟨f', bk_X12_number_35 hm ⟨fi, g, _, D2, fun y => absurd y (by rw [bI_t yd]; decide), fun _ => ?_⟩, G1, G2⟩
        rw [hC.2.2.1, show (i : Int) + 1 = ((i + 1 : Nat) : Int) by omega]
        exact ⟨by omega, A⟩
    obtain ⟨f2, A, G2, H2⟩ := loop (d - e) e (by omega) (Nat.le_refl _) f1 G1 H1
    refine ⟨f2, bk_X12_number_0 hm ⟨f1, g, E1, f1, g, _, D, fun _ => ⟨f1, g, _, m_sign hm hn G1, ?_⟩, fun y => absurd y (by rw [bI_t (pos.mpr z)]; decide)⟩, G2, H2⟩
    rw [s, G1.2.2.1]
    exact ⟨by omega, A⟩
theorem stat_G {σ : St} {f : FI} {fl : Int} (hS : Stat σ f) (h : 0 ≤ fl ∧ fl ≤ 3) : f (stG σ) fl.toNat = if fl = 3 then 7 else 3 := by
  obtain ⟨_, _, _, _, _, g0, g1, g2, g3⟩ := hS
  have : fl = 0 ∨ fl = 1 ∨ fl = 2 ∨ fl = 3 := by omega
  rcases this with rfl | rfl | rfl | rfl
  · exact g0
  · exact g1
  · exact g2
  · exact g3
theorem l_value {σ : St} {f : FI} {g : FL} {B n p e q a d k m N : Nat} {T : Nat → Int} {F fl x : Int} {s : Nat → Int} {o : Nat → Nat} {K L R : FN} (hs : Sh4 σ B) (hS : Stat σ f) (hl : Lo σ B) (hn : n ≤ 200) (hfl : 0 ≤ fl ∧ fl ≤ 3) (hF : 0 ≤ F ∧ F ≤ 1700) (hm : m < 32) (hN : N < 200) (h : RC f B T n p F a d k m N s o K L R) (hb : Run (fun i => T i = 32) n p e) (hd : Run (fun i => 48 ≤ T i ∧ T i ≤ 57) n e q) : ∃ f' : FI, Ex mt 2 56 (il σ f g) [vR 4 (some (B + 5)), vI x, vI fl] (il σ f' g, []) ∧ FCr B f f' ∧ (¬ nF T fl F e q = 0 → f' (B + 5) 10 = nF T fl F e q) ∧ (nF T fl F e q = 0 → q = e + 1 ∧ RC f' B T n q 0 a d k (m + 1) (N + 1) s (ups o m N) (upF K N x) (upF L N fl) (upF R N (T e - 48)) ∧ (0 ≤ T e - 48 ∧ T e - 48 ≤ 7 ∧ (fl = 3 ∨ T e - 48 < 4))) := by
  obtain ⟨f1, E1, G1, H1⟩ := l_blanks (g := g) hs hn h.1 hb
  have D := l_digits (g := g) hs hn G1 hd
  have S := l_sign (g := g) hs hn G1
  have pos := dig_pos hd
  have he : e ≤ 200 := Nat.le_trans hb.2.1 hn
  have hS1 : Stat σ f1 := hS.fr3 hl (fun c j hc => H1 c j (by omega))
  have rq := hd.1
  by_cases z : q = e
  · obtain ⟨f2, E2, G2, H2⟩ := l_fail (g := g) (k := 0) (q := e) hs he (by omega) G1
    have b0 := flt_rg (k := 0) hF he (by omega)
    have en : nF T fl F e q = flt F e 0 := by
      unfold nF
      rw [if_pos z]
    rw [en]
    refine ⟨f2, bk_X4_readValue_0 hs ⟨f1, g, E1, f1, g, _, S, fun y => absurd z (pos.mp y), fun _ => ⟨f2, g, ?_, rfl⟩⟩, (H1.tr H2).r, fun _ => G2.2.2.2.1, fun y => absurd y (by omega)⟩
    rw [G1.2.2.1]
    exact E2
  · have s1 := dig_sg hd z
    have te := hd.2.2.1 e (Nat.le_refl _) (by omega)
    have gG := stat_G hS1 hfl
    rw [s1] at S pos
    by_cases bad : 1 < q - e ∨ (if fl = 3 then 7 else 3) < T e - 48
    · obtain ⟨f2, E2, G2, H2⟩ := l_fail (g := g) (k := 1) (q := e) hs he (by omega) G1
      have b0 := flt_rg (k := 1) hF he (by omega)
      have en : nF T fl F e q = flt F e 1 := by
        unfold nF
        rw [if_neg z, if_pos bad]
      rw [en]
      refine ⟨f2, bk_X4_readValue_0 hs ⟨f1, g, E1, f1, g, _, S, fun _ => ⟨f1, g, _, D, fun _ => ⟨f2, g, ?_, rfl⟩, fun y => ⟨⟨by omega, hS1, by omega⟩, fun y2 => ?_, fun _ => ⟨f2, g, ?_, rfl⟩⟩⟩, fun y => absurd te y⟩, (H1.tr H2).r, fun _ => G2.2.2.2.1, fun y => absurd y (by omega)⟩
      · rw [G1.2.2.1]
        exact E2
      · rw [gG] at y2
        omega
      · rw [G1.2.2.1]
        exact E2
    · have en : nF T fl F e q = F := by
        unfold nF
        rw [if_neg z, if_neg bad]
      rw [en]
      have q1 : q = e + 1 := by omega
      have val : 0 ≤ T e - 48 ∧ T e - 48 ≤ 7 ∧ (fl = 3 ∨ T e - 48 < 4) := by
        by_cases f3 : fl = 3
        · rw [if_pos f3] at bad
          omega
        · rw [if_neg f3] at bad
          omega
      have R1 := h.fc H1 G1
      have G1p : CT (up2 f1 (B + 5) 5 ((e + 1 : Nat) : Int)) B T n (e + 1) F a := G1.p
      have R2 : RC (up2 f1 (B + 5) 5 ((e + 1 : Nat) : Int)) B T n (e + 1) F a d k m N s o K L R := R1.fc (FC.rfl'.up (by omega)) G1p
      by_cases f0 : F = 0
      · subst f0
        obtain ⟨f2, E2, G2, H2⟩ := l_push (g := g) (x := x) (l := fl) (r := T e - 48) hs hm hN R2
        refine ⟨f2, bk_X4_readValue_0 hs ⟨f1, g, E1, f1, g, _, S, fun _ => ⟨f1, g, _, D, fun y => absurd y (by omega), fun y => ⟨⟨by omega, hS1, by omega⟩, fun y2 => ?_, fun y2 => absurd (by rw [gG]; omega) y2⟩⟩, fun y => absurd te y⟩, (H1.tr (FC.rfl'.up (by omega))).r.tr H2, fun y => absurd rfl y, fun _ => ⟨q1, by rw [q1]; exact G2, val⟩⟩
        rw [G1.2.2.1, show (e : Int) + 1 = ((e + 1 : Nat) : Int) by omega]
        exact ⟨⟨by omega, by omega⟩, f2, g, E2, rfl⟩
      · refine ⟨up2 f1 (B + 5) 5 ((e + 1 : Nat) : Int), bk_X4_readValue_0 hs ⟨f1, g, E1, f1, g, _, S, fun _ => ⟨f1, g, _, D, fun y => absurd y (by omega), fun y => ⟨⟨by omega, hS1, by omega⟩, fun y2 => ?_, fun y2 => absurd (by rw [gG]; omega) y2⟩⟩, fun y => absurd te y⟩, (H1.tr (FC.rfl'.up (by omega))).r, fun _ => G1p.2.2.2.1, fun y => absurd y f0⟩
        rw [G1.2.2.1, show (e : Int) + 1 = ((e + 1 : Nat) : Int) by omega]
        exact ⟨⟨by omega, by omega⟩, _, g, bk_X4_pushOperand_0 hs ⟨fun _ => rfl, fun y => absurd (G1p.2.2.2.1.symm.trans y) f0⟩, rfl⟩
