/-! reading an atom or a bracket: the rest -/
section
variable {σ σm : St} {fc fm : FI} {g gm : FL} {B M w0 n p e a d k m N : Nat} {T : Nat → Int} {s : Nat → Int} {o : Nat → Nat} {K L R : FN}
theorem unless_both (hs : Sh4 σ B) (hm : Sh12 σm M) (hS : Stat σ fc) (hl : Lo σ B) (hw : w0 < 12) (hn : n ≤ 200) (hT : ∀ i, i < n → 0 ≤ T i ∧ T i ≤ 255) (he : e < n) (hmm : m < 32) (hN : N < 200) (ha : a ≤ 40) (hns : sg T n e = 33) (hC : RC fc B T n e 0 a d k m N s o K L R) (hM : RM fm M w0 T n e 0 a d k m N s o K L R) : ∃ fc' fm' : FI, Ex mt 3 54 (il σ fc g) [vR 4 (some (B + 5))] (il σ fc' g, []) ∧ Ex mt 3 218 (il σm fm gm) [vR 12 (some M), vI (e : Int)] (il σm fm' gm, []) ∧ FCr B fc fc' ∧ FMr M w0 fm fm' ∧ AtO fc' fm' B M w0 T n e a d k m N s o K L R := by
  obtain ⟨F1, hF1⟩ : ∃ v : Int, v = if a = 40 then flt 0 e 3 else 0 := ⟨_, rfl⟩
  have F1r : 0 ≤ F1 ∧ F1 ≤ 1700 := by
    rw [hF1]
    have := flt_rg (F := 0) (k := 3) (p := e) (by omega) (by omega) (by omega)
    split <;> omega
  have F10 : F1 = 0 → a < 40 := fun y => by
    rw [hF1] at y
    have := flt_rg (F := 0) (k := 3) (p := e) (by omega) (by omega) (by omega)
    split at y <;> omega
  obtain ⟨fc1, E1, G1, H1⟩ := l_count (g := g) (q := e) hs (by omega) ha hC.1
  obtain ⟨fm1, ME1, MG1, MH1⟩ := m_counts (g := gm) (q := e) hm (by omega) ha hM.1
  rw [← hF1] at G1 MG1
  obtain ⟨b0, hb0⟩ := Run.ex (fun i => T i = 32) n (n - (e + 1)) (e + 1) (by omega)
  have b0le := hb0.2.1
  have b0ge := hb0.1
  obtain ⟨fc2, E2, G2, H2⟩ := l_blanks (g := g) hs hn (G1.p (q := e + 1)) hb0
  obtain ⟨fm2, ME2, MG2, MH2⟩ := m_blanks (g := gm) hm hn (MG1.p (q := e + 1)) hb0
  have Hc2 : FC B fc fc2 := (H1.tr (FC.rfl'.up (by omega))).tr H2
  have Hm2 : FM M fm fm2 := (MH1.tr (FM.rfl'.up (by omega))).tr MH2
  obtain ⟨w, hwr⟩ := Run.ex (fun i => 97 ≤ T i ∧ T i ≤ 122) n (n - b0) b0 (by omega)
  have fr := fdv_rg hwr
  have lf := l_field (g := g) hs hn G2 hwr
  have lw := l_word (g := g) hs hn G2 hwr
  obtain ⟨fm3, ME3, MG3, MH3⟩ := m_field (g := gm) hm hn hT MG2 hwr
  have e1 : (e : Int) + 1 = ((e + 1 : Nat) : Int) := by omega
  have m0 : ∀ r, A_X12_atom_38 σm fm2 gm M (e : Int) 1 r → Ex mt 3 218 (il σm fm gm) [vR 12 (some M), vI (e : Int)] r := fun r A => bk_X12_atom_0 hm ⟨fm, gm, _, m_sign hm hn hM.1, fun y => absurd hns y, fun _ => ⟨fm1, gm, ME1, by rw [MG1.2.2.1]; omega, fm2, gm, by rw [MG1.2.2.1, e1]; exact ME2, A⟩⟩
  by_cases z : fdv T b0 (w - b0) = -1
  · obtain ⟨fc3, E3, G3, H3⟩ := l_fail (g := g) (k := 0) (q := b0) hs (by omega) (by omega) G2
    obtain ⟨fm4, E4, G4, H4⟩ := m_fails (g := gm) (k := 0) (q := b0) hm (by omega) (by omega) MG3
    rw [z] at lf ME3
    refine ⟨fc3, fm4, bk_X4_readUnless_0 hs ⟨fc1, g, by rw [hC.1.2.2.1]; exact E1, by rw [G1.2.2.1]; omega, fc2, g, by rw [G1.2.2.1, e1]; exact E2, fc2, g, _, lf, fun y => absurd rfl y, fun _ => ⟨fc3, g, by rw [G2.2.2.1]; exact E3, rfl⟩⟩, m0 _ (bk_X12_atom_38 hm ⟨fm3, gm, _, ME3, fun y => absurd rfl y, fun _ => ⟨fm4, gm, by rw [MG2.2.2.1]; exact E4, rfl⟩⟩), (Hc2.tr H3).r, ((Hm2.tr MH3).tr H4).r, Or.inl ⟨_, flt_rg F1r (by omega) (by omega), G3.2.2.2.1, G4.2.2.2.1⟩⟩
  · rw [if_neg z] at MG3
    obtain ⟨fl, hfl⟩ : ∃ v, v = fdv T b0 (w - b0) := ⟨_, rfl⟩
    rw [← hfl] at z fr lf ME3
    have wle : w ≤ n := hwr.2.1
    have wge := hwr.1
    obtain ⟨b, hb⟩ := Run.ex (fun i => T i = 32) n (n - w) w (by omega)
    have ble := hb.2.1
    have bge := hb.1
    have G2p : CT (up2 fc2 (B + 5) 5 (w : Int)) B T n w F1 (a + 1) := G2.p
    obtain ⟨fc3, E3, G3, H3⟩ := l_blanks (g := g) hs hn G2p hb
    have S3 := l_sign (g := g) hs hn G3
    have Hc3 : FC B fc fc3 := (Hc2.up (by omega)).tr H3
    have RM3 := hM.fm (Hm2.tr MH3) MG3
    have m38 : ∀ r, A_X12_atom_71 σm fm3 gm M 1 fl r → A_X12_atom_38 σm fm2 gm M (e : Int) 1 r := fun r A => bk_X12_atom_38 hm ⟨fm3, gm, _, ME3, fun _ => ⟨fun _ => A, fun y => absurd y (by decide)⟩, fun y => absurd y z⟩
    have c0 : ∀ r, ((sg T n b = 61 → ((-2147483648 ≤ ((fc3 (B + 5) 5) + 1) ∧ ((fc3 (B + 5) 5) + 1) ≤ 2147483647)) ∧ (∃ (f28 : FI) (g29 : FL), Ex mt 2 56 (il σ (up2 fc3 (B + 5) 5 ((fc3 (B + 5) 5) + 1)) g) [vR 4 (some (B + 5)), vI 3, vI fl] ((il σ f28 g29), []) ∧ (r = ((il σ f28 g29), [])))) ∧ (¬ sg T n b = 61 → (∃ (f32 : FI) (g33 : FL), Ex mt 0 64 (il σ fc3 g) [vR 4 (some (B + 5)), vI (fc3 (B + 5) 5), vI 0] ((il σ f32 g33), []) ∧ (r = ((il σ f32 g33), []))))) → Ex mt 3 54 (il σ fc g) [vR 4 (some (B + 5))] r := fun r A => by
      refine bk_X4_readUnless_0 hs ⟨fc1, g, by rw [hC.1.2.2.1]; exact E1, by rw [G1.2.2.1]; omega, fc2, g, by rw [G1.2.2.1, e1]; exact E2, fc2, g, _, lf, fun _ => ⟨fc2, g, _, lw, ?_⟩, fun y => absurd y z⟩
      rw [G2.2.2.1, show (b0 : Int) + ((w - b0 : Nat) : Int) = (w : Int) by omega]
      exact ⟨by omega, fc3, g, E3, fc3, g, _, S3, A⟩
    by_cases hc : sg T n b = 61
    · have bn : b < n := by
        by_cases y : n ≤ b
        · unfold sg at hc
          rw [if_pos y] at hc
          omega
        · omega
      obtain ⟨v, hv⟩ := Run.ex (fun i => T i = 32) n (n - (b + 1)) (b + 1) (by omega)
      have vle := hv.2.1
      obtain ⟨q, hq⟩ := Run.ex (fun i => 48 ≤ T i ∧ T i ≤ 57) n (n - v) v (by omega)
      have qle := hq.2.1
      have vge := hv.1
      have flr : 0 ≤ fl ∧ fl ≤ 3 := by omega
      obtain ⟨fm4, A4, F4, N4, O4⟩ := m_tail1 (g := gm) (fl := fl) (nt := 1) hm hw hn hT flr (by omega) (by omega) RM3 hb (Or.inr rfl) (Or.inl hc) hv hq
      rw [if_neg (show ¬ sg T n b = 58 by omega), if_neg (show ¬ (1 : Int) = 0 by decide)] at O4
      have G3p : CT (up2 fc3 (B + 5) 5 ((b + 1 : Nat) : Int)) B T n (b + 1) F1 (a + 1) := G3.p
      have Hc4 : FC B fc (up2 fc3 (B + 5) 5 ((b + 1 : Nat) : Int)) := Hc3.up (by omega)
      have RC4 := hC.fc Hc4 G3p
      have hS4 : Stat σ (up2 fc3 (B + 5) 5 ((b + 1 : Nat) : Int)) := hS.fr3 hl (fun c j hc => Hc4 c j (by omega))
      obtain ⟨fc4, E4, D4, N5, O5⟩ := l_value (g := g) (x := 3) hs hS4 hl hn flr F1r hmm hN RC4 hv hq
      refine ⟨fc4, fm4, c0 _ ⟨fun _ => ?_, fun y => absurd hc y⟩, m0 _ (m38 _ A4), Hc4.r.tr D4, (Hm2.tr MH3).r.tr F4, ?_⟩
      · rw [G3.2.2.1, show (b : Int) + 1 = ((b + 1 : Nat) : Int) by omega]
        exact ⟨by omega, fc4, g, E4, rfl⟩
      · have nr := nF_rg (T := T) (fl := fl) (e := v) (d := q) F1r (by omega)
        by_cases y : nF T fl F1 v q = 0
        · obtain ⟨q1, RC5, vr⟩ := O5 y
          refine Or.inr ⟨F10 (nF_0 y), q, 3, fl, T v - 48, ⟨by omega, qle⟩, Or.inr ⟨by omega, flr, vr⟩, ?_, RC5, O4 y⟩
          rw [aTx_len2 (by omega), if_pos rfl]
          by_cases f3 : fl = 3
          · rw [if_pos f3]
            omega
          · rw [if_neg f3]
            omega
        · exact Or.inl ⟨nF T fl F1 v q, by omega, N5 y, N4 y⟩
    · obtain ⟨fc4, E4, G4, H4⟩ := l_fail (g := g) (k := 0) (q := b) hs (by omega) (by omega) G3
      obtain ⟨fm4, A4, Q4, F4⟩ := m_tail0 (g := gm) (fl := fl) (nt := 1) hm hn MG3 hb (Or.inr rfl) (by omega)
      exact ⟨fc4, fm4, c0 _ ⟨fun y => absurd y hc, fun _ => ⟨fc4, g, by rw [G3.2.2.1]; exact E4, rfl⟩⟩, m0 _ (m38 _ A4), (Hc3.tr H4).r, ((Hm2.tr MH3).tr F4).r, Or.inl ⟨_, flt_rg F1r (by omega) (by omega), G4.2.2.2.1, Q4⟩⟩
theorem m_135 {F x2 : Int} {q : Nat} (hm : Sh12 σm M) (hw : w0 < 12) (he : e ≤ 200) (ha : a ≤ 40) (hmm : m < 202) (hN : N < 300) (h : RM fm M w0 T n q F a d k m N s o K L R) : ∃ fm' : FI, A_X12_wanted_135 σm fm gm M (e : Int) x2 (il σm fm' gm, [vI 1]) ∧ FMr M w0 fm fm' ∧ (¬ (if a = 40 then flt F e 3 else F) = 0 → fm' M 3 = (if a = 40 then flt F e 3 else F)) ∧ ((if a = 40 then flt F e 3 else F) = 0 → RM fm' M w0 T n q 0 (a + 1) d k (m + 1) (N + 1) s (ups o m N) (upF K N (if x2 = 0 then 0 else 1)) (upF L N 0) (upF R N 0)) := by
  obtain ⟨f1, E1, G1, H1⟩ := m_counts (g := gm) (q := e) hm he ha h.1
  obtain ⟨F2, hF2⟩ : ∃ v, v = if a = 40 then flt F e 3 else F := ⟨_, rfl⟩
  rw [← hF2] at G1 ⊢
  have R1 := h.fm H1 G1
  have nd : ∀ x : Int, x ≤ 4 → ∃ f' : FI, A_X12_wanted_150 σm f1 gm M x (il σm f' gm, [vI 1]) ∧ FMr M w0 fm f' ∧ (¬ F2 = 0 → f' M 3 = F2) ∧ (F2 = 0 → RM f' M w0 T n q 0 (a + 1) d k (m + 1) (N + 1) s (ups o m N) (upF K N x) (upF L N 0) (upF R N 0)) := fun x hx => by
    by_cases z : F2 = 0
    · rw [z] at R1
      obtain ⟨f3, E3, G3, H3⟩ := m_node (g := gm) (x := x) (l := 0) (r := 0) hm hw hmm hN R1
      rw [swp_4 (by omega)] at E3
      exact ⟨f3, bk_X12_wanted_150 ⟨f3, gm, E3, rfl⟩, H1.r.tr H3, fun y => absurd z y, fun _ => G3⟩
    · exact ⟨f1, bk_X12_wanted_150 ⟨f1, gm, bk_X12_node_0 hm ⟨fun _ => rfl, fun y => absurd (G1.2.2.2.1.symm.trans y) z⟩, rfl⟩, H1.r, fun _ => G1.2.2.2.1, fun y => absurd y z⟩
  by_cases z : x2 = 0
  · obtain ⟨f', A, G⟩ := nd 0 (by omega)
    rw [if_pos z]
    exact ⟨f', bk_X12_wanted_135 hm ⟨f1, gm, E1, fun y => absurd z y, fun _ => A⟩, G⟩
  · obtain ⟨f', A, G⟩ := nd 1 (by omega)
    rw [if_neg z]
    exact ⟨f', bk_X12_wanted_135 hm ⟨f1, gm, E1, fun _ => A, fun y => absurd y z⟩, G⟩
theorem const_both (hs : Sh4 σ B) (hm : Sh12 σm M) (hw : w0 < 12) (hn : n ≤ 200) (hT : ∀ i, i < n → 0 ≤ T i ∧ T i ≤ 255) (hmm : m < 32) (hN : N < 200) (ha : a ≤ 40) (hdg : 48 ≤ sg T n e ∧ sg T n e ≤ 57) (he : e ≤ n) (hC : RC fc B T n e 0 a d k m N s o K L R) (hM : RM fm M w0 T n e 0 a d k m N s o K L R) : ∃ fc' fm' : FI, Ex mt 2 53 (il σ fc g) [vR 4 (some (B + 5)), vI (sg T n e)] (il σ fc' g, []) ∧ A_X12_wanted_94 σm fm gm M (e : Int) (sg T n e - 48) (il σm fm' gm, [vI 1]) ∧ FCr B fc fc' ∧ FMr M w0 fm fm' ∧ AtO fc' fm' B M w0 T n e a d k m N s o K L R := by
  obtain ⟨q, hq⟩ := Run.ex (fun i => 48 ≤ T i ∧ T i ≤ 57) n (n - e) e (by omega)
  have ne := (dig_pos hq).mp hdg
  have sT := dig_sg hq ne
  have ld := l_digits (g := g) hs hn hC.1 hq
  obtain ⟨r1, r2, r3, r4⟩ := hq
  rw [sT]
  rw [sT] at hdg
  -- the model's loop
  have loop : ∀ (fz : FI), (∀ fe : FI, MT fe M T n q 0 a → FM M fm fe → ((1 < q - e ∨ 1 < T e - 48) → ∀ f2, Ex mt 0 207 (il σm fe gm) [vR 12 (some M), vI 0, vI (e : Int)] (il σm f2 gm, []) → ∃ fz, A_X12_wanted_135 σm f2 gm M (e : Int) (T e - 48) (il σm fz gm, [vI 1]))) → True := fun _ _ => trivial
  have lp : ∀ u i : Nat, i + u = q → e ≤ i → ∀ fi : FI, MT fi M T n i 0 a → FM M fm fi → ∃ fe : FI, MT fe M T n q 0 a ∧ FM M fm fe ∧ ∀ r, A_X12_wanted_94 σm fe gm M (e : Int) (T e - 48) r → A_X12_wanted_94 σm fi gm M (e : Int) (T e - 48) r := by
    intro u
    induction u with
    | zero =>
      intro i hi hp fi hC hF
      obtain rfl : i = q := hi
      exact ⟨fi, hC, hF, fun r A => A⟩
    | succ u ih =>
      intro i hi hp fi hC hF
      have D2 := m_isDigit (g := gm) hm hn hT hC
      have yd : 48 ≤ sg T n i ∧ sg T n i ≤ 57 := by
        unfold sg
        rw [if_neg (by omega)]
        exact r3 i hp (by omega)
      obtain ⟨fe, G1, G2, G3⟩ := ih (i + 1) (by omega) (by omega) (up2 fi M 2 ((i + 1 : Nat) : Int)) hC.p (hF.up (by omega))
      refine ⟨fe, G1, G2, fun r A => bk_X12_wanted_94 hm ⟨fi, gm, _, D2, fun y => absurd y (by rw [bI_t yd]; decide), fun _ => ?_⟩⟩
      rw [hC.2.2.1, show (i : Int) + 1 = ((i + 1 : Nat) : Int) by omega]
      exact ⟨by omega, G3 r A⟩
  obtain ⟨fe, MG, MH, MK⟩ := lp (q - e) e (by omega) (Nat.le_refl _) fm hM.1 FM.rfl'
  have D2 := m_isDigit (g := gm) hm hn hT MG
  have nd : ¬ (48 ≤ sg T n q ∧ sg T n q ≤ 57) := by
    unfold sg
    by_cases y : n ≤ q
    · rw [if_pos y]
      omega
    · rw [if_neg y]
      exact r4 (by omega)
  have RMe := hM.fm MH MG
  by_cases bad : 1 < q - e ∨ 1 < T e - 48
  · obtain ⟨fc1, E1, G1, H1⟩ := l_fail (g := g) (k := 0) (q := e) hs (by omega) (by omega) hC.1
    obtain ⟨fm1, ME1, MG1, MH1⟩ := m_fails (g := gm) (k := 0) (q := e) hm (by omega) (by omega) MG
    have fl0 := flt_rg (F := 0) (k := 0) (p := e) (by omega) (by omega) (by omega)
    obtain ⟨fm2, A2, F2, N2, _⟩ := m_135 (gm := gm) (e := e) (x2 := T e - 48) hm hw (by omega) ha (by omega) (by omega) (RMe.fm MH1 MG1)
    have same : (if a = 40 then flt (flt 0 e 0) e 3 else flt 0 e 0) = flt 0 e 0 := by
      split
      · show (if flt 0 e 0 = 0 then _ else flt 0 e 0) = _
        rw [if_neg (by omega)]
      · rfl
    rw [same] at N2
    refine ⟨fc1, fm2, ?_, MK _ (bk_X12_wanted_94 hm ⟨fe, gm, _, D2, fun _ => ?_, fun y => absurd (bI_f nd) y⟩), H1.r, (MH.tr MH1).r.tr F2, Or.inl ⟨_, fl0, G1.2.2.2.1, N2 (by omega)⟩⟩
    · refine bk_X4_readConstant_0 hs ⟨fc, g, _, ld, fun _ => ⟨fc1, g, by rw [hC.1.2.2.1]; exact E1, rfl⟩, fun y => ⟨fun y2 => absurd bad (by omega), fun _ => ⟨fc1, g, by rw [hC.1.2.2.1]; exact E1, rfl⟩⟩⟩
    · rw [MG.2.2.1]
      exact ⟨by omega, fun _ => ⟨fm1, gm, ME1, A2⟩, fun y => ⟨fun y2 => absurd bad (by omega), fun _ => ⟨fm1, gm, ME1, A2⟩⟩⟩
  · have q1 : q = e + 1 := by omega
    obtain ⟨F1, hF1⟩ : ∃ v : Int, v = if a = 40 then flt 0 e 3 else 0 := ⟨_, rfl⟩
    have F1r : 0 ≤ F1 ∧ F1 ≤ 1700 := by
      rw [hF1]
      have := flt_rg (F := 0) (k := 3) (p := e) (by omega) (by omega) (by omega)
      split <;> omega
    have F10 : F1 = 0 → a < 40 := fun y => by
      rw [hF1] at y
      have := flt_rg (F := 0) (k := 3) (p := e) (by omega) (by omega) (by omega)
      split at y <;> omega
    obtain ⟨fc1, E1, G1, H1⟩ := l_count (g := g) (q := e) hs (by omega) ha hC.1
    rw [← hF1] at G1
    obtain ⟨fm2, A2, F2, N2, O2⟩ := m_135 (gm := gm) (e := e) (x2 := T e - 48) hm hw (by omega) ha (by omega) (by omega) RMe
    rw [← hF1] at N2 O2
    have G1p : CT (up2 fc1 (B + 5) 5 ((e + 1 : Nat) : Int)) B T n (e + 1) F1 (a + 1) := G1.p
    have Hc : FC B fc (up2 fc1 (B + 5) 5 ((e + 1 : Nat) : Int)) := H1.up (by omega)
    have RC1 := hC.fc Hc G1p
    -- the class pushes
    have pu : ∀ x : Int, ∃ f' : FI, Ex mt 1 61 (il σ (up2 fc1 (B + 5) 5 ((e + 1 : Nat) : Int)) g) [vR 4 (some (B + 5)), vI x, vI 0, vI 0] (il σ f' g, []) ∧ FCr B fc f' ∧ (¬ F1 = 0 → f' (B + 5) 10 = F1) ∧ (F1 = 0 → RC f' B T n (e + 1) 0 (a + 1) d k (m + 1) (N + 1) s (ups o m N) (upF K N x) (upF L N 0) (upF R N 0)) := fun x => by
      by_cases z : F1 = 0
      · rw [z] at RC1
        obtain ⟨f2, E2, G2, H2⟩ := l_push (g := g) (x := x) (l := 0) (r := 0) hs hmm hN RC1
        exact ⟨f2, E2, Hc.r.tr H2, fun y => absurd z y, fun _ => G2⟩
      · exact ⟨_, bk_X4_pushOperand_0 hs ⟨fun _ => rfl, fun y => absurd (G1p.2.2.2.1.symm.trans y) z⟩, Hc.r, fun _ => G1p.2.2.2.1, fun y => absurd y z⟩
    have md : A_X12_wanted_94 σm fm gm M (e : Int) (T e - 48) (il σm fm2 gm, [vI 1]) := MK _ (bk_X12_wanted_94 hm ⟨fe, gm, _, D2, fun _ => by
      rw [MG.2.2.1]
      exact ⟨by omega, fun y => absurd (by omega) bad, fun y => ⟨fun _ => A2, fun y2 => absurd (by omega) bad⟩⟩, fun y => absurd (bI_f nd) y⟩)
    have out : ∀ (f' : FI) (x : Int), x = (if T e - 48 = 0 then 0 else 1) → (¬ F1 = 0 → f' (B + 5) 10 = F1) → (F1 = 0 → RC f' B T n (e + 1) 0 (a + 1) d k (m + 1) (N + 1) s (ups o m N) (upF K N x) (upF L N 0) (upF R N 0)) → AtO f' fm2 B M w0 T n e a d k m N s o K L R := fun f' x hx N3 O3 => by
      by_cases z : F1 = 0
      · refine Or.inr ⟨F10 z, q, x, 0, 0, ⟨by omega, r2⟩, Or.inl ⟨?_, rfl, rfl⟩, ?_, by rw [q1]; exact O3 z, by rw [hx]; exact O2 z⟩
        · rw [hx]
          split <;> omega
        · rw [hx]
          unfold aTx
          split
          · rw [if_pos rfl]
            show 1 ≤ _
            omega
          · rw [if_neg (by decide), if_pos rfl]
            show 1 ≤ _
            omega
      · exact Or.inl ⟨F1, by omega, N3 z, N2 z⟩
    have cl : ∀ f', ((¬ T e = 48 → (∃ (f21 : FI) (g22 : FL), Ex mt 1 61 (il σ (up2 fc1 (B + 5) 5 ((e + 1 : Nat) : Int)) g) [vR 4 (some (B + 5)), vI 1, vI 0, vI 0] ((il σ f21 g22), []) ∧ ((il σ f' g, []) = ((il σ f21 g22), ([] : List Vl))))) ∧ (T e = 48 → (∃ (f25 : FI) (g26 : FL), Ex mt 1 61 (il σ (up2 fc1 (B + 5) 5 ((e + 1 : Nat) : Int)) g) [vR 4 (some (B + 5)), vI 0, vI 0, vI 0] ((il σ f25 g26), []) ∧ ((il σ f' g, []) = ((il σ f25 g26), ([] : List Vl)))))) → Ex mt 2 53 (il σ fc g) [vR 4 (some (B + 5)), vI (T e)] (il σ f' g, []) := fun f' A => by
      refine bk_X4_readConstant_0 hs ⟨fc, g, _, ld, fun y => absurd (by omega) y, fun _ => ⟨fun _ => ⟨fc1, g, by rw [hC.1.2.2.1]; exact E1, ?_⟩, fun y => absurd (by omega) y⟩⟩
      rw [G1.2.2.1, show (e : Int) + 1 = ((e + 1 : Nat) : Int) by omega]
      exact ⟨by omega, A⟩
    by_cases z : T e = 48
    · obtain ⟨f', E2, H2, N3, O3⟩ := pu 0
      exact ⟨f', fm2, cl f' ⟨fun y => absurd z y, fun _ => ⟨f', g, E2, rfl⟩⟩, md, H2, MH.r.tr F2, out f' 0 (by rw [if_pos (by omega)]) N3 O3⟩
    · obtain ⟨f', E2, H2, N3, O3⟩ := pu 1
      exact ⟨f', fm2, cl f' ⟨fun _ => ⟨f', g, E2, rfl⟩, fun y => absurd y z⟩, md, H2, MH.r.tr F2, out f' 1 (by rw [if_neg (by omega)]) N3 O3⟩
/-- an atom or a bracket -/
theorem ahead_both (hs : Sh4 σ B) (hm : Sh12 σm M) (hS : Stat σ fc) (hl : Lo σ B) (hw : w0 < 12) (hn : n ≤ 200) (hT : ∀ i, i < n → 0 ≤ T i ∧ T i ≤ 255) (hmm : m < 32) (hN : N < 200) (hk : k < 32) (ha : a ≤ 40) (hd : d ≤ 8) (hpe : Run (fun i => T i = 32) n p e) (hC : RC fc B T n e 0 a d k m N s o K L R) (hM : RM fm M w0 T n p 0 a d k m N s o K L R) : ∃ (fc' fm' : FI) (vc vm : Int), Ex mt 4 51 (il σ fc g) [vR 4 (some (B + 5))] (il σ fc' g, [vI vc]) ∧ Ex mt 4 219 (il σm fm gm) [vR 12 (some M)] (il σm fm' gm, [vI vm]) ∧ FCr B fc fc' ∧ FMr M w0 fm fm' ∧ ((vc = 0 ∧ vm = 1 ∧ AtO fc' fm' B M w0 T n e a d k m N s o K L R) ∨ (∃ F' : Int, (1 ≤ F' ∧ F' ≤ 1700) ∧ fc' (B + 5) 10 = F' ∧ fm' M 3 = F') ∨ ((vc = 1 ∧ vm = 0) ∧ d < 8 ∧ e < n ∧ RC fc' B T n (e + 1) 0 a (d + 1) (k + 1) m N (upS s k 40) o K L R ∧ RM fm' M w0 T n (e + 1) 0 a (d + 1) (k + 1) m N (upS s k 40) o K L R)) := by
  have he := hpe.2.1
  obtain ⟨fm1, ME1, MG1, MH1⟩ := m_blanks (g := gm) hm hn hM.1 hpe
  have RM1 := hM.fm MH1 MG1
  have S := l_sign (g := g) hs hn hC.1
  have MS := m_sign (g := gm) hm hn MG1
  have MD := m_isDigit (g := gm) hm hn hT MG1
  have ML := m_isLetter (g := gm) hm hn hT MG1
  by_cases c40 : sg T n e = 40
  · have en : e < n := by
      by_cases y : n ≤ e
      · unfold sg at c40
        rw [if_pos y] at c40
        omega
      · omega
    by_cases d8 : d = 8
    · obtain ⟨fc1, E1, G1, H1⟩ := l_fail (g := g) (k := 2) (q := e) hs (by omega) (by omega) hC.1
      obtain ⟨fm2, ME2, MG2, MH2⟩ := m_fails (g := gm) (k := 2) (q := e) hm (by omega) (by omega) MG1
      have R2 := RM1.fm MH2 MG2
      have a7 := R2.2.1.2.2.1
      have a8 := R2.2.1.2.2.2.1
      have a2 := MG2.2.2.1
      have f7 := RM1.2.1.2.2.1
      have fl0 := flt_rg (F := 0) (k := 2) (p := e) (by omega) (by omega) (by omega)
      refine ⟨fc1, up2 (up2 (up2 (up2 fm2 M 7 (fm2 M 7 + 1)) (M + 7) (fm2 M 8).toNat 8) M 8 (fm2 M 8 + 1)) M 2 (fm2 M 2 + 1), 1, 0, bk_X4_readAhead_0 hs ⟨fc, g, _, S, fun y => absurd c40 y, fun _ => ⟨fc1, g, bk_X4_openBracket_0 hs ⟨fun y => absurd y (by rw [hC.2.1.2.2.1]; omega), fun _ => ⟨fc1, g, by rw [hC.1.2.2.1]; exact E1, rfl⟩⟩, rfl⟩⟩, bk_X12_wanted_0 hm ⟨fm1, gm, ME1, fm1, gm, _, MS, fun y => absurd c40 y, fun _ => ⟨fun y => absurd (by rw [f7]; omega) y, fun _ => ⟨fm2, gm, by rw [MG1.2.2.1]; exact ME2, ⟨by rw [a7]; omega, by rw [a8]; omega, by rw [a8]; omega, by rw [a2]; omega⟩, rfl⟩⟩⟩, H1.r, (((((MH1.tr MH2).r.up (by omega)).up (by omega)).up (by omega)).up (by omega)), Or.inr (Or.inl ⟨_, fl0, G1.2.2.2.1, ?_⟩)⟩
      rw [u2_i (by decide), u2_i (by decide), u2_a (by omega), u2_i (by decide)]
      exact MG2.2.2.2.1
    · -- the bracket opens
      have f7 := RM1.2.1.2.2.1
      have f8 := RM1.2.1.2.2.2.1
      obtain ⟨c1, ⟨h1, h2, h3, h4⟩, h5, h6, h7, h8⟩ := hC
      have RC1 : RC (up2 fc (B + 5) 8 ((d + 1 : Nat) : Int)) B T n e 0 a (d + 1) k m N s o K L R := by
        obtain ⟨q1, q2, q3, q4, q5⟩ := c1
        exact ⟨⟨by rw [u2_i (by decide)]; exact q1, fun i hi => by rw [u2_a (by omega)]; exact q2 i hi, by rw [u2_i (by decide)]; exact q3, by rw [u2_i (by decide)]; exact q4, by rw [u2_i (by decide)]; exact q5⟩, ⟨by rw [u2_i (by decide)]; exact h1, by rw [u2_i (by decide)]; exact h2, u2_s, by rw [u2_i (by decide)]; exact h4⟩, fun i hi => by rw [u2_a (by omega)]; exact h5 i hi, fun i hi => by rw [u2_a (by omega)]; exact h6 i hi, by rw [u2_a (by omega)]; exact h7, fun i hi => by rw [u2_a (by omega), u2_a (by omega), u2_a (by omega)]; exact h8 i hi⟩
      obtain ⟨fc2, E2, G2, H2⟩ := l_psign (g := g) (x := 40) hs hk RC1
      have G2p : CT (up2 fc2 (B + 5) 5 ((e + 1 : Nat) : Int)) B T n (e + 1) 0 a := G2.1.p
      refine ⟨up2 fc2 (B + 5) 5 ((e + 1 : Nat) : Int), up2 (up2 (up2 (up2 fm1 M 7 (fm1 M 7 + 1)) (M + 7) (fm1 M 8).toNat 8) M 8 (fm1 M 8 + 1)) M 2 (fm1 M 2 + 1), 1, 0, bk_X4_readAhead_0 hs ⟨fc, g, _, S, fun y => absurd c40 y, fun _ => ⟨_, g, bk_X4_openBracket_0 hs ⟨fun _ => ?_, fun y => absurd (by rw [h3]; omega) y⟩, rfl⟩⟩, bk_X12_wanted_0 hm ⟨fm1, gm, ME1, fm1, gm, _, MS, fun y => absurd c40 y, fun _ => ⟨fun _ => ⟨⟨by rw [f7]; omega, by rw [f8]; omega, by rw [f8]; omega, by rw [MG1.2.2.1]; omega⟩, rfl⟩, fun y => absurd y (by rw [f7]; omega)⟩⟩, ((FCr.rfl'.up (by omega)).tr H2).up (by omega), (((MH1.r.up (by omega)).up (by omega)).up (by omega)).up (by omega), Or.inr (Or.inr ⟨⟨rfl, rfl⟩, by omega, en, G2.fc (FC.rfl'.up (by omega)) G2p, ?_⟩)⟩
      · rw [h3, show (d : Int) + 1 = ((d + 1 : Nat) : Int) by omega]
        refine ⟨by omega, fc2, g, E2, ?_⟩
        rw [G2.1.2.2.1, show (e : Int) + 1 = ((e + 1 : Nat) : Int) by omega]
        exact ⟨by omega, rfl⟩
      · rw [f7, f8, MG1.2.2.1, show ((k : Int)).toNat = k from rfl, show (d : Int) + 1 = ((d + 1 : Nat) : Int) by omega, show (k : Int) + 1 = ((k + 1 : Nat) : Int) by omega, show (e : Int) + 1 = ((e + 1 : Nat) : Int) by omega]
        obtain ⟨⟨q1, q2, q3, q4, q5⟩, ⟨t1, t2, t3, t4, t5, t6⟩, t7, t8, t9⟩ := RM1
        have kM : ∀ j, j ≠ 2 → j ≠ 7 → j ≠ 8 → (up2 (up2 (up2 (up2 fm1 M 7 ((d + 1 : Nat) : Int)) (M + 7) k 8) M 8 ((k + 1 : Nat) : Int)) M 2 ((e + 1 : Nat) : Int) : FI) M j = fm1 M j := fun j a1 a2 a3 => by rw [u2_i a1, u2_i a3, u2_a (by omega), u2_i a2]
        have kO : ∀ c j, c ≠ M → c ≠ M + 7 → (up2 (up2 (up2 (up2 fm1 M 7 ((d + 1 : Nat) : Int)) (M + 7) k 8) M 8 ((k + 1 : Nat) : Int)) M 2 ((e + 1 : Nat) : Int) : FI) c j = fm1 c j := fun c j a1 a2 => by rw [u2_a a1, u2_a a1, u2_a a2, u2_a a1]
        refine ⟨⟨by rw [kM _ (by decide) (by decide) (by decide)]; exact q1, fun i hi => by rw [kO _ _ (by omega) (by omega)]; exact q2 i hi, u2_s, by rw [kM _ (by decide) (by decide) (by decide)]; exact q4, by rw [kM _ (by decide) (by decide) (by decide)]; exact q5⟩, ⟨by rw [kM _ (by decide) (by decide) (by decide)]; exact t1, by rw [kM _ (by decide) (by decide) (by decide)]; exact t2, by rw [u2_i (by decide), u2_i (by decide), u2_a (by omega), u2_s], by rw [u2_i (by decide), u2_s], by rw [kM _ (by decide) (by decide) (by decide)]; exact t5, by rw [kM _ (by decide) (by decide) (by decide)]; exact t6⟩, fun i hi => ?_, fun i hi => by rw [kO _ _ (by omega) (by omega)]; exact t8 i hi, fun i hi => by rw [kO _ _ (by omega) (by omega), kO _ _ (by omega) (by omega), kO _ _ (by omega) (by omega)]; exact t9 i hi⟩
        rw [u2_a (by omega), u2_a (by omega)]
        by_cases z : i = k
        · rw [z, u2_s, upS_at]
          rfl
        · rw [u2_i z, u2_a (by omega), upS_ne z]
          exact t7 i (by omega)
  · by_cases dg : 48 ≤ sg T n e ∧ sg T n e ≤ 57
    · obtain ⟨fc', fm', E1, A1, Q1, Q2, O⟩ := const_both (g := g) (gm := gm) hs hm hw hn hT hmm hN ha dg he hC RM1
      have sr := sg_rg (p := e) hT
      exact ⟨fc', fm', 0, 1, bk_X4_readAhead_0 hs ⟨fc, g, _, S, fun _ => ⟨fun y => absurd dg y, fun _ => ⟨fc', g, E1, rfl⟩⟩, fun y => absurd y c40⟩, bk_X12_wanted_0 hm ⟨fm1, gm, ME1, fm1, gm, _, MS, fun _ => ⟨fm1, gm, _, MD, fun y => absurd y (by rw [bI_t dg]; decide), fun _ => ⟨fm1, gm, _, MS, by omega, by rw [MG1.2.2.1]; exact A1⟩⟩, fun y => absurd y c40⟩, Q1, MH1.r.tr Q2, Or.inl ⟨rfl, rfl, O⟩⟩
    · have md0 : ∀ r, (∃ (f18 : FI) (g19 : FL) (v21 : Int), Ex mt 0 208 (il σm fm1 gm) [vR 12 (some M)] ((il σm f18 g19), [vI v21]) ∧ ((v21 = 33 → (∃ (f25 : FI) (g26 : FL), Ex mt 3 218 (il σm f18 g19) [vR 12 (some M), vI (fm1 M 2)] ((il σm f25 g26), []) ∧ (r = ((il σm f25 g26), [vI 1])))) ∧ (¬ v21 = 33 → (∃ (f29 : FI) (g30 : FL) (v32 : Int), Ex mt 1 211 (il σm f18 g19) [vR 12 (some M)] ((il σm f29 g30), [vI v32]) ∧ ((¬ v32 = 0 → (∃ (f36 : FI) (g37 : FL), Ex mt 3 218 (il σm f29 g30) [vR 12 (some M), vI (fm1 M 2)] ((il σm f36 g37), []) ∧ (r = ((il σm f36 g37), [vI 1])))) ∧ (v32 = 0 → (∃ (f40 : FI) (g41 : FL), Ex mt 0 207 (il σm f29 g30) [vR 12 (some M), vI 0, vI (fm1 M 2)] ((il σm f40 g41), []) ∧ (r = ((il σm f40 g41), [vI 1])))))))) ) → Ex mt 4 219 (il σm fm gm) [vR 12 (some M)] r := fun r A => bk_X12_wanted_0 hm ⟨fm1, gm, ME1, fm1, gm, _, MS, fun _ => ⟨fm1, gm, _, MD, fun _ => A, fun y => absurd (bI_f dg) y⟩, fun y => absurd y c40⟩
      by_cases c33 : sg T n e = 33
      · have en : e < n := by
          by_cases y : n ≤ e
          · unfold sg at c33
            rw [if_pos y] at c33
            omega
          · omega
        obtain ⟨fc', fm', E1, A1, Q1, Q2, O⟩ := unless_both (g := g) (gm := gm) hs hm hS hl hw hn hT en hmm hN ha c33 hC RM1
        exact ⟨fc', fm', 0, 1, bk_X4_readAhead_0 hs ⟨fc, g, _, S, fun _ => ⟨fun _ => ⟨fun y => absurd c33 y, fun _ => ⟨fc', g, E1, rfl⟩⟩, fun y => absurd y dg⟩, fun y => absurd y c40⟩, md0 _ ⟨fm1, gm, _, MS, fun _ => ⟨fm', gm, by rw [MG1.2.2.1]; exact A1, rfl⟩, fun y => absurd c33 y⟩, Q1, MH1.r.tr Q2, Or.inl ⟨rfl, rfl, O⟩⟩
      · obtain ⟨fc', fm', E1, A1, Q1, Q2, O⟩ := test_both (g := g) (gm := gm) hs hm hS hl hw hn hT he hmm hN ha c33 hC RM1
        have clE : Ex mt 4 51 (il σ fc g) [vR 4 (some (B + 5))] (il σ fc' g, [vI 0]) := bk_X4_readAhead_0 hs ⟨fc, g, _, S, fun _ => ⟨fun _ => ⟨fun _ => ⟨fc', g, E1, rfl⟩, fun y => absurd y c33⟩, fun y => absurd y dg⟩, fun y => absurd y c40⟩
        by_cases lt : 97 ≤ sg T n e ∧ sg T n e ≤ 122
        · exact ⟨fc', fm', 0, 1, clE, md0 _ ⟨fm1, gm, _, MS, fun y => absurd y c33, fun _ => ⟨fm1, gm, _, ML, fun _ => ⟨fm', gm, by rw [MG1.2.2.1]; exact A1, rfl⟩, fun y => absurd y (by rw [bI_t lt]; decide)⟩⟩, Q1, MH1.r.tr Q2, Or.inl ⟨rfl, rfl, O⟩⟩
        · -- no letter: both fail here
          obtain ⟨w, hwr⟩ := Run.ex (fun i => 97 ≤ T i ∧ T i ≤ 122) n (n - e) e (by omega)
          have we : w = e := by
            by_cases y : w = e
            · exact y
            · have y1 := hwr.1
              have y2 := hwr.2.1
              have y3 := hwr.2.2.1 e (Nat.le_refl _) (by omega)
              unfold sg at lt
              rw [if_neg (by omega)] at lt
              exact absurd y3 lt
          have lf := l_field (g := g) hs hn hC.1 hwr
          have fv : fdv T e (w - e) = -1 := by
            unfold fdv
            rw [if_neg (by omega), if_neg (by omega)]
          rw [fv] at lf
          obtain ⟨fc1, F1, G1, H1⟩ := l_fail (g := g) (k := 0) (q := e) hs (by omega) (by omega) hC.1
          obtain ⟨fm2, ME2, MG2, MH2⟩ := m_fails (g := gm) (k := 0) (q := e) hm (by omega) (by omega) MG1
          have fl0 := flt_rg (F := 0) (k := 0) (p := e) (by omega) (by omega) (by omega)
          exact ⟨fc1, fm2, 0, 1, bk_X4_readAhead_0 hs ⟨fc, g, _, S, fun _ => ⟨fun _ => ⟨fun _ => ⟨fc1, g, bk_X4_readTestOrChange_0 hs ⟨fc, g, _, lf, fun y => absurd rfl y, fun _ => ⟨fc1, g, by rw [hC.1.2.2.1]; exact F1, rfl⟩⟩, rfl⟩, fun y => absurd y c33⟩, fun y => absurd y dg⟩, fun y => absurd y c40⟩, md0 _ ⟨fm1, gm, _, MS, fun y => absurd y c33, fun _ => ⟨fm1, gm, _, ML, fun y => absurd (bI_f lt) y, fun _ => ⟨fm2, gm, by rw [MG1.2.2.1]; exact ME2, rfl⟩⟩⟩, H1.r, (MH1.tr MH2).r, Or.inr (Or.inl ⟨_, fl0, G1.2.2.2.1, MG2.2.2.2.1⟩)⟩
end
