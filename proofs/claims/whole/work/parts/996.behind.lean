/-! what stands behind an operand: the step -/
section
variable {σ σm : St} {fc fm : FI} {g gm : FL} {B M w0 n p e a d k m N : Nat} {T : Nat → Int} {s : Nat → Int} {o : Nat → Nat} {K L R : FN}
theorem RC.shut {F : Int} (h : RC fc B T n p F a (d + 1) (k + 1) m N s o K L R) : RC (up2 (up2 (up2 fc (B + 5) 6 (k : Int)) (B + 5) 8 (d : Int)) (B + 5) 5 ((p + 1 : Nat) : Int)) B T n (p + 1) F a d k m N s o K L R := by
  obtain ⟨⟨c1, c2, c3, c4, c5⟩, ⟨h1, h2, h3, h4⟩, h5, h6, h7, h8⟩ := h
  have q5 : ∀ j, j ≠ 5 → j ≠ 6 → j ≠ 8 → (up2 (up2 (up2 fc (B + 5) 6 (k : Int)) (B + 5) 8 (d : Int)) (B + 5) 5 ((p + 1 : Nat) : Int) : FI) (B + 5) j = fc (B + 5) j := fun j z1 z2 z3 => by rw [u2_i z1, u2_i z3, u2_i z2]
  have qo : ∀ c j, c ≠ B + 5 → (up2 (up2 (up2 fc (B + 5) 6 (k : Int)) (B + 5) 8 (d : Int)) (B + 5) 5 ((p + 1 : Nat) : Int) : FI) c j = fc c j := fun c j z => by rw [u2_a z, u2_a z, u2_a z]
  exact ⟨⟨by rw [q5 _ (by decide) (by decide) (by decide)]; exact c1, fun i hi => by rw [qo _ _ (by omega)]; exact c2 i hi, u2_s, by rw [q5 _ (by decide) (by decide) (by decide)]; exact c4, by rw [q5 _ (by decide) (by decide) (by decide)]; exact c5⟩, ⟨by rw [u2_i (by decide), u2_i (by decide), u2_s], by rw [q5 _ (by decide) (by decide) (by decide)]; exact h2, by rw [u2_i (by decide), u2_s], by rw [q5 _ (by decide) (by decide) (by decide)]; exact h4⟩, fun i hi => by rw [qo _ _ (by omega)]; exact h5 i (by omega), fun i hi => by rw [qo _ _ (by omega)]; exact h6 i hi, by rw [qo _ _ (by omega)]; exact h7, fun i hi => by rw [qo _ _ (by omega), qo _ _ (by omega), qo _ _ (by omega)]; exact h8 i hi⟩
theorem RM.shut {F : Int} (h : RM fm M w0 T n p F a (d + 1) (k + 1) m N s o K L R) : RM (up2 (up2 (up2 fm M 8 (k : Int)) M 7 (d : Int)) M 2 ((p + 1 : Nat) : Int)) M w0 T n (p + 1) F a d k m N s o K L R := by
  obtain ⟨⟨c1, c2, c3, c4, c5⟩, ⟨h1, h2, h3, h4, h5, h6⟩, h7, h8, h9⟩ := h
  have q5 : ∀ j, j ≠ 2 → j ≠ 7 → j ≠ 8 → (up2 (up2 (up2 fm M 8 (k : Int)) M 7 (d : Int)) M 2 ((p + 1 : Nat) : Int) : FI) M j = fm M j := fun j z1 z2 z3 => by rw [u2_i z1, u2_i z2, u2_i z3]
  have qo : ∀ c j, c ≠ M → (up2 (up2 (up2 fm M 8 (k : Int)) M 7 (d : Int)) M 2 ((p + 1 : Nat) : Int) : FI) c j = fm c j := fun c j z => by rw [u2_a z, u2_a z, u2_a z]
  exact ⟨⟨by rw [q5 _ (by decide) (by decide) (by decide)]; exact c1, fun i hi => by rw [qo _ _ (by omega)]; exact c2 i hi, u2_s, by rw [q5 _ (by decide) (by decide) (by decide)]; exact c4, by rw [q5 _ (by decide) (by decide) (by decide)]; exact c5⟩, ⟨by rw [q5 _ (by decide) (by decide) (by decide)]; exact h1, by rw [q5 _ (by decide) (by decide) (by decide)]; exact h2, by rw [u2_i (by decide), u2_s], by rw [u2_i (by decide), u2_i (by decide), u2_s], by rw [q5 _ (by decide) (by decide) (by decide)]; exact h5, by rw [q5 _ (by decide) (by decide) (by decide)]; exact h6⟩, fun i hi => by rw [qo _ _ (by omega)]; exact h7 i (by omega), fun i hi => by rw [qo _ _ (by omega)]; exact h8 i hi, fun i hi => by rw [qo _ _ (by omega), qo _ _ (by omega), qo _ _ (by omega)]; exact h9 i hi⟩
theorem RM.psign {F x : Int} (h : RM fm M w0 T n p F a d k m N s o K L R) : RM (up2 (up2 (up2 fm (M + 7) k (cdM x)) M 8 ((k + 1 : Nat) : Int)) M 2 ((p + 1 : Nat) : Int)) M w0 T n (p + 1) F a d (k + 1) m N (upS s k x) o K L R := by
  obtain ⟨⟨c1, c2, c3, c4, c5⟩, ⟨h1, h2, h3, h4, h5, h6⟩, h7, h8, h9⟩ := h
  have q5 : ∀ j, j ≠ 2 → j ≠ 8 → (up2 (up2 (up2 fm (M + 7) k (cdM x)) M 8 ((k + 1 : Nat) : Int)) M 2 ((p + 1 : Nat) : Int) : FI) M j = fm M j := fun j z1 z2 => by rw [u2_i z1, u2_i z2, u2_a (by omega)]
  have qo : ∀ c j, c ≠ M → c ≠ M + 7 → (up2 (up2 (up2 fm (M + 7) k (cdM x)) M 8 ((k + 1 : Nat) : Int)) M 2 ((p + 1 : Nat) : Int) : FI) c j = fm c j := fun c j z z2 => by rw [u2_a z, u2_a z, u2_a z2]
  refine ⟨⟨by rw [q5 _ (by decide) (by decide)]; exact c1, fun i hi => by rw [qo _ _ (by omega) (by omega)]; exact c2 i hi, u2_s, by rw [q5 _ (by decide) (by decide)]; exact c4, by rw [q5 _ (by decide) (by decide)]; exact c5⟩, ⟨by rw [q5 _ (by decide) (by decide)]; exact h1, by rw [q5 _ (by decide) (by decide)]; exact h2, by rw [q5 _ (by decide) (by decide)]; exact h3, by rw [u2_i (by decide), u2_s], by rw [q5 _ (by decide) (by decide)]; exact h5, by rw [q5 _ (by decide) (by decide)]; exact h6⟩, fun i hi => ?_, fun i hi => by rw [qo _ _ (by omega) (by omega)]; exact h8 i hi, fun i hi => by rw [qo _ _ (by omega) (by omega), qo _ _ (by omega) (by omega), qo _ _ (by omega) (by omega)]; exact h9 i hi⟩
  rw [u2_a (by omega), u2_a (by omega)]
  by_cases z : i = k
  · rw [z, u2_s, upS_at]
  · rw [u2_i z, upS_ne z]
    exact h7 i (by omega)
/-- the tree is read, on both sides -/
def Fin2 (fc fm : FI) (B M w0 : Nat) (n : Nat) : Prop := (fc (B + 5) 10 = 0 ∧ fc (B + 5) 11 = 1) ∧ (fm M 3 = 0 ∧ fm M 18 = 1 ∧ fm M 4 = (w0 : Int)) ∧ ∃ (N : Nat) (K L R : FN), (Wf K L R N ∧ Pf K L R N ∧ (ev K L R N).1 = 1) ∧ (1 ≤ N ∧ N ≤ n) ∧ lv K L R (N - 1) ≤ 40 ∧ (bT K L R (N - 1)).length ≤ n ∧ fc (B + 6) 3 = (N : Int) ∧ Hld fc (B + 6) N K L R ∧ fm M 5 = (N : Int) ∧ ∀ i, i < N → fm (M + 2) (300 * w0 + i) = swp (K i) ∧ fm (M + 3) (300 * w0 + i) = L i ∧ fm (M + 4) (300 * w0 + i) = R i
theorem behind_both {w : Nat → Nat} (hs : Sh4 σ B) (hm : Sh12 σm M) (hw : w0 < 12) (hn : n ≤ 200) (ha : a ≤ 40) (hd : d = nop s k) (hd8 : d ≤ 8) (hpe : Run (fun i => T i = 32) n p e) (hC : RC fc B T n e 0 a d k (m + 1) N s o K L R) (hM : RM fm M w0 T n p 0 a d k (m + 1) N s o K L R) (hP : PQ p a k m N s o K L R w 2) : ∃ (fc' fm' : FI) (vc vm : Int), Ex mt 3 57 (il σ fc g) [vR 4 (some (B + 5))] (il σ fc' g, [vI vc]) ∧ Ex mt 3 221 (il σm fm gm) [vR 12 (some M)] (il σm fm' gm, [vI vm]) ∧ FCr B fc fc' ∧ FMr M w0 fm fm' ∧ ((∃ F' : Int, (1 ≤ F' ∧ F' ≤ 1700) ∧ fc' (B + 5) 10 = F' ∧ fm' M 3 = F') ∨ ((vc = 0 ∧ vm = 0) ∧ ∃ (d' k' m' N' : Nat) (s' : Nat → Int) (o' : Nat → Nat) (K' L' R' : FN) (w' : Nat → Nat), (e < n ∧ d' = nop s' k' ∧ d' ≤ 8) ∧ SB fc' fm' B M w0 T n (e + 1) a d' k' m' N' s' o' K' L' R' w' 2) ∨ ((vc = 1 ∧ vm = 1) ∧ ∃ (k' m' N' : Nat) (s' : Nat → Int) (o' : Nat → Nat) (K' L' R' : FN) (w' : Nat → Nat), (e < n ∧ d = nop s' k') ∧ RC fc' B T n (e + 1) 0 a d k' m' N' s' o' K' L' R' ∧ RM fm' M w0 T n (e + 1) 0 a d k' m' N' s' o' K' L' R' ∧ PA (e + 1) a k' m' N' s' o' K' L' R' w') ∨ Fin2 fc' fm' B M w0 n) := by
  have he := hpe.2.1
  have hpe1 := hpe.1
  obtain ⟨fm1, ME1, MG1, MH1⟩ := m_blanks (g := gm) hm hn hM.1 hpe
  have RM1 := hM.fm MH1 MG1
  have S := l_sign (g := g) hs hn hC.1
  have MS := m_sign (g := gm) hm hn MG1
  have hP1 : PQ e a k m N s o K L R w 2 := ⟨hP.1.p hpe1, hP.2⟩
  have hd' : nop s k ≤ 8 := by omega
  have bd := hP1.bds hd' (by omega)
  have enl : ∀ c : Int, sg T n e = c → ¬ c = -1 → e < n := fun c h1 h2 => by
    by_cases y : n ≤ e
    · unfold sg at h1
      rw [if_pos y] at h1
      exact absurd h1.symm h2
    · omega
  have e1 : (e : Int) + 1 = ((e + 1 : Nat) : Int) := by omega
  by_cases c42 : sg T n e = 42
  · -- a star
    have en := enl 42 c42 (by decide)
    have nle := hP1.1.2.2.2.1
    have Cp : RC (up2 fc (B + 5) 5 ((e + 1 : Nat) : Int)) B T n (e + 1) 0 a d k (m + 1) N s o K L R := hC.fc (FC.rfl'.up (by omega)) hC.1.p
    have nN : N < 200 := by
      have := hP1.1.2.2.2.2.1
      omega
    obtain ⟨fc2, E2, G2, H2⟩ := l_star (g := g) hs (by omega) nN Cp
    have Mp : RM (up2 (up2 fm1 M 2 ((e + 1 : Nat) : Int)) M 17 (m : Int)) M w0 T n (e + 1) 0 a d k m N s o K L R := (RM1.fm (FM.rfl'.up (by omega)) MG1.p).cut (by omega)
    obtain ⟨fm2, E3, G3, H3⟩ := m_node (g := gm) (x := 5) (l := (o m : Int)) (r := 0) hm hw (by omega) (by omega) Mp
    rw [swp_4 (by decide)] at E3
    refine ⟨fc2, fm2, 0, 0, bk_X4_readBehind_0 hs ⟨fc, g, _, S, fun y => absurd c42 y, fun _ => ?_⟩, bk_X12_behind_0 hm ⟨fm1, gm, ME1, fm1, gm, _, MS, fun y => absurd c42 y, fun _ => ?_⟩, (FCr.rfl'.up (by omega)).tr H2, ((MH1.r.up (by omega)).up (by omega)).tr H3, Or.inr (Or.inl ⟨⟨rfl, rfl⟩, d, k, m, N + 1, s, _, _, _, _, _, ⟨en, hd, hd8⟩, G2, G3, hP1.star⟩)⟩
    · rw [hC.1.2.2.1, e1]
      exact ⟨by omega, fc2, g, E2, rfl⟩
    · rw [MG1.2.2.1, RM1.2.1.2.2.2.2.1, e1, show ((m + 1 : Nat) : Int) - 1 = (m : Int) by omega, show ((m : Int)).toNat = m from rfl, RM1.2.2.2.1 m (by omega)]
      exact ⟨by omega, fun y => absurd MG1.2.2.2.1 y, fun _ => ⟨⟨by omega, by omega⟩, fm2, gm, E3, rfl⟩⟩
  · have SB0 : SB fc fm1 B M w0 T n e a d k m N s o K L R w 2 := ⟨hC, RM1, hP1⟩
    by_cases c59 : sg T n e = 59
    · -- one behind the other
      have en := enl 59 c59 (by decide)
      obtain ⟨fc2, fm2, k', m', N', o', K', L', R', w', tl, ⟨C2, M2, P2⟩, htl, hno, htop, F2, G2, KC, EM⟩ := join_then (g := g) (gm := gm) (x := 59) hs hm hw (by omega) hd' SB0
      have bd2 := P2.bds (by omega) (by omega)
      have ok := P2.1.1
      have jw := KC _ (l_jw0 hs (by omega) C2 (by
        by_cases y : k' = 0
        · exact Or.inl y
        · have := (ok (k' - 1) (by omega)).1
          omega))
      obtain ⟨fc3, E3, C3, F3⟩ := l_psign (g := g) (x := 59) hs (by omega) C2
      have C4 := C3.fc (FC.rfl'.up (v := ((e + 1 : Nat) : Int)) (Or.inl rfl)) C3.1.p
      have M3 := M2.psign (x := 59)
      have P3 := P2.sign (x := 59) (Or.inr ⟨rfl, htl⟩) (fun j hj => by
        refine ⟨fun y => ?_, fun _ => Or.inr rfl⟩
        rcases htop with z | z
        · omega
        · rw [show k' - 1 = j by omega] at z
          exact absurd y z)
      refine ⟨_, _, 1, 1, bk_X4_readBehind_0 hs ⟨fc, g, _, S, fun _ => ⟨fun y => absurd y (by omega), fun _ => ⟨fun y => absurd c59 y, fun _ => ⟨fc2, g, ?_, fc3, g, by rw [c59]; exact E3, by rw [C3.1.2.2.1]; omega, rfl⟩⟩⟩, fun y => absurd y c42⟩, bk_X12_behind_0 hm ⟨fm1, gm, ME1, fm1, gm, _, MS, fun _ => ⟨fun _ => ⟨fm2, gm, EM, fun _ => bk_X12_behind_89 hm ⟨fun y => absurd c59 y, fun _ => bk_X12_behind_110 hm ?_⟩, fun y => absurd y (by omega)⟩, fun y => absurd c59 y⟩, fun y => absurd y c42⟩, ?_, ?_, Or.inr (Or.inr (Or.inl ⟨⟨rfl, rfl⟩, k' + 1, m' + 1, N', upS s k' 59, o', K', L', R', w', ⟨en, ?_⟩, ?_, M3, P3⟩))⟩
      · rw [c59]
        refine bk_X4_joinWaiting_0 hs ?_
        rw [hC.2.1.1]
        exact jw
      · rw [u2_a (by omega), u2_a (by omega), M2.2.1.2.2.2.1, M2.1.2.2.1, show ((k' : Int)).toNat = k' from rfl, hm.l15, e1, show (k' : Int) + 1 = ((k' + 1 : Nat) : Int) by omega]
        exact ⟨⟨by omega, by omega, by omega⟩, rfl⟩
      · exact (F2.tr F3).up (by omega)
      · exact ((((MH1.r.tr G2).up (by omega)).up (by omega)).up (by omega))
      · have := nsg_n (s := upS s k' 59) (k := k') (by rw [upS_at]; decide)
        have := nsg_up (s := s) (k := k') (x := 59)
        omega
      · rw [C3.1.2.2.1, e1]
        exact C4
    · -- all that may be joined
      obtain ⟨fc2, fm2, k2, m2, N2, o2, K2, L2, R2, w2, tl, SB2, htl, hno, htop, F2, G2, KC, EM⟩ := join_then (g := g) (gm := gm) (x := sg T n e) hs hm hw (by omega) hd' SB0
      obtain ⟨fc3, fm3, k', m', N', o', K', L', R', w', tl', ⟨C3, M3, P3⟩, hno3, htop3, F3, G3, KC3, EM3⟩ := join_either (g := g) (gm := gm) (x := sg T n e) hs hm hw (by omega) (by omega) htl c59 htop SB2
      have bd2 := P3.bds (by omega) (by omega)
      have jw := KC _ (KC3 _ (l_jw0 hs (by omega) C3 (htop3.elim Or.inl fun y => Or.inr (Or.inl y))))
      have JW : Ex mt 2 58 (il σ fc g) [vR 4 (some (B + 5)), vI (sg T n e)] (il σ fc3 g, []) := bk_X4_joinWaiting_0 hs (by rw [hC.2.1.1]; exact jw)
      have hnd : nop s k' = d := by omega
      by_cases c43 : sg T n e = 43
      · have en := enl 43 c43 (by decide)
        obtain ⟨fc4, E4, C4, F4⟩ := l_psign (g := g) (x := 43) hs (by omega) C3
        have C5 := C4.fc (FC.rfl'.up (v := ((e + 1 : Nat) : Int)) (Or.inl rfl)) C4.1.p
        have M4 := M3.psign (x := 43)
        have P4 := P3.sign (x := 43) (Or.inl rfl) (fun j hj => by
          have : s j = 40 := by
            rcases htop3 with z | z
            · omega
            · rw [show k' - 1 = j by omega] at z
              exact z
          exact ⟨fun y => absurd y (by omega), fun y => absurd y (by omega)⟩)
        refine ⟨_, _, 1, 1, bk_X4_readBehind_0 hs ⟨fc, g, _, S, fun _ => ⟨fun _ => ⟨fc3, g, JW, fc4, g, by rw [c43]; exact E4, by rw [C4.1.2.2.1]; omega, rfl⟩, fun y => absurd c43 y⟩, fun y => absurd y c42⟩, bk_X12_behind_0 hm ⟨fm1, gm, ME1, fm1, gm, _, MS, fun _ => ⟨fun y => absurd y c59, fun _ => ⟨fun y => absurd c43 y, fun _ => ⟨fm2, gm, EM, fun y => absurd c43 y, fun _ => ⟨fm3, gm, EM3, bk_X12_behind_89 hm ⟨fun _ => bk_X12_behind_110 hm ?_, fun y => absurd y c59⟩⟩⟩⟩⟩, fun y => absurd y c42⟩, ?_, ?_, Or.inr (Or.inr (Or.inl ⟨⟨rfl, rfl⟩, k' + 1, m' + 1, N', upS s k' 43, o', K', L', R', w', ⟨en, ?_⟩, ?_, M4, P4⟩))⟩
        · rw [u2_a (by omega), u2_a (by omega), M3.2.1.2.2.2.1, M3.1.2.2.1, show ((k' : Int)).toNat = k' from rfl, hm.l15, e1, show (k' : Int) + 1 = ((k' + 1 : Nat) : Int) by omega]
          exact ⟨⟨by omega, by omega, by omega⟩, rfl⟩
        · exact ((F2.tr F3).tr F4).up (by omega)
        · exact (((((MH1.r.tr G2).tr G3).up (by omega)).up (by omega)).up (by omega))
        · have := nsg_n (s := upS s k' 43) (k := k') (by rw [upS_at]; decide)
          have := nsg_up (s := s) (k := k') (x := 43)
          omega
        · rw [C4.1.2.2.1, e1]
          exact C5
      · -- a bracket ends, or all does
        have top3 := m_top (g := gm) hm (by omega) M3
        have md : ∀ r, ((¬ (if k' = 0 then (-1 : Int) else cdM (s (k' - 1))) = 8 → ((sg T n e = (-1) → (r = ((il σm (up2 fm3 M 18 1) gm), [vI 0]))) ∧ (¬ sg T n e = (-1) → (∃ (f44 : FI) (g45 : FL), Ex mt 0 207 (il σm fm3 gm) [vR 12 (some M), vI 0, vI (fm3 M 2)] ((il σm f44 g45), []) ∧ (r = ((il σm (up2 f44 M 18 1) g45), [vI 0])))))) ∧ ((if k' = 0 then (-1 : Int) else cdM (s (k' - 1))) = 8 → ((sg T n e = 41 → ((-2147483648 ≤ ((fm3 M 8) - 1) ∧ ((fm3 M 8) - 1) ≤ 2147483647) ∧ (-2147483648 ≤ ((fm3 M 7) - 1) ∧ ((fm3 M 7) - 1) ≤ 2147483647) ∧ (-2147483648 ≤ ((fm3 M 2) + 1) ∧ ((fm3 M 2) + 1) ≤ 2147483647)) ∧ (r = ((il σm (up2 (up2 (up2 fm3 M 8 ((fm3 M 8) - 1)) M 7 ((fm3 M 7) - 1)) M 2 ((fm3 M 2) + 1)) gm), [vI 0]))) ∧ (¬ sg T n e = 41 → (∃ (f51 : FI) (g52 : FL), Ex mt 0 207 (il σm fm3 gm) [vR 12 (some M), vI 0, vI (fm3 M 2)] ((il σm f51 g52), []) ∧ ((-2147483648 ≤ ((f51 M 8) - 1) ∧ ((f51 M 8) - 1) ≤ 2147483647) ∧ (-2147483648 ≤ ((f51 M 7) - 1) ∧ ((f51 M 7) - 1) ≤ 2147483647) ∧ (-2147483648 ≤ ((f51 M 2) + 1) ∧ ((f51 M 2) + 1) ≤ 2147483647)) ∧ (r = ((il σm (up2 (up2 (up2 f51 M 8 ((f51 M 8) - 1)) M 7 ((f51 M 7) - 1)) M 2 ((f51 M 2) + 1)) g52), [vI 0]))))))) → Ex mt 3 221 (il σm fm gm) [vR 12 (some M)] r := fun r A => bk_X12_behind_0 hm ⟨fm1, gm, ME1, fm1, gm, _, MS, fun _ => ⟨fun y => absurd y c59, fun _ => ⟨fun _ => ⟨fm2, gm, EM, fm3, gm, EM3, fm3, gm, _, top3, A⟩, fun y => absurd y c43⟩⟩, fun y => absurd y c42⟩
        have Gm3 : FMr M w0 fm fm3 := (MH1.r.tr G2).tr G3
        have Fc3 : FCr B fc fc3 := F2.tr F3
        obtain ⟨fc4, E4, G4, H4⟩ := l_fail (g := g) (k := 0) (q := e) hs (by omega) (by omega) hC.1
        obtain ⟨fm4, E5, G5, H5⟩ := m_fails (g := gm) (k := 0) (q := e) hm (by omega) (by omega) M3.1
        have fl0 := flt_rg (F := 0) (k := 0) (p := e) (by omega) (by omega) (by omega)
        have M4 := M3.fm H5 G5
        rw [← hC.1.2.2.1] at E4
        by_cases d0 : d = 0
        · -- no bracket waits
          have k0 : k' = 0 := by
            rcases htop3 with y | y
            · exact y
            · by_cases y2 : k' = 0
              · exact y2
              · have := nsg_y (s := s) (k := k' - 1) y
                rw [show k' - 1 + 1 = k' by omega] at this
                omega
          rw [if_pos k0] at md
          by_cases cE : sg T n e = -1
          · -- the end
            have tr := P3.2.2.1
            have m0 : m' = 0 := by
              have := P3.2.1
              rw [k0] at this
              exact this
            have b1 := P3.1.2.2.2.2.2.1 0 (by omega)
            have b2 := smw_le (w := w') (j := 0) (m := m' + 1) (by omega)
            have b3 := P3.1.2.2.2.2.1
            have b4 := smw_le (w := fun i => lv K' L' R' (o' i)) (j := 0) (m := m' + 1) (by omega)
            have b5 := P3.1.2.2.2.2.2.2.2
            have oN : o' 0 = N' - 1 := by
              rw [m0] at tr
              omega
            have b4' : lv K' L' R' (o' 0) ≤ smw (fun i => lv K' L' R' (o' i)) (m' + 1) := b4
            rw [oN] at b1 b4'
            have hv := P3.1.2.1
            rw [m0] at hv
            refine ⟨up2 fc3 (B + 5) 11 1, up2 fm3 M 18 1, 0, 0, bk_X4_readBehind_0 hs ⟨fc, g, _, S, fun _ => ⟨fun y => absurd y c43, fun _ => ⟨fun _ => ⟨fun _ => ⟨fun y => absurd cE y, fun _ => ⟨fun _ => ⟨fc3, g, JW, rfl⟩, fun y => absurd (by rw [hC.2.1.2.2.1]; omega) y⟩⟩, fun y => absurd y (by omega)⟩, fun y => absurd y c59⟩⟩, fun y => absurd y c42⟩, md _ ⟨fun _ => ⟨fun _ => rfl, fun y => absurd cE y⟩, fun y => absurd y (by decide)⟩, Fc3.up (by omega), Gm3.up (by omega), Or.inr (Or.inr (Or.inr ⟨⟨by rw [u2_i (by decide)]; exact C3.1.2.2.2.1, u2_s⟩, ⟨by rw [u2_i (by decide)]; exact M3.1.2.2.2.1, u2_s, by rw [u2_i (by decide)]; exact M3.2.1.1⟩, N', K', L', R', hv, ⟨by omega, ?_⟩, by omega, by omega, by rw [u2_a (by omega)]; exact C3.2.2.2.2.1, fun i hi => by rw [u2_a (by omega), u2_a (by omega), u2_a (by omega)]; exact C3.2.2.2.2.2 i hi, by rw [u2_i (by decide)]; exact M3.2.1.2.1, fun i hi => by rw [u2_a (by omega), u2_a (by omega), u2_a (by omega)]; exact M3.2.2.2.2 i hi⟩))⟩
            have := P3.1.2.2.2.1
            omega
          · refine ⟨fc4, up2 fm4 M 18 1, 0, 0, bk_X4_readBehind_0 hs ⟨fc, g, _, S, fun _ => ⟨fun y => absurd y c43, fun _ => ⟨fun _ => ⟨fun _ => ⟨fun _ => ⟨fc4, g, E4, rfl⟩, fun y => absurd y cE⟩, fun y => ⟨fun _ => ⟨fun _ => ⟨fc4, g, E4, rfl⟩, fun y2 => absurd y2 cE⟩, fun y2 => absurd (by rw [hC.2.1.2.2.1]; omega) y2⟩⟩, fun y => absurd y c59⟩⟩, fun y => absurd y c42⟩, md _ ⟨fun _ => ⟨fun y => absurd y cE, fun _ => ⟨fm4, gm, by rw [M3.1.2.2.1]; exact E5, rfl⟩⟩, fun y => absurd y (by decide)⟩, H4.r, (Gm3.tr H5.r).up (by omega), Or.inl ⟨_, fl0, G4.2.2.2.1, ?_⟩⟩
            rw [u2_i (by decide)]
            exact G5.2.2.2.1
        · -- a bracket waits
          obtain ⟨k1, rfl⟩ : ∃ k1, k' = k1 + 1 := ⟨k' - 1, by
            by_cases y : k' = 0
            · rw [y] at hnd
              exact absurd hnd.symm d0
            · omega⟩
          have s40 : s k1 = 40 := by
            rcases htop3 with y | y
            · omega
            · rwa [show k1 + 1 - 1 = k1 by omega] at y
          have t8 : (if k1 + 1 = 0 then (-1 : Int) else cdM (s (k1 + 1 - 1))) = 8 := by
            rw [if_neg (by omega), show k1 + 1 - 1 = k1 by omega, s40]
            rfl
          rw [t8] at md
          have ny := nsg_y s40
          obtain ⟨d1, rfl⟩ : ∃ d1, d = d1 + 1 := ⟨d - 1, by omega⟩
          by_cases c41 : sg T n e = 41
          · have en := enl 41 c41 (by decide)
            have i8 : iMax (fc3 (B + 5) 6 - 1) 0 = (k1 : Int) := by
              rw [C3.2.1.1]
              unfold iMax
              split <;> omega
            refine ⟨_, _, 0, 0, bk_X4_readBehind_0 hs ⟨fc, g, _, S, fun _ => ⟨fun y => absurd y c43, fun _ => ⟨fun _ => ⟨fun y => absurd c41 y, fun _ => ⟨fun y => absurd y (by rw [hC.2.1.2.2.1]; omega), fun _ => ⟨fc3, g, JW, ?_, rfl⟩⟩⟩, fun y => absurd y c59⟩⟩, fun y => absurd y c42⟩, md _ ⟨fun y => absurd rfl y, fun _ => ⟨fun _ => ⟨?_, rfl⟩, fun y => absurd c41 y⟩⟩, ((Fc3.up (by omega)).up (by omega)).up (by omega), ((Gm3.up (by omega)).up (by omega)).up (by omega), Or.inr (Or.inl ⟨⟨rfl, rfl⟩, d1, k1, m', N', s, o', K', L', R', _, ⟨en, by omega, by omega⟩, ?_, ?_, P3.close s40⟩)⟩
            · rw [C3.2.1.1, C3.2.1.2.2.1, C3.1.2.2.1]
              exact ⟨by omega, by omega, by omega⟩
            · rw [M3.2.1.2.2.2.1, M3.2.1.2.2.1, M3.1.2.2.1]
              exact ⟨by omega, by omega, by omega⟩
            · rw [i8, C3.2.1.2.2.1, C3.1.2.2.1, e1, show ((d1 + 1 : Nat) : Int) - 1 = (d1 : Int) by omega]
              exact C3.shut
            · rw [M3.2.1.2.2.2.1, M3.2.1.2.2.1, M3.1.2.2.1, e1, show ((d1 + 1 : Nat) : Int) - 1 = (d1 : Int) by omega, show ((k1 + 1 : Nat) : Int) - 1 = (k1 : Int) by omega]
              exact M3.shut
          · have a7 := M4.2.1.2.2.1
            have a8 := M4.2.1.2.2.2.1
            have a2 := G5.2.2.1
            refine ⟨fc4, _, 0, 0, bk_X4_readBehind_0 hs ⟨fc, g, _, S, fun _ => ⟨fun y => absurd y c43, fun _ => ⟨fun _ => ⟨fun _ => ⟨fun _ => ⟨fc4, g, E4, rfl⟩, fun _ => ⟨fun y => absurd y (by rw [hC.2.1.2.2.1]; omega), fun _ => ⟨fc4, g, E4, rfl⟩⟩⟩, fun y => absurd y c41⟩, fun y => absurd y c59⟩⟩, fun y => absurd y c42⟩, md _ ⟨fun y => absurd rfl y, fun _ => ⟨fun y => absurd y c41, fun _ => ⟨fm4, gm, by rw [M3.1.2.2.1]; exact E5, ?_, rfl⟩⟩⟩, H4.r, (((Gm3.tr H5.r).up (by omega)).up (by omega)).up (by omega), Or.inl ⟨_, fl0, G4.2.2.2.1, ?_⟩⟩
            · rw [a7, a8, a2]
              exact ⟨by omega, by omega, by omega⟩
            · rw [u2_i (by decide), u2_i (by decide), u2_i (by decide)]
              exact G5.2.2.2.1
end
