/-! the class is made -/
theorem bk_X11_init_0 {σ : St} {f : FI} {g : FL} {a : Nat} {r : St × List Vl}  (h : (∀ (q9 : Nat) (σ6 : St) (f7 : FI) (g8 : FL), q9 = nx σ → σ6 = (mk σ 14 200 200) → f7 = up1 f q9 (fun _ => 0) → g8 = up1 g q9 (fun _ => 0) → (∀ (σ12 : St), σ12 = (wR σ6 a 0 (some q9)) → (∀ (q21 : Nat) (σ18 : St) (f19 : FI) (g20 : FL), q21 = nx σ12 → σ18 = (mk σ12 18 12 12) → f19 = up1 f7 q21 (fun _ => 0) → g20 = up1 g8 q21 (fun _ => 0) → (∀ (σ24 : St), σ24 = (wR σ18 a 2 (some q21)) → (∀ (q33 : Nat) (σ30 : St) (f31 : FI) (g32 : FL), q33 = nx σ24 → σ30 = (mk σ24 14 16 16) → f31 = up1 f19 q33 (fun _ => 0) → g32 = up1 g20 q33 (fun _ => 0) → (∀ (σ36 : St), σ36 = (wR σ30 a 4 (some q33)) → (∀ (q45 : Nat) (σ42 : St) (f43 : FI) (g44 : FL), q45 = nx σ36 → σ42 = (mk σ36 14 4 4) → f43 = up1 f31 q45 (fun _ => 0) → g44 = up1 g32 q45 (fun _ => 0) → (∀ (σ48 : St), σ48 = (wR σ42 a 5 (some q45)) → (∀ (q57 : Nat) (σ54 : St) (f55 : FI) (g56 : FL), q57 = nx σ48 → σ54 = (mk σ48 4 0 12) → f55 = up1 f43 q57 (fun _ => 0) → g56 = up1 g44 q57 (fun _ => 0) → (∃ (σ61 : St) (f58 : FI) (g59 : FL), Ex mt 1 49 (il σ54 f55 g56) [vR 4 (some q57)] ((il σ61 f58 g59), []) ∧ (∀ (σ64 : St), σ64 = (wR σ61 a 6 (some q57)) → (∀ (q73 : Nat) (σ70 : St) (f71 : FI) (g72 : FL), q73 = nx σ64 → σ70 = (mk σ64 2 0 3) → f71 = up1 f58 q73 (fun _ => 0) → g72 = up1 g59 q73 (fun _ => 0) → (∃ (σ77 : St) (f74 : FI) (g75 : FL), Ex mt 0 17 (il σ70 f71 g72) [vR 2 (some q73)] ((il σ77 f74 g75), []) ∧ (∀ (σ80 : St), σ80 = (wR σ77 a 7 (some q73)) → (∀ (q89 : Nat) (σ86 : St) (f87 : FI) (g88 : FL), q89 = nx σ80 → σ86 = (mk σ80 8 0 4) → f87 = up1 f74 q89 (fun _ => 0) → g88 = up1 g75 q89 (fun _ => 0) → (∃ (σ93 : St) (f90 : FI) (g91 : FL), Ex mt 1 113 (il σ86 f87 g88) [vR 8 (some q89)] ((il σ93 f90 g91), []) ∧ (∀ (σ96 : St), σ96 = (wR σ93 a 8 (some q89)) → (∀ (q105 : Nat) (σ102 : St) (f103 : FI) (g104 : FL), q105 = nx σ96 → σ102 = (mk σ96 3 0 7) → f103 = up1 f90 q105 (fun _ => 0) → g104 = up1 g91 q105 (fun _ => 0) → (∃ (σ109 : St) (f106 : FI) (g107 : FL), Ex mt 2 31 (il σ102 f103 g104) [vR 3 (some q105)] ((il σ109 f106 g107), []) ∧ (∀ (σ112 : St), σ112 = (wR σ109 a 9 (some q105)) → (∀ (q121 : Nat) (σ118 : St) (f119 : FI) (g120 : FL), q121 = nx σ112 → σ118 = (mk σ112 5 0 11) → f119 = up1 f106 q121 (fun _ => 0) → g120 = up1 g107 q121 (fun _ => 0) → (∃ q122, gR σ118 a 9 = some q122 ∧ (∃ (σ127 : St) (f124 : FI) (g125 : FL), Ex mt 1 72 (il σ118 f119 g120) [vR 5 (some q121), vR 3 (some q122)] ((il σ127 f124 g125), []) ∧ (∀ (σ130 : St), σ130 = (wR σ127 a 10 (some q121)) → (∀ (q139 : Nat) (σ136 : St) (f137 : FI) (g138 : FL), q139 = nx σ130 → σ136 = (mk σ130 6 0 7) → f137 = up1 f124 q139 (fun _ => 0) → g138 = up1 g125 q139 (fun _ => 0) → (∃ q140, gR σ136 a 9 = some q140 ∧ (∃ (σ145 : St) (f142 : FI) (g143 : FL), Ex mt 0 86 (il σ136 f137 g138) [vR 6 (some q139), vR 3 (some q140)] ((il σ145 f142 g143), []) ∧ (∀ (σ148 : St), σ148 = (wR σ145 a 11 (some q139)) → (∀ (q157 : Nat) (σ154 : St) (f155 : FI) (g156 : FL), q157 = nx σ148 → σ154 = (mk σ148 1 0 5) → f155 = up1 f142 q157 (fun _ => 0) → g156 = up1 g143 q157 (fun _ => 0) → (∃ (σ161 : St) (f158 : FI) (g159 : FL), Ex mt 0 7 (il σ154 f155 g156) [vR 1 (some q157)] ((il σ161 f158 g159), []) ∧ (∀ (σ164 : St), σ164 = (wR σ161 a 12 (some q157)) → (∀ (q173 : Nat) (σ170 : St) (f171 : FI) (g172 : FL), q173 = nx σ164 → σ170 = (mk σ164 0 0 4) → f171 = up1 f158 q173 (fun _ => 0) → g172 = up1 g159 q173 (fun _ => 0) → (∃ (σ177 : St) (f174 : FI) (g175 : FL), Ex mt 0 0 (il σ170 f171 g172) [vR 0 (some q173)] ((il σ177 f174 g175), []) ∧ (∀ (σ180 : St), σ180 = (wR σ177 a 13 (some q173)) → (∃ q181, gR σ180 a 4 = some q181 ∧ (∃ (f183 : FI) (g184 : FL), Ex mt 0 315 (il σ180 f174 g175) [vR 14 (some q181), vI 255] ((il σ180 f183 g184), []) ∧ (r = ((il σ180 f183 g184), []))))))))))))))))))))))))))))))))))))))) : Ex mt 3 140 (il σ f g) [vR 11 (some a)] r := Ex.mk mt_140 (show Gx mt 3 cd_X11_init (il σ f g) b_X11_init_0 [some (vR 11 (some a))] [] r from (go_loadA rfl (go_oinit rfl (go_loadA rfl (go_pushI rfl (gi_newa ⟨by decide, by decide⟩ (Gx.letM (fun q9 σ6 f7 g8 e2 e3 e4 e5 => have h1 := h q9 σ6 f7 g8 e2 e3 e4 e5; (gi_putR (Gx.letS (fun σ12 e11 => have h10 := h1 σ12 e11; (go_loadA rfl (go_pushI rfl (gi_anew ⟨by decide, by decide⟩ (Gx.letM (fun q21 σ18 f19 g20 e14 e15 e16 e17 => have h13 := h10 q21 σ18 f19 g20 e14 e15 e16 e17; (gi_putR (Gx.letS (fun σ24 e23 => have h22 := h13 σ24 e23; (go_loadA rfl (go_pushI rfl (gi_newa ⟨by decide, by decide⟩ (Gx.letM (fun q33 σ30 f31 g32 e26 e27 e28 e29 => have h25 := h22 q33 σ30 f31 g32 e26 e27 e28 e29; (gi_putR (Gx.letS (fun σ36 e35 => have h34 := h25 σ36 e35; (go_loadA rfl (go_pushI rfl (gi_newa ⟨by decide, by decide⟩ (Gx.letM (fun q45 σ42 f43 g44 e38 e39 e40 e41 => have h37 := h34 q45 σ42 f43 g44 e38 e39 e40 e41; (gi_putR (Gx.letS (fun σ48 e47 => have h46 := h37 σ48 e47; (go_loadA rfl (gi_new (Gx.letM (fun q57 σ54 f55 g56 e50 e51 e52 e53 => have h49 := h46 q57 σ54 f55 g56 e50 e51 e52 e53; (go_dupA (Exists.elim h49 fun σ61 w201 => Exists.elim w201 fun f58 w202 => Exists.elim w202 fun g59 h60 => (go_callV rfl rfl rfl h60.1 (gi_putR (Gx.letS (fun σ64 e63 => have h62 := h60.2 σ64 e63; (go_loadA rfl (gi_new (Gx.letM (fun q73 σ70 f71 g72 e66 e67 e68 e69 => have h65 := h62 q73 σ70 f71 g72 e66 e67 e68 e69; (go_dupA (Exists.elim h65 fun σ77 w199 => Exists.elim w199 fun f74 w200 => Exists.elim w200 fun g75 h76 => (go_callV rfl rfl rfl h76.1 (gi_putR (Gx.letS (fun σ80 e79 => have h78 := h76.2 σ80 e79; (go_loadA rfl (gi_new (Gx.letM (fun q89 σ86 f87 g88 e82 e83 e84 e85 => have h81 := h78 q89 σ86 f87 g88 e82 e83 e84 e85; (go_dupA (Exists.elim h81 fun σ93 w197 => Exists.elim w197 fun f90 w198 => Exists.elim w198 fun g91 h92 => (go_callV rfl rfl rfl h92.1 (gi_putR (Gx.letS (fun σ96 e95 => have h94 := h92.2 σ96 e95; (go_loadA rfl (gi_new (Gx.letM (fun q105 σ102 f103 g104 e98 e99 e100 e101 => have h97 := h94 q105 σ102 f103 g104 e98 e99 e100 e101; (go_dupA (Exists.elim h97 fun σ109 w195 => Exists.elim w195 fun f106 w196 => Exists.elim w196 fun g107 h108 => (go_callV rfl rfl rfl h108.1 (gi_putR (Gx.letS (fun σ112 e111 => have h110 := h108.2 σ112 e111; (go_loadA rfl (gi_new (Gx.letM (fun q121 σ118 f119 g120 e114 e115 e116 e117 => have h113 := h110 q121 σ118 f119 g120 e114 e115 e116 e117; (go_dupA (go_loadA rfl (Exists.elim h113 fun q122 h123 => (gi_getR h123.1 (Exists.elim h123.2 fun σ127 w193 => Exists.elim w193 fun f124 w194 => Exists.elim w194 fun g125 h126 => (go_callV rfl rfl rfl h126.1 (gi_putR (Gx.letS (fun σ130 e129 => have h128 := h126.2 σ130 e129; (go_loadA rfl (gi_new (Gx.letM (fun q139 σ136 f137 g138 e132 e133 e134 e135 => have h131 := h128 q139 σ136 f137 g138 e132 e133 e134 e135; (go_dupA (go_loadA rfl (Exists.elim h131 fun q140 h141 => (gi_getR h141.1 (Exists.elim h141.2 fun σ145 w191 => Exists.elim w191 fun f142 w192 => Exists.elim w192 fun g143 h144 => (go_callV rfl rfl rfl h144.1 (gi_putR (Gx.letS (fun σ148 e147 => have h146 := h144.2 σ148 e147; (go_loadA rfl (gi_new (Gx.letM (fun q157 σ154 f155 g156 e150 e151 e152 e153 => have h149 := h146 q157 σ154 f155 g156 e150 e151 e152 e153; (go_dupA (Exists.elim h149 fun σ161 w189 => Exists.elim w189 fun f158 w190 => Exists.elim w190 fun g159 h160 => (go_callV rfl rfl rfl h160.1 (gi_putR (Gx.letS (fun σ164 e163 => have h162 := h160.2 σ164 e163; (go_loadA rfl (gi_new (Gx.letM (fun q173 σ170 f171 g172 e166 e167 e168 e169 => have h165 := h162 q173 σ170 f171 g172 e166 e167 e168 e169; (go_dupA (Exists.elim h165 fun σ177 w187 => Exists.elim w187 fun f174 w188 => Exists.elim w188 fun g175 h176 => (go_callV rfl rfl rfl h176.1 (gi_putR (Gx.letS (fun σ180 e179 => have h178 := h176.2 σ180 e179; (go_loadA rfl (Exists.elim h178 fun q181 h182 => (gi_getR h182.1 (go_pushI rfl (Exists.elim h182.2 fun f183 w186 => Exists.elim w186 fun g184 h185 => (go_callS rfl rfl rfl h185.1 (h185.2 ▸ gq_retV))))))))))))))))))))))))))))))))))))))))))))))))))))))))))))))))))))))))))))))))))))))))))))))))))))))))))))))))))))))))))))))))
def Tk (B d k0 : Nat) (σ σ' : St) (f f' : FI) (g g' : FL) : Prop := ∀ c, c < d → (ln σ' c = ln σ c ∧ tg σ' c = tg σ c ∧ ∀ k, (c ≠ B ∨ k < k0) → gR σ' c k = gR σ c k) ∧ f' c = f c ∧ g' c = g c
theorem Tk.trans {B d d' k k' : Nat} {σ σ1 σ2 : St} {f f1 f2 : FI} {g g1 g2 : FL} (h : Tk B d k σ σ1 f f1 g g1) (h2 : Tk B d' k' σ1 σ2 f1 f2 g1 g2) (hd : d ≤ d') (hk : k ≤ k') : Tk B d k σ σ2 f f2 g g2 := fun c hc => by
  obtain ⟨⟨a1, a2, a3⟩, a4, a5⟩ := h c hc
  obtain ⟨⟨b1, b2, b3⟩, b4, b5⟩ := h2 c (by omega)
  exact ⟨⟨b1.trans a1, b2.trans a2, fun j hj => (b3 j (by omega)).trans (a3 j hj)⟩, b4.trans a4, b5.trans a5⟩
theorem sub_tk {σ σ1 σ2 : St} {f f1 : FI} {g g1 : FL} {q t s a k0 : Nat} (hq : nx σ = q) (K : Kp q (mk σ t 0 s) σ1 (up1 f q (fun _ => 0)) f1 (up1 g q (fun _ => 0)) g1) (h2 : σ2 = wR σ1 a k0 (some q)) : Tk a q k0 σ σ2 f f1 g g1 := fun c hc => by
  obtain ⟨⟨a1, a2, a3⟩, a4, a5⟩ := K c hc
  rw [h2]
  refine ⟨⟨by rw [wR_ln, a1, mk_ln, if_neg (by omega)], by rw [wR_tg, a2, mk_tg, if_neg (by omega)], fun k hk => ?_⟩, by rw [a4, up1_ne' (by omega)], by rw [a5, up1_ne' (by omega)]⟩
  rw [wR_gR, if_neg (by omega), a3 k, mk_gR (by omega)]
/-- the cells of a part, from its own constructor to the end -/
def Cl (lo hi : Nat) (σ σ' : St) (f f' : FI) (g g' : FL) : Prop := ∀ c, lo ≤ c → c < hi → (ln σ' c = ln σ c ∧ ∀ k, gR σ' c k = gR σ c k) ∧ f' c = f c ∧ g' c = g c
theorem Tk.cl {B q d k0 k1 : Nat} {σ1 σ2 σ' : St} {f f' : FI} {g g' : FL} (h : Tk B d k1 σ2 σ' f f' g g') (h2 : σ2 = wR σ1 B k0 (some q)) (hq : B < q) : Cl q d σ1 σ' f f' g g' := fun c c1 c2 => by
  obtain ⟨⟨a1, a2, a3⟩, a4⟩ := h c c2
  refine ⟨⟨by rw [a1, h2, wR_ln], fun k => ?_⟩, a4⟩
  rw [a3 k (by omega), h2, wR_gR, if_neg (by omega)]
theorem Sh4w.cl {σ σ' : St} {f f' : FI} {g g' : FL} {b : Nat} (h : Sh4w σ b) (e : Cl (b + 5) (b + 13) σ σ' f f' g g') : Sh4w σ' b := ⟨((e _ (by omega) (by omega)).1.2 0).trans h.1, ⟨((e _ (by omega) (by omega)).1.2 0).trans h.2.1.1, (e _ (by omega) (by omega)).1.1.trans h.2.1.2.1, ((e _ (by omega) (by omega)).1.2 1).trans h.2.1.2.2.1, (e _ (by omega) (by omega)).1.1.trans h.2.1.2.2.2.1, ((e _ (by omega) (by omega)).1.2 2).trans h.2.1.2.2.2.2.1, (e _ (by omega) (by omega)).1.1.trans h.2.1.2.2.2.2.2⟩, ((e _ (by omega) (by omega)).1.2 1).trans h.2.2.1, (e _ (by omega) (by omega)).1.1.trans h.2.2.2.1, ((e _ (by omega) (by omega)).1.2 2).trans h.2.2.2.2.1, (e _ (by omega) (by omega)).1.1.trans h.2.2.2.2.2⟩
theorem Sh2.cl {σ σ' : St} {f f' : FI} {g g' : FL} {a : Nat} (h : Sh2 σ a) (e : Cl (a) (a + 23) σ σ' f f' g g') : Sh2 σ' a := ⟨((e _ (by omega) (by omega)).1.2 0).trans h.1, (e _ (by omega) (by omega)).1.1.trans h.2.1, ((e _ (by omega) (by omega)).1.2 1).trans h.2.2.1, (e _ (by omega) (by omega)).1.1.trans h.2.2.2⟩
theorem Sh8.cl {σ σ' : St} {f f' : FI} {g g' : FL} {a : Nat} (h : Sh8 σ a) (e : Cl (a) (a + 7) σ σ' f f' g g') : Sh8 σ' a := ⟨((e _ (by omega) (by omega)).1.2 0).trans h.1, (e _ (by omega) (by omega)).1.1.trans h.2.1, ((e _ (by omega) (by omega)).1.2 2).trans h.2.2.1, ⟨((e _ (by omega) (by omega)).1.2 0).trans h.2.2.2.1.1, (e _ (by omega) (by omega)).1.1.trans h.2.2.2.1.2.1, ((e _ (by omega) (by omega)).1.2 1).trans h.2.2.2.1.2.2.1, (e _ (by omega) (by omega)).1.1.trans h.2.2.2.1.2.2.2.1, ((e _ (by omega) (by omega)).1.2 2).trans h.2.2.2.1.2.2.2.2.1, (e _ (by omega) (by omega)).1.1.trans h.2.2.2.1.2.2.2.2.2⟩, ((e _ (by omega) (by omega)).1.2 3).trans h.2.2.2.2.1, (e _ (by omega) (by omega)).1.1.trans h.2.2.2.2.2⟩
theorem Sh1.cl {σ σ' : St} {f f' : FI} {g g' : FL} {a : Nat} (h : Sh1 σ a) (e : Cl (a) (a + 4) σ σ' f f' g g') : Sh1 σ' a := ⟨((e _ (by omega) (by omega)).1.2 0).trans h.1, (e _ (by omega) (by omega)).1.1.trans h.2.1, ((e _ (by omega) (by omega)).1.2 3).trans h.2.2.1, (e _ (by omega) (by omega)).1.1.trans h.2.2.2.1, ((e _ (by omega) (by omega)).1.2 4).trans h.2.2.2.2.1, (e _ (by omega) (by omega)).1.1.trans h.2.2.2.2.2⟩
theorem Sh0.cl {σ σ' : St} {f f' : FI} {g g' : FL} {a : Nat} (h : Sh0 σ a) (e : Cl (a) (a + 3) σ σ' f f' g g') : Sh0 σ' a := ⟨((e _ (by omega) (by omega)).1.2 0).trans h.1, (e _ (by omega) (by omega)).1.1.trans h.2.1, ((e _ (by omega) (by omega)).1.2 1).trans h.2.2.1, (e _ (by omega) (by omega)).1.1.trans h.2.2.2⟩
theorem Sh3.cl {σ σ' : St} {f f' : FI} {g g' : FL} {a : Nat} (h : Sh3 σ a) (e : Cl a (a + 101) σ σ' f f' g g') : Sh3 σ' a := by
  obtain ⟨h1, h2, h3, h4, h5, h6, h7, h8, h9, h10⟩ := h
  refine ⟨((e _ (by omega) (by omega)).1.2 _).trans h1, (e _ (by omega) (by omega)).1.1.trans h2, ((e _ (by omega) (by omega)).1.2 _).trans h3, (e _ (by omega) (by omega)).1.1.trans h4, ((e _ (by omega) (by omega)).1.2 _).trans h5, (e _ (by omega) (by omega)).1.1.trans h6, ((e _ (by omega) (by omega)).1.2 _).trans h7, (e _ (by omega) (by omega)).1.1.trans h8, fun i i0 i1 => ((e _ (by omega) (by omega)).1.2 _).trans (h9 i i0 i1), fun i i0 i1 => ?_⟩
  have q := h10 i i0 i1
  unfold tA at q ⊢
  exact Sh7.kp q (fun c c1 c2 => (e c (by omega) (by omega)).1)
theorem ar11 (x : Nat) : x + 232 + 12 + 668 + 3 + 28 + 4 + 1004 + 7 + 3768 + 11 + 4376 + 7 + 578 + 5 + 136 + 4 + 32 = x + 10875 := by omega
theorem lt2 (B : Nat) : B < B + 43 + 101 := by omega
theorem lt3 (B : Nat) : B < B + 43 + 111 := by omega
set_option maxHeartbeats 1000000 in
theorem asm11 {σ w4 t4 v_4 t2 v_2 t8 v_8 t3 v_3 t5 v_5 t6 v_6 t1 v_1 t0 v_0 : St} {f fz f4 e4 e2 e8 e3 e5 e6 e1 e0 : FI} {g g4 h4 h2 h8 h3 h5 h6 h1 h0 : FL} {B : Nat} (A : Alf σ f g B (B + 1) [(0, 200), (2, 12), (4, 16), (5, 4)] w4 f4 g4) (T4 : Tk B (B + 5) 6 w4 v_4 f4 e4 g4 h4) (hv4 : v_4 = wR t4 B 6 (some (B + 5))) (T2 : Tk B (B + 13) 7 v_4 v_2 e4 e2 h4 h2) (hv2 : v_2 = wR t2 B 7 (some (B + 13))) (T8 : Tk B (B + 36) 8 v_2 v_8 e2 e8 h2 h8) (hv8 : v_8 = wR t8 B 8 (some (B + 36))) (T3 : Tk B (B + 43) 9 v_8 v_3 e8 e3 h8 h3) (hv3 : v_3 = wR t3 B 9 (some (B + 43))) (T5 : Tk B (B + 43 + 101) 10 v_3 v_5 e3 e5 h3 h5) (hv5 : v_5 = wR t5 B 10 (some (B + 43 + 101))) (T6 : Tk B (B + 43 + 111) 11 v_5 v_6 e5 e6 h5 h6) (hv6 : v_6 = wR t6 B 11 (some (B + 43 + 111))) (T1 : Tk B (B + 158) 12 v_6 v_1 e6 e1 h6 h1) (hv1 : v_1 = wR t1 B 12 (some (B + 158))) (T0 : Tk B (B + 162) 13 v_1 v_0 e1 e0 h1 h0) (hv0 : v_0 = wR t0 B 13 (some (B + 162))) (S4 : Sh4w t4 B) (S2 : Sh2 t2 (B + 13)) (S2x : ∀ k, k < 20 → gR t2 (B + 13 + 1) k = some (B + 13 + 2 + k) ∧ ln t2 (B + 13 + 2 + k) = 0) (S8 : Sh8 t8 (B + 36)) (v8 : ∀ k, e8 (B + 36) k = 0) (S3 : Sh3 t3 (B + 43)) (tc3 : ∀ j, j < 16 → TC e3 (B + 43 + 2 + 6 * j) 0) (v3 : ∀ k, e3 (B + 43) k = if k = 2 then 255 else 0) (gv3 : ∀ k, h3 (B + 43) k = 0) (P5 : (gR t5 (B + 43 + 101) 0 = some (B + 43) ∧ gR t5 (B + 43 + 101) 1 = some (B + 43 + 102) ∧ ln t5 (B + 43 + 102) = 8 ∧ gR t5 (B + 43 + 101) 2 = some (B + 43 + 103) ∧ ln t5 (B + 43 + 103) = 8) ∧ gR t5 (B + 43 + 101) 4 = some (B + 43 + 104) ∧ ln t5 (B + 43 + 104) = 8 ∧ gR t5 (B + 43 + 101) 5 = some (B + 43 + 105) ∧ ln t5 (B + 43 + 105) = 256 ∧ gR t5 (B + 43 + 101) 6 = some (B + 43 + 106) ∧ ln t5 (B + 43 + 106) = 512 ∧ gR t5 (B + 43 + 101) 7 = some (B + 43 + 107) ∧ ln t5 (B + 43 + 107) = 512 ∧ gR t5 (B + 43 + 101) 8 = some (B + 43 + 108) ∧ ln t5 (B + 43 + 108) = 1024 ∧ gR t5 (B + 43 + 101) 9 = some (B + 43 + 109) ∧ gR t5 (B + 43 + 101) 10 = some (B + 43 + 110) ∧ ln t5 (B + 43 + 109) = 1024 ∧ ln t5 (B + 43 + 110) = 1024) (v5 : ∀ k, e5 (B + 43 + 101) k = if k = 3 then -1 else 0) (u5 : ∀ k, e5 (B + 43 + 102) k = if k < 8 then -1 else 0) (P6 : gR t6 (B + 43 + 111) 0 = some (B + 43) ∧ gR t6 (B + 43 + 111) 1 = some (B + 43 + 112) ∧ ln t6 (B + 43 + 112) = 2 ∧ gR t6 (B + 43 + 111) 4 = some (B + 43 + 113) ∧ ln t6 (B + 43 + 113) = 512 ∧ gR t6 (B + 43 + 111) 6 = some (B + 43 + 114) ∧ ln t6 (B + 43 + 114) = 64) (v6 : ∀ k, e6 (B + 43 + 111) k = 0) (S1 : Sh1 t1 (B + 158)) (z1 : Zr (B + 158 + 1) (B + 158 + 4) e1 h1) (S0 : Sh0 t0 (B + 162)) (v0 : ∀ k, e0 (B + 162) k = 0) (hfz : fz = up1 e0 (B + 3) (fun k => if k < 16 then 255 else e0 (B + 3) k)) : (gR v_0 B 4 = some (B + 3) ∧ ln v_0 (B + 3) = 16) ∧ Kp B σ v_0 f fz g h0 ∧ Sh11 v_0 B ∧ (∀ k, k < 20 → gR v_0 (B + 14) k = some (B + 15 + k) ∧ ln v_0 (B + 15 + k) = 0) ∧ (fz B = f B ∧ h0 B = g B) ∧ (∀ k, k < 16 → fz (B + 3) k = 255) ∧ (∀ c k, c = B + 4 ∨ c = B + 36 ∨ c = B + 154 ∨ c = B + 159 ∨ c = B + 160 ∨ c = B + 161 ∨ c = B + 162 → fz c k = 0) ∧ (∀ k, fz (B + 43) k = if k = 2 then 255 else 0) ∧ (∀ k, h0 (B + 43) k = 0) ∧ (∀ j, j < 16 → TC fz (B + 45 + 6 * j) 0) ∧ (∀ k, fz (B + 144) k = if k = 3 then -1 else 0) ∧ ∀ k, k < 8 → fz (B + 145) k = -1 := by
  have U0 := T0
  have U1 := T1.trans U0 (by omega) (by omega)
  have U6 := T6.trans U1 (by omega) (by omega)
  have U5 := T5.trans U6 (by omega) (by omega)
  have U3 := T3.trans U5 (by omega) (by omega)
  have U8 := T8.trans U3 (by omega) (by omega)
  have U2 := T2.trans U8 (by omega) (by omega)
  have U4 := T4.trans U2 (by omega) (by omega)
  have C4 := U2.cl hv4 (by omega)
  have C2 := U8.cl hv2 (by omega)
  have C8 := U3.cl hv8 (by omega)
  have C3 := U5.cl hv3 (by omega)
  have C5 := U6.cl hv5 (by omega)
  have C6 := U1.cl hv6 (by omega)
  have C1 := U0.cl hv1 (by omega)
  have C0 : Cl (B + 162) (B + 165) t0 v_0 e0 e0 h0 h0 := fun c c1 c2 => ⟨⟨by rw [hv0, wR_ln], fun k => by rw [hv0, wR_gR, if_neg (by omega)]⟩, rfl, rfl⟩
  have RB : ∀ k, k < 6 → gR v_0 B k = gR w4 B k := fun k hk => (U4 B (by omega)).1.2.2 k (by omega)
  have r3 : gR v_0 B 4 = some (B + 3) ∧ ln v_0 (B + 3) = 16 := ⟨(RB 4 (by omega)).trans (A.1.1 2 (by decide)).1, (U4 (B + 3) (by omega)).1.1.trans (A.1.1 2 (by decide)).2⟩
  have fzo : ∀ c, c ≠ B + 3 → fz c = e0 c := fun c hc => by rw [hfz, up1_ne' hc]
  obtain ⟨⟨p0, p1, p2, p3, p4⟩, p5⟩ := P5
  obtain ⟨s0, s1, s2, s3, s4, s5, s6⟩ := P6
  have sh3 : Sh3 v_0 (B + 43) := S3.cl C3
  have sh5 : Sh5 v_0 (B + 43) := ⟨((C5 _ (by omega) (by omega)).1.2 _).trans p0, sh3, ((C5 _ (by omega) (by omega)).1.2 _).trans p1, (C5 _ (by omega) (by omega)).1.1.trans p2, ((C5 _ (by omega) (by omega)).1.2 _).trans p3, (C5 _ (by omega) (by omega)).1.1.trans p4, ((C5 _ (by omega) (by omega)).1.2 _).trans p5.1, (C5 _ (by omega) (by omega)).1.1.trans p5.2.1, ((C5 _ (by omega) (by omega)).1.2 _).trans p5.2.2.1, (C5 _ (by omega) (by omega)).1.1.trans p5.2.2.2.1, ((C5 _ (by omega) (by omega)).1.2 _).trans p5.2.2.2.2.1, (C5 _ (by omega) (by omega)).1.1.trans p5.2.2.2.2.2.1, ((C5 _ (by omega) (by omega)).1.2 _).trans p5.2.2.2.2.2.2.1, (C5 _ (by omega) (by omega)).1.1.trans p5.2.2.2.2.2.2.2.1, ((C5 _ (by omega) (by omega)).1.2 _).trans p5.2.2.2.2.2.2.2.2.1, (C5 _ (by omega) (by omega)).1.1.trans p5.2.2.2.2.2.2.2.2.2.1, Or.inl ⟨((C5 _ (by omega) (by omega)).1.2 _).trans p5.2.2.2.2.2.2.2.2.2.2.1, ((C5 _ (by omega) (by omega)).1.2 _).trans p5.2.2.2.2.2.2.2.2.2.2.2.1⟩, (C5 _ (by omega) (by omega)).1.1.trans p5.2.2.2.2.2.2.2.2.2.2.2.2.1, (C5 _ (by omega) (by omega)).1.1.trans p5.2.2.2.2.2.2.2.2.2.2.2.2.2⟩
  have sh6 : Sh6 v_0 (B + 43) := ⟨((C6 _ (by omega) (by omega)).1.2 _).trans s0, sh3, ((C6 _ (by omega) (by omega)).1.2 _).trans s1, (C6 _ (by omega) (by omega)).1.1.trans s2, ((C6 _ (by omega) (by omega)).1.2 _).trans s3, (C6 _ (by omega) (by omega)).1.1.trans s4, ((C6 _ (by omega) (by omega)).1.2 _).trans s5, (C6 _ (by omega) (by omega)).1.1.trans s6⟩
  have sh11 : Sh11 v_0 B := ⟨(RB 0 (by omega)).trans (A.1.1 0 (by decide)).1, (U4 _ (by omega)).1.1.trans (A.1.1 0 (by decide)).2, (RB 2 (by omega)).trans (A.1.1 1 (by decide)).1, (U4 _ (by omega)).1.1.trans (A.1.1 1 (by decide)).2, (RB 4 (by omega)).trans (A.1.1 2 (by decide)).1, (U4 _ (by omega)).1.1.trans (A.1.1 2 (by decide)).2, (RB 5 (by omega)).trans (A.1.1 3 (by decide)).1, (U4 _ (by omega)).1.1.trans (A.1.1 3 (by decide)).2, (by rw [(U2 B (by omega)).1.2.2 6 (by omega), hv4, wR_gR, if_pos ⟨rfl, rfl⟩]), S4.cl C4, (by rw [(U8 B (by omega)).1.2.2 7 (by omega), hv2, wR_gR, if_pos ⟨rfl, rfl⟩]), S2.cl C2, (by rw [(U3 B (by omega)).1.2.2 8 (by omega), hv8, wR_gR, if_pos ⟨rfl, rfl⟩]), S8.cl C8, (by rw [(U5 B (by omega)).1.2.2 9 (by omega), hv3, wR_gR, if_pos ⟨rfl, rfl⟩]), sh3, (by rw [(U6 B (by omega)).1.2.2 10 (by omega), hv5, wR_gR, if_pos ⟨rfl, rfl⟩]), sh5, (by rw [(U1 B (by omega)).1.2.2 11 (by omega), hv6, wR_gR, if_pos ⟨rfl, rfl⟩]), sh6, (by rw [(U0 B (by omega)).1.2.2 12 (by omega), hv1, wR_gR, if_pos ⟨rfl, rfl⟩]), S1.cl C1, (by rw [hv0, wR_gR, if_pos ⟨rfl, rfl⟩]), S0.cl C0⟩
  have KB : Kp B w4 v_0 f4 fz g4 h0 := fun c hc => by
    obtain ⟨⟨a1, a2, a3⟩, a4, a5⟩ := U4 c (by omega)
    exact ⟨⟨a1, a2, fun k => a3 k (by omega)⟩, by rw [fzo c (by omega)]; exact a4, a5⟩
  refine ⟨r3, (A.kp (d := B) (Nat.le_refl _) (by omega)).trans KB, sh11, fun k hk => ?_, ⟨?_, ?_⟩, fun k hk => ?_, fun c k hc => ?_, fun k => ?_, fun k => ?_, fun j hj => ?_, fun k => ?_, fun k hk => ?_⟩
  · obtain ⟨x1, x2⟩ := S2x k hk
    have c1 := (C2 (B + 14) (by omega) (by omega)).1.2 k
    have c2 := (C2 (B + 15 + k) (by omega) (by omega)).1.1
    exact ⟨c1.trans x1, c2.trans x2⟩
  · rw [fzo _ (by omega), (U4 B (by omega)).2.1, (A.2.1 B (by omega)).1]
  · rw [(U4 B (by omega)).2.2, (A.2.1 B (by omega)).2]
  · rw [hfz, up1_at', if_pos hk]
  · rw [fzo _ (by omega)]
    rcases hc with e | e | e | e | e | e | e
    · rw [e, (U4 _ (by omega)).2.1]
      exact (A.2.2 (B + 4) (by omega) (by show B + 4 < B + 1 + 4; omega)).1 k
    · rw [e, (C8 _ (by omega) (by omega)).2.1, v8]
    · rw [e, (C6 _ (by omega) (by omega)).2.1]
      exact v6 k
    · rw [e, (C1 _ (by omega) (by omega)).2.1]
      exact (z1 (B + 159) (by omega) (by omega)).1 k
    · rw [e, (C1 _ (by omega) (by omega)).2.1]
      exact (z1 (B + 160) (by omega) (by omega)).1 k
    · rw [e, (C1 _ (by omega) (by omega)).2.1]
      exact (z1 (B + 161) (by omega) (by omega)).1 k
    · rw [e, v0]
  · rw [fzo _ (by omega), (C3 _ (by omega) (by omega)).2.1, v3 k]
  · rw [(C3 _ (by omega) (by omega)).2.2, gv3]
  · have e : ∀ c, B + 43 ≤ c → c < B + 144 → fz c = e3 c := fun c c1 c2 => by rw [fzo _ (by omega)]; exact (C3 c c1 (by omega)).2.1
    have q := tc3 j hj
    rw [show B + 43 + 2 + 6 * j = B + 45 + 6 * j by omega] at q
    exact q.of (by rw [e _ (by omega) (by omega)]) (e _ (by omega) (by omega)) (e _ (by omega) (by omega)) (e _ (by omega) (by omega)) (e _ (by omega) (by omega)) (e _ (by omega) (by omega))
  · rw [fzo _ (by omega), (C5 _ (by omega) (by omega)).2.1]
    exact v5 k
  · rw [fzo _ (by omega), (C5 _ (by omega) (by omega)).2.1]
    exact (u5 k).trans (if_pos hk)
set_option maxHeartbeats 4000000 in
theorem x_init11 {σ : St} {f : FI} {g : FL} {B : Nat} (hd : nx σ = B + 1) : ∃ (σ' : St) (f' : FI) (g' : FL), Ex mt 3 140 (il σ f g) [vR 11 (some B)] (il σ' f' g', []) ∧ nx σ' = B + 165 ∧ sl σ' = sl σ + 10875 ∧ Kp B σ σ' f f' g g' ∧ Sh11 σ' B ∧ (∀ k, k < 20 → gR σ' (B + 14) k = some (B + 15 + k) ∧ ln σ' (B + 15 + k) = 0) ∧ (f' B = f B ∧ g' B = g B) ∧ (∀ k, k < 16 → f' (B + 3) k = 255) ∧ (∀ c k, c = B + 4 ∨ c = B + 36 ∨ c = B + 154 ∨ c = B + 159 ∨ c = B + 160 ∨ c = B + 161 ∨ c = B + 162 → f' c k = 0) ∧ (∀ k, f' (B + 43) k = if k = 2 then 255 else 0) ∧ (∀ k, g' (B + 43) k = 0) ∧ (∀ j, j < 16 → TC f' (B + 45 + 6 * j) 0) ∧ (∀ k, f' (B + 144) k = if k = 3 then -1 else 0) ∧ ∀ k, k < 8 → f' (B + 145) k = -1 := by
  have P1A0 := Alf.nil (σ := σ) (f := f) (g := g) (a := B) (b := B + 1) hd
  obtain ⟨q1, hq1⟩ : ∃ x, x = nx σ := ⟨_, rfl⟩
  obtain ⟨m1, hm1⟩ : ∃ x, x = mk σ 14 200 200 := ⟨_, rfl⟩
  obtain ⟨f1, hf1⟩ : ∃ x : FI, x = up1 f q1 (fun _ => 0) := ⟨_, rfl⟩
  obtain ⟨g1, hg1⟩ : ∃ x : FL, x = up1 g q1 (fun _ => 0) := ⟨_, rfl⟩
  obtain ⟨w1, hw1⟩ : ∃ x, x = wR m1 B 0 (some q1) := ⟨_, rfl⟩
  have A1 := (P1A0.add (Nat.lt_succ_self B) (by decide +kernel) hq1 hm1 hf1 hg1 hw1).1
  obtain ⟨q2, hq2⟩ : ∃ x, x = nx w1 := ⟨_, rfl⟩
  obtain ⟨m2, hm2⟩ : ∃ x, x = mk w1 18 12 12 := ⟨_, rfl⟩
  obtain ⟨f2, hf2⟩ : ∃ x : FI, x = up1 f1 q2 (fun _ => 0) := ⟨_, rfl⟩
  obtain ⟨g2, hg2⟩ : ∃ x : FL, x = up1 g1 q2 (fun _ => 0) := ⟨_, rfl⟩
  obtain ⟨w2, hw2⟩ : ∃ x, x = wR m2 B 2 (some q2) := ⟨_, rfl⟩
  have A2 := (A1.add (Nat.lt_succ_self B) (by decide +kernel) hq2 hm2 hf2 hg2 hw2).1
  obtain ⟨q3, hq3⟩ : ∃ x, x = nx w2 := ⟨_, rfl⟩
  obtain ⟨m3, hm3⟩ : ∃ x, x = mk w2 14 16 16 := ⟨_, rfl⟩
  obtain ⟨f3, hf3⟩ : ∃ x : FI, x = up1 f2 q3 (fun _ => 0) := ⟨_, rfl⟩
  obtain ⟨g3, hg3⟩ : ∃ x : FL, x = up1 g2 q3 (fun _ => 0) := ⟨_, rfl⟩
  obtain ⟨w3, hw3⟩ : ∃ x, x = wR m3 B 4 (some q3) := ⟨_, rfl⟩
  have A3 := (A2.add (Nat.lt_succ_self B) (by decide +kernel) hq3 hm3 hf3 hg3 hw3).1
  obtain ⟨q4, hq4⟩ : ∃ x, x = nx w3 := ⟨_, rfl⟩
  obtain ⟨m4, hm4⟩ : ∃ x, x = mk w3 14 4 4 := ⟨_, rfl⟩
  obtain ⟨f4, hf4⟩ : ∃ x : FI, x = up1 f3 q4 (fun _ => 0) := ⟨_, rfl⟩
  obtain ⟨g4, hg4⟩ : ∃ x : FL, x = up1 g3 q4 (fun _ => 0) := ⟨_, rfl⟩
  obtain ⟨w4, hw4⟩ : ∃ x, x = wR m4 B 5 (some q4) := ⟨_, rfl⟩
  have A4 := (A3.add (Nat.lt_succ_self B) (by decide +kernel) hq4 hm4 hf4 hg4 hw4).1
  have A : Alf σ f g B (B + 1) [(0, 200), (2, 12), (4, 16), (5, 4)] w4 f4 g4 := A4
  have nW : nx w4 = B + 5 := A.1.2.1
  obtain ⟨t4, e4, h4, E4, K4, n4, l4, S4⟩ := x_init4 (b := B) (σ := mk w4 4 0 12) (f := up1 f4 (B + 5) (fun _ => 0)) (g := up1 g4 (B + 5) (fun _ => 0)) (by rw [mk_nx, nW])
  rw [mk_sl] at l4
  obtain ⟨v_4, hv4⟩ : ∃ x, x = wR t4 B 6 (some (B + 5)) := ⟨_, rfl⟩
  have T4 : Tk B (B + 5) 6 w4 v_4 f4 e4 g4 h4 := sub_tk nW K4 hv4
  have N4 : nx v_4 = B + 13 := by rw [hv4, wR_nx]; exact n4
  have M4 : sl v_4 = sl t4 := by rw [hv4, wR_sl]
  obtain ⟨t2, e2, h2, E2, K2, n2, l2, ⟨S2, S2x⟩, v2, z2⟩ := x_init2 (d := B + 13) (σ := mk v_4 2 0 3) (f := up1 e4 (B + 13) (fun _ => 0)) (g := up1 h4 (B + 13) (fun _ => 0)) (by rw [mk_nx, N4])
  rw [mk_sl] at l2
  obtain ⟨v_2, hv2⟩ : ∃ x, x = wR t2 B 7 (some (B + 13)) := ⟨_, rfl⟩
  have T2 : Tk B (B + 13) 7 v_4 v_2 e4 e2 h4 h2 := sub_tk N4 K2 hv2
  have N2 : nx v_2 = B + 36 := by rw [hv2, wR_nx]; exact n2
  have M2 : sl v_2 = sl t2 := by rw [hv2, wR_sl]
  obtain ⟨t8, e8, h8, E8, K8, n8, l8, S8, v8⟩ := x_init8 (d := B + 36) (σ := mk v_2 8 0 4) (f := up1 e2 (B + 36) (fun _ => 0)) (g := up1 h2 (B + 36) (fun _ => 0)) (by rw [mk_nx, N2])
  rw [mk_sl] at l8
  obtain ⟨v_8, hv8⟩ : ∃ x, x = wR t8 B 8 (some (B + 36)) := ⟨_, rfl⟩
  have T8 : Tk B (B + 36) 8 v_2 v_8 e2 e8 h2 h8 := sub_tk N2 K8 hv8
  have N8 : nx v_8 = B + 43 := by rw [hv8, wR_nx]; exact n8
  have M8 : sl v_8 = sl t8 := by rw [hv8, wR_sl]
  obtain ⟨t3, e3, h3, E3, K3, n3, l3, S3, tc3, v3, gv3, z3⟩ := x_init3 (d := B + 43) (σ := mk v_8 3 0 7) (f := up1 e8 (B + 43) (fun _ => 0)) (g := up1 h8 (B + 43) (fun _ => 0)) (by rw [mk_nx, N8])
  rw [mk_sl] at l3
  obtain ⟨v_3, hv3⟩ : ∃ x, x = wR t3 B 9 (some (B + 43)) := ⟨_, rfl⟩
  have T3 : Tk B (B + 43) 9 v_8 v_3 e8 e3 h8 h3 := sub_tk N8 K3 hv3
  have N3 : nx v_3 = B + 144 := by rw [hv3, wR_nx]; exact n3
  have M3 : sl v_3 = sl t3 := by rw [hv3, wR_sl]
  have R9 : gR v_3 B 9 = some (B + 43) := by rw [hv3, wR_gR, if_pos ⟨rfl, rfl⟩]
  obtain ⟨t5, e5, h5, E5, K5, n5, l5, P5, v5, u5, z5, gv5⟩ := x_init5 (n := B + 43) (x1 := B + 43) (σ := mk v_3 5 0 11) (f := up1 e3 (B + 43 + 101) (fun _ => 0)) (g := up1 h3 (B + 43 + 101) (fun _ => 0)) (by rw [mk_nx, N3])
  rw [mk_sl] at l5
  obtain ⟨v_5, hv5⟩ : ∃ x, x = wR t5 B 10 (some (B + 43 + 101)) := ⟨_, rfl⟩
  have T5 : Tk B (B + 43 + 101) 10 v_3 v_5 e3 e5 h3 h5 := sub_tk N3 K5 hv5
  have N5 : nx v_5 = B + 154 := by rw [hv5, wR_nx]; exact n5
  have M5 : sl v_5 = sl t5 := by rw [hv5, wR_sl]
  have R9b : gR v_5 B 9 = some (B + 43) := ((T5 B (lt2 B)).1.2.2 9 (Or.inr (by decide))).trans R9
  obtain ⟨t6, e6, h6, E6, K6, n6, l6, P6, v6, z6⟩ := x_init6 (n := B + 43) (x1 := B + 43) (σ := mk v_5 6 0 7) (f := up1 e5 (B + 43 + 111) (fun _ => 0)) (g := up1 h5 (B + 43 + 111) (fun _ => 0)) (by rw [mk_nx, N5])
  rw [mk_sl] at l6
  obtain ⟨v_6, hv6⟩ : ∃ x, x = wR t6 B 11 (some (B + 43 + 111)) := ⟨_, rfl⟩
  have T6 : Tk B (B + 43 + 111) 11 v_5 v_6 e5 e6 h5 h6 := sub_tk N5 K6 hv6
  have N6 : nx v_6 = B + 158 := by rw [hv6, wR_nx]; exact n6
  have M6 : sl v_6 = sl t6 := by rw [hv6, wR_sl]
  obtain ⟨t1, e1, h1, E1, K1, n1, l1, S1, v1, z1⟩ := x_init1 (d := B + 158) (σ := mk v_6 1 0 5) (f := up1 e6 (B + 158) (fun _ => 0)) (g := up1 h6 (B + 158) (fun _ => 0)) (by rw [mk_nx, N6])
  rw [mk_sl] at l1
  obtain ⟨v_1, hv1⟩ : ∃ x, x = wR t1 B 12 (some (B + 158)) := ⟨_, rfl⟩
  have T1 : Tk B (B + 158) 12 v_6 v_1 e6 e1 h6 h1 := sub_tk N6 K1 hv1
  have N1 : nx v_1 = B + 162 := by rw [hv1, wR_nx]; exact n1
  have M1 : sl v_1 = sl t1 := by rw [hv1, wR_sl]
  obtain ⟨t0, e0, h0, E0, K0, n0, l0, S0, v0, z0⟩ := x_init0 (d := B + 162) (σ := mk v_1 0 0 4) (f := up1 e1 (B + 162) (fun _ => 0)) (g := up1 h1 (B + 162) (fun _ => 0)) (by rw [mk_nx, N1])
  rw [mk_sl] at l0
  obtain ⟨v_0, hv0⟩ : ∃ x, x = wR t0 B 13 (some (B + 162)) := ⟨_, rfl⟩
  have T0 : Tk B (B + 162) 13 v_1 v_0 e1 e0 h1 h0 := sub_tk N1 K0 hv0
  have N0 : nx v_0 = B + 165 := by rw [hv0, wR_nx]; exact n0
  have M0 : sl v_0 = sl t0 := by rw [hv0, wR_sl]
  obtain ⟨fz, hfz⟩ : ∃ x : FI, x = up1 e0 (B + 3) (fun k => if k < 16 then 255 else e0 (B + 3) k) := ⟨_, rfl⟩
  have z8 : ∀ k, e8 (B + 36) k = 0 := fun k => by rw [v8.1, up1_at']
  have y3 : ∀ k, e3 (B + 43) k = if k = 2 then 255 else 0 := fun k => by rw [v3, up1_at']
  have x3 : ∀ k, h3 (B + 43) k = 0 := fun k => by rw [gv3, up1_at']
  have y5 : ∀ k, e5 (B + 43 + 101) k = if k = 3 then -1 else 0 := fun k => by rw [v5, up1_at']
  have y6 : ∀ k, e6 (B + 43 + 111) k = 0 := fun k => by rw [v6.1, up1_at']
  have y0 : ∀ k, e0 (B + 162) k = 0 := fun k => by rw [v0.1, up1_at']
  obtain ⟨r3, R⟩ := asm11 A T4 hv4 T2 hv2 T8 hv8 T3 hv3 T5 hv5 T6 hv6 T1 hv1 T0 hv0 S4 S2 S2x S8 z8 S3 tc3 y3 x3 P5 y5 u5 P6 y6 S1 z1 S0 y0 hfz
  have EF := x_fillI (σ := v_0) (f := e0) (g := h0) (v := 255) r3.2 (by decide)
  rw [← hfz] at EF
  have a4 : sl w4 = sl σ + 232 := A.1.2.2.1
  refine ⟨v_0, fz, h0, bk_X11_init_0 ?_, N0, ?_, R⟩
  · refine let5 hq1 hm1 hf1 hg1 hw1 ?_
    refine let5 hq2 hm2 hf2 hg2 hw2 ?_
    refine let5 hq3 hm3 hf3 hg3 hw3 ?_
    refine let5 hq4 hm4 hf4 hg4 hw4 ?_
    intro y1 y2 y3 y4 d1 d2 d3 d4
    obtain rfl : y1 = B + 5 := d1.trans nW
    subst d2 d3 d4
    refine ⟨t4, e4, h4, E4, ?_⟩
    intro y5 d5
    rw [← hv4] at d5
    subst y5
    intro y1 y2 y3 y4 d1 d2 d3 d4
    obtain rfl : y1 = B + 13 := d1.trans N4
    subst d2 d3 d4
    refine ⟨t2, e2, h2, E2, ?_⟩
    intro y5 d5
    rw [← hv2] at d5
    subst y5
    intro y1 y2 y3 y4 d1 d2 d3 d4
    obtain rfl : y1 = B + 36 := d1.trans N2
    subst d2 d3 d4
    refine ⟨t8, e8, h8, E8, ?_⟩
    intro y5 d5
    rw [← hv8] at d5
    subst y5
    intro y1 y2 y3 y4 d1 d2 d3 d4
    obtain rfl : y1 = B + 43 := d1.trans N8
    subst d2 d3 d4
    refine ⟨t3, e3, h3, E3, ?_⟩
    intro y5 d5
    rw [← hv3] at d5
    subst y5
    intro y1 y2 y3 y4 d1 d2 d3 d4
    obtain rfl : y1 = B + 43 + 101 := d1.trans N3
    subst d2 d3 d4
    refine ⟨B + 43, (mk_gR (by rw [N3]; exact Nat.ne_of_lt (lt2 B))).trans R9, ?_⟩
    refine ⟨t5, e5, h5, E5, ?_⟩
    intro y5 d5
    rw [← hv5] at d5
    subst y5
    intro y1 y2 y3 y4 d1 d2 d3 d4
    obtain rfl : y1 = B + 43 + 111 := d1.trans N5
    subst d2 d3 d4
    refine ⟨B + 43, (mk_gR (by rw [N5]; exact Nat.ne_of_lt (lt3 B))).trans R9b, ?_⟩
    refine ⟨t6, e6, h6, E6, ?_⟩
    intro y5 d5
    rw [← hv6] at d5
    subst y5
    intro y1 y2 y3 y4 d1 d2 d3 d4
    obtain rfl : y1 = B + 158 := d1.trans N6
    subst d2 d3 d4
    refine ⟨t1, e1, h1, E1, ?_⟩
    intro y5 d5
    rw [← hv1] at d5
    subst y5
    intro y1 y2 y3 y4 d1 d2 d3 d4
    obtain rfl : y1 = B + 162 := d1.trans N1
    subst d2 d3 d4
    refine ⟨t0, e0, h0, E0, ?_⟩
    intro y5 d5
    rw [← hv0] at d5
    subst y5
    exact ⟨B + 3, r3.1, fz, h0, EF, rfl⟩
  · refine Eq.trans ?_ (ar11 (sl σ))
    rw [M0, l0, M1, l1, M6, l6, M5, l5, M3, l3, M8, l8, M2, l2, M4, l4, a4]
