/-! new objects -/
def Alf (σ0 : St) (f0 : FI) (g0 : FL) (a b : Nat) (L : List (Nat × Nat)) (σ : St) (f : FI) (g : FL) : Prop := Al σ0 a b L σ ∧ (∀ c, c < b → f c = f0 c ∧ g c = g0 c) ∧ ∀ c, b ≤ c → c < b + L.length → (∀ k, f c k = 0) ∧ ∀ k, g c k = 0
theorem Alf.nil {σ : St} {f : FI} {g : FL} {a b : Nat} (h : nx σ = b) : Alf σ f g a b [] σ f g := ⟨Al.nil h, fun _ _ => ⟨rfl, rfl⟩, fun c h1 h2 => by rw [List.length_nil] at h2; omega⟩
theorem Alf.add {σ0 σ σ1 σ2 : St} {f0 f f1 : FI} {g0 g g1 : FL} {a b q t n k : Nat} {L : List (Nat × Nat)} (h : Alf σ0 f0 g0 a b L σ f g) (hab : a < b) (hk : ∀ p ∈ L, p.1 ≠ k) (hq : q = nx σ) (h1 : σ1 = mk σ t n n) (hf : f1 = up1 f q (fun _ => 0)) (hg : g1 = up1 g q (fun _ => 0)) (h2 : σ2 = wR σ1 a k (some q)) : Alf σ0 f0 g0 a b (L ++ [(k, n)]) σ2 f1 g1 ∧ q = b + L.length := by
  obtain ⟨A, e⟩ := h.1.add hab hk hq h1 h2
  refine ⟨⟨A, fun c hc => ?_, fun c h3 h4 => ?_⟩, e⟩
  · rw [hf, hg, up1_ne' (by omega), up1_ne' (by omega)]
    exact h.2.1 c hc
  · rw [List.length_append, List.length_singleton] at h4
    rw [hf, hg]
    by_cases z : c = q
    · rw [z, up1_at', up1_at']
      exact ⟨fun _ => rfl, fun _ => rfl⟩
    · rw [up1_ne' z, up1_ne' z]
      exact h.2.2 c h3 (by omega)
/-- the cells below d are as they were -/
def Kp (d : Nat) (σ σ' : St) (f f' : FI) (g g' : FL) : Prop := ∀ c, c < d → (ln σ' c = ln σ c ∧ tg σ' c = tg σ c ∧ ∀ k, gR σ' c k = gR σ c k) ∧ f' c = f c ∧ g' c = g c
theorem Kp.trans {d : Nat} {σ σ1 σ2 : St} {f f1 f2 : FI} {g g1 g2 : FL} (h : Kp d σ σ1 f f1 g g1) (h2 : Kp d σ1 σ2 f1 f2 g1 g2) : Kp d σ σ2 f f2 g g2 := fun c hc => by
  obtain ⟨⟨a1, a2, a3⟩, a4, a5⟩ := h c hc
  obtain ⟨⟨b1, b2, b3⟩, b4, b5⟩ := h2 c hc
  exact ⟨⟨b1.trans a1, b2.trans a2, fun k => (b3 k).trans (a3 k)⟩, b4.trans a4, b5.trans a5⟩
theorem Kp.rfl' {d : Nat} {σ : St} {f : FI} {g : FL} : Kp d σ σ f f g g := fun _ _ => ⟨⟨rfl, rfl, fun _ => rfl⟩, rfl, rfl⟩
theorem Kp.wR {d a k : Nat} {v : Option Nat} {σ : St} {f : FI} {g : FL} (ha : d ≤ a) : Kp d σ (wR σ a k v) f f g g := fun c hc => ⟨⟨rfl, rfl, fun j => by rw [wR_gR, if_neg (by omega)]⟩, rfl, rfl⟩
theorem Kp.mk {d t n s : Nat} {σ : St} {f : FI} {g : FL} (ha : d ≤ nx σ) : Kp d σ (mk σ t n s) f (up1 f (nx σ) (fun _ => 0)) g (up1 g (nx σ) (fun _ => 0)) := fun c hc => ⟨⟨by rw [mk_ln, if_neg (by omega)], by rw [mk_tg, if_neg (by omega)], fun j => mk_gR (by omega)⟩, up1_ne' (by omega), up1_ne' (by omega)⟩
theorem Alf.kp {σ0 σ : St} {f0 f : FI} {g0 g : FL} {a b d : Nat} {L : List (Nat × Nat)} (h : Alf σ0 f0 g0 a b L σ f g) (h1 : d ≤ a) (h2 : d ≤ b) : Kp d σ0 σ f0 f g0 g := fun c hc => by
  obtain ⟨c1, c2, c3⟩ := h.1.2.2.2.1 c (by omega)
  exact ⟨⟨c1, c2, c3 (by omega)⟩, h.2.1 c (by omega)⟩
/-- a new cell's rows hold nothing but 0 -/
def Zr (lo hi : Nat) (f : FI) (g : FL) : Prop := ∀ c, lo ≤ c → c < hi → (∀ k, f c k = 0) ∧ ∀ k, g c k = 0
theorem bk_X0_init_0 {σ : St} {f : FI} {g : FL} {a : Nat} {r : St × List Vl}  (h : (∀ (q9 : Nat) (σ6 : St) (f7 : FI) (g8 : FL), q9 = nx σ → σ6 = (mk σ 14 16 16) → f7 = up1 f q9 (fun _ => 0) → g8 = up1 g q9 (fun _ => 0) → (∀ (σ12 : St), σ12 = (wR σ6 a 0 (some q9)) → (∀ (q21 : Nat) (σ18 : St) (f19 : FI) (g20 : FL), q21 = nx σ12 → σ18 = (mk σ12 14 16 16) → f19 = up1 f7 q21 (fun _ => 0) → g20 = up1 g8 q21 (fun _ => 0) → (∀ (σ24 : St), σ24 = (wR σ18 a 1 (some q21)) → (r = ((il σ24 f19 g20), []))))))) : Ex mt 0 0 (il σ f g) [vR 0 (some a)] r := Ex.mk mt_0 (show Gx mt 0 cd_X0_init (il σ f g) b_X0_init_0 [some (vR 0 (some a))] [] r from (go_loadA rfl (go_oinit rfl (go_loadA rfl (go_pushI rfl (gi_newa ⟨by decide, by decide⟩ (Gx.letM (fun q9 σ6 f7 g8 e2 e3 e4 e5 => have h1 := h q9 σ6 f7 g8 e2 e3 e4 e5; (gi_putR (Gx.letS (fun σ12 e11 => have h10 := h1 σ12 e11; (go_loadA rfl (go_pushI rfl (gi_newa ⟨by decide, by decide⟩ (Gx.letM (fun q21 σ18 f19 g20 e14 e15 e16 e17 => have h13 := h10 q21 σ18 f19 g20 e14 e15 e16 e17; (gi_putR (Gx.letS (fun σ24 e23 => have h22 := h13 σ24 e23; (h22 ▸ gq_retV))))))))))))))))))))
theorem bk_X1_init_0 {σ : St} {f : FI} {g : FL} {a : Nat} {r : St × List Vl}  (h : (∀ (q9 : Nat) (σ6 : St) (f7 : FI) (g8 : FL), q9 = nx σ → σ6 = (mk σ 14 8 8) → f7 = up1 f q9 (fun _ => 0) → g8 = up1 g q9 (fun _ => 0) → (∀ (σ12 : St), σ12 = (wR σ6 a 0 (some q9)) → (∀ (q21 : Nat) (σ18 : St) (f19 : FI) (g20 : FL), q21 = nx σ12 → σ18 = (mk σ12 14 64 64) → f19 = up1 f7 q21 (fun _ => 0) → g20 = up1 g8 q21 (fun _ => 0) → (∀ (σ24 : St), σ24 = (wR σ18 a 3 (some q21)) → (∀ (q33 : Nat) (σ30 : St) (f31 : FI) (g32 : FL), q33 = nx σ24 → σ30 = (mk σ24 14 64 64) → f31 = up1 f19 q33 (fun _ => 0) → g32 = up1 g20 q33 (fun _ => 0) → (∀ (σ36 : St), σ36 = (wR σ30 a 4 (some q33)) → (r = ((il σ36 f31 g32), []))))))))) : Ex mt 0 7 (il σ f g) [vR 1 (some a)] r := Ex.mk mt_7 (show Gx mt 0 cd_X1_init (il σ f g) b_X1_init_0 [some (vR 1 (some a))] [] r from (go_loadA rfl (go_oinit rfl (go_loadA rfl (go_pushI rfl (gi_newa ⟨by decide, by decide⟩ (Gx.letM (fun q9 σ6 f7 g8 e2 e3 e4 e5 => have h1 := h q9 σ6 f7 g8 e2 e3 e4 e5; (gi_putR (Gx.letS (fun σ12 e11 => have h10 := h1 σ12 e11; (go_loadA rfl (go_pushI rfl (gi_newa ⟨by decide, by decide⟩ (Gx.letM (fun q21 σ18 f19 g20 e14 e15 e16 e17 => have h13 := h10 q21 σ18 f19 g20 e14 e15 e16 e17; (gi_putR (Gx.letS (fun σ24 e23 => have h22 := h13 σ24 e23; (go_loadA rfl (go_pushI rfl (gi_newa ⟨by decide, by decide⟩ (Gx.letM (fun q33 σ30 f31 g32 e26 e27 e28 e29 => have h25 := h22 q33 σ30 f31 g32 e26 e27 e28 e29; (gi_putR (Gx.letS (fun σ36 e35 => have h34 := h25 σ36 e35; (h34 ▸ gq_retV))))))))))))))))))))))))))))
theorem bk_X2_init_0 {σ : St} {f : FI} {g : FL} {a : Nat} {r : St × List Vl}  (h : (∀ (σ3 : St), σ3 = (wR (mkM (il σ f g)) a 0 (some (nx σ))) → (∀ (q12 : Nat) (σ9 : St) (f10 : FI) (g11 : FL), q12 = nx σ3 → σ9 = (mk σ3 15 8 8) → f10 = up1 (gI (mkM (il σ f g))) q12 (fun _ => 0) → g11 = up1 (gL (mkM (il σ f g))) q12 (fun _ => 0) → (∀ (σ15 : St), σ15 = (wR σ9 a 1 (some q12)) → (r = ((il σ15 f10 g11), [])))))) : Ex mt 0 17 (il σ f g) [vR 2 (some a)] r := Ex.mk mt_17 (show Gx mt 0 cd_X2_init (il σ f g) b_X2_init_0 [some (vR 2 (some a))] [] r from (go_loadA rfl (go_oinit rfl (go_loadA rfl (go_pushI rfl (go_pushI rfl (gi_multi (gi_putR (Gx.letS (fun σ3 e2 => have h1 := h σ3 e2; (go_loadA rfl (go_pushI rfl (gi_newa ⟨by decide, by decide⟩ (Gx.letM (fun q12 σ9 f10 g11 e5 e6 e7 e8 => have h4 := h1 q12 σ9 f10 g11 e5 e6 e7 e8; (gi_putR (Gx.letS (fun σ15 e14 => have h13 := h4 σ15 e14; (h13 ▸ gq_retV)))))))))))))))))))
theorem bk_X6_init_0 {σ : St} {f : FI} {g : FL} {n : Nat} {x1 : Nat} {r : St × List Vl}  (h : (∀ (σ3 : St), σ3 = (wR σ (n + 111) 0 (some x1)) → (∀ (q12 : Nat) (σ9 : St) (f10 : FI) (g11 : FL), q12 = nx σ3 → σ9 = (mk σ3 14 2 2) → f10 = up1 f q12 (fun _ => 0) → g11 = up1 g q12 (fun _ => 0) → (∀ (σ15 : St), σ15 = (wR σ9 (n + 111) 1 (some q12)) → (∀ (q24 : Nat) (σ21 : St) (f22 : FI) (g23 : FL), q24 = nx σ15 → σ21 = (mk σ15 15 512 512) → f22 = up1 f10 q24 (fun _ => 0) → g23 = up1 g11 q24 (fun _ => 0) → (∀ (σ27 : St), σ27 = (wR σ21 (n + 111) 4 (some q24)) → (∀ (q36 : Nat) (σ33 : St) (f34 : FI) (g35 : FL), q36 = nx σ27 → σ33 = (mk σ27 14 64 64) → f34 = up1 f22 q36 (fun _ => 0) → g35 = up1 g23 q36 (fun _ => 0) → (∀ (σ39 : St), σ39 = (wR σ33 (n + 111) 6 (some q36)) → (r = ((il σ39 f34 g35), [])))))))))) : Ex mt 0 86 (il σ f g) [vR 6 (some (n + 111)), vR 3 (some x1)] r := Ex.mk mt_86 (show Gx mt 0 cd_X6_init (il σ f g) b_X6_init_0 [some (vR 6 (some (n + 111))), some (vR 3 (some x1))] [] r from (go_loadA rfl (go_oinit rfl (go_loadA rfl (go_loadA rfl (gi_putR (Gx.letS (fun σ3 e2 => have h1 := h σ3 e2; (go_loadA rfl (go_pushI rfl (gi_newa ⟨by decide, by decide⟩ (Gx.letM (fun q12 σ9 f10 g11 e5 e6 e7 e8 => have h4 := h1 q12 σ9 f10 g11 e5 e6 e7 e8; (gi_putR (Gx.letS (fun σ15 e14 => have h13 := h4 σ15 e14; (go_loadA rfl (go_pushI rfl (gi_newa ⟨by decide, by decide⟩ (Gx.letM (fun q24 σ21 f22 g23 e17 e18 e19 e20 => have h16 := h13 q24 σ21 f22 g23 e17 e18 e19 e20; (gi_putR (Gx.letS (fun σ27 e26 => have h25 := h16 σ27 e26; (go_loadA rfl (go_pushI rfl (gi_newa ⟨by decide, by decide⟩ (Gx.letM (fun q36 σ33 f34 g35 e29 e30 e31 e32 => have h28 := h25 q36 σ33 f34 g35 e29 e30 e31 e32; (gi_putR (Gx.letS (fun σ39 e38 => have h37 := h28 σ39 e38; (h37 ▸ gq_retV)))))))))))))))))))))))))))))))))
theorem bk_X5_init_0 {σ : St} {f : FI} {g : FL} {n : Nat} {x1 : Nat} {r : St × List Vl}  (h : (∀ (σ3 : St), σ3 = (wR σ (n + 101) 0 (some x1)) → (∀ (q12 : Nat) (σ9 : St) (f10 : FI) (g11 : FL), q12 = nx σ3 → σ9 = (mk σ3 14 8 8) → f10 = up1 f q12 (fun _ => 0) → g11 = up1 g q12 (fun _ => 0) → (∀ (σ15 : St), σ15 = (wR σ9 (n + 101) 1 (some q12)) → (∃ q16, gR σ15 (n + 101) 1 = some q16 ∧ (∃ (f18 : FI) (g19 : FL), Ex mt 0 315 (il σ15 f10 g11) [vR 14 (some q16), vI (-1)] ((il σ15 f18 g19), []) ∧ (∀ (q29 : Nat) (σ26 : St) (f27 : FI) (g28 : FL), q29 = nx σ15 → σ26 = (mk σ15 14 8 8) → f27 = up1 f18 q29 (fun _ => 0) → g28 = up1 g19 q29 (fun _ => 0) → (∀ (σ32 : St), σ32 = (wR σ26 (n + 101) 2 (some q29)) → (∀ (q41 : Nat) (σ38 : St) (f39 : FI) (g40 : FL), q41 = nx σ32 → σ38 = (mk σ32 14 8 8) → f39 = up1 (up2 f27 (n + 101) 3 (-1)) q41 (fun _ => 0) → g40 = up1 g28 q41 (fun _ => 0) → (∀ (σ44 : St), σ44 = (wR σ38 (n + 101) 4 (some q41)) → (∀ (q53 : Nat) (σ50 : St) (f51 : FI) (g52 : FL), q53 = nx σ44 → σ50 = (mk σ44 14 256 256) → f51 = up1 f39 q53 (fun _ => 0) → g52 = up1 g40 q53 (fun _ => 0) → (∀ (σ56 : St), σ56 = (wR σ50 (n + 101) 5 (some q53)) → (∀ (q65 : Nat) (σ62 : St) (f63 : FI) (g64 : FL), q65 = nx σ56 → σ62 = (mk σ56 14 512 512) → f63 = up1 f51 q65 (fun _ => 0) → g64 = up1 g52 q65 (fun _ => 0) → (∀ (σ68 : St), σ68 = (wR σ62 (n + 101) 6 (some q65)) → (∀ (q77 : Nat) (σ74 : St) (f75 : FI) (g76 : FL), q77 = nx σ68 → σ74 = (mk σ68 14 512 512) → f75 = up1 f63 q77 (fun _ => 0) → g76 = up1 g64 q77 (fun _ => 0) → (∀ (σ80 : St), σ80 = (wR σ74 (n + 101) 7 (some q77)) → (∀ (q89 : Nat) (σ86 : St) (f87 : FI) (g88 : FL), q89 = nx σ80 → σ86 = (mk σ80 14 1024 1024) → f87 = up1 f75 q89 (fun _ => 0) → g88 = up1 g76 q89 (fun _ => 0) → (∀ (σ92 : St), σ92 = (wR σ86 (n + 101) 8 (some q89)) → (∀ (q101 : Nat) (σ98 : St) (f99 : FI) (g100 : FL), q101 = nx σ92 → σ98 = (mk σ92 14 1024 1024) → f99 = up1 f87 q101 (fun _ => 0) → g100 = up1 g88 q101 (fun _ => 0) → (∀ (σ104 : St), σ104 = (wR σ98 (n + 101) 9 (some q101)) → (∀ (q113 : Nat) (σ110 : St) (f111 : FI) (g112 : FL), q113 = nx σ104 → σ110 = (mk σ104 14 1024 1024) → f111 = up1 f99 q113 (fun _ => 0) → g112 = up1 g100 q113 (fun _ => 0) → (∀ (σ116 : St), σ116 = (wR σ110 (n + 101) 10 (some q113)) → (r = ((il σ116 f111 g112), [])))))))))))))))))))))))) : Ex mt 1 72 (il σ f g) [vR 5 (some (n + 101)), vR 3 (some x1)] r := Ex.mk mt_72 (show Gx mt 1 cd_X5_init (il σ f g) b_X5_init_0 [some (vR 5 (some (n + 101))), some (vR 3 (some x1))] [] r from (go_loadA rfl (go_oinit rfl (go_loadA rfl (go_loadA rfl (gi_putR (Gx.letS (fun σ3 e2 => have h1 := h σ3 e2; (go_loadA rfl (go_pushI rfl (gi_newa ⟨by decide, by decide⟩ (Gx.letM (fun q12 σ9 f10 g11 e5 e6 e7 e8 => have h4 := h1 q12 σ9 f10 g11 e5 e6 e7 e8; (gi_putR (Gx.letS (fun σ15 e14 => have h13 := h4 σ15 e14; (go_loadA rfl (Exists.elim h13 fun q16 h17 => (gi_getR h17.1 (go_pushI rfl (Exists.elim h17.2 fun f18 w117 => Exists.elim w117 fun g19 h20 => (go_callS rfl rfl rfl h20.1 (go_loadA rfl (go_pushI rfl (gi_newa ⟨by decide, by decide⟩ (Gx.letM (fun q29 σ26 f27 g28 e22 e23 e24 e25 => have h21 := h20.2 q29 σ26 f27 g28 e22 e23 e24 e25; (gi_putR (Gx.letS (fun σ32 e31 => have h30 := h21 σ32 e31; (go_loadA rfl (go_pushI rfl (gi_putI (go_loadA rfl (go_pushI rfl (gi_newa ⟨by decide, by decide⟩ (Gx.letM (fun q41 σ38 f39 g40 e34 e35 e36 e37 => have h33 := h30 q41 σ38 f39 g40 e34 e35 e36 e37; (gi_putR (Gx.letS (fun σ44 e43 => have h42 := h33 σ44 e43; (go_loadA rfl (go_pushI rfl (gi_newa ⟨by decide, by decide⟩ (Gx.letM (fun q53 σ50 f51 g52 e46 e47 e48 e49 => have h45 := h42 q53 σ50 f51 g52 e46 e47 e48 e49; (gi_putR (Gx.letS (fun σ56 e55 => have h54 := h45 σ56 e55; (go_loadA rfl (go_pushI rfl (gi_newa ⟨by decide, by decide⟩ (Gx.letM (fun q65 σ62 f63 g64 e58 e59 e60 e61 => have h57 := h54 q65 σ62 f63 g64 e58 e59 e60 e61; (gi_putR (Gx.letS (fun σ68 e67 => have h66 := h57 σ68 e67; (go_loadA rfl (go_pushI rfl (gi_newa ⟨by decide, by decide⟩ (Gx.letM (fun q77 σ74 f75 g76 e70 e71 e72 e73 => have h69 := h66 q77 σ74 f75 g76 e70 e71 e72 e73; (gi_putR (Gx.letS (fun σ80 e79 => have h78 := h69 σ80 e79; (go_loadA rfl (go_pushI rfl (gi_newa ⟨by decide, by decide⟩ (Gx.letM (fun q89 σ86 f87 g88 e82 e83 e84 e85 => have h81 := h78 q89 σ86 f87 g88 e82 e83 e84 e85; (gi_putR (Gx.letS (fun σ92 e91 => have h90 := h81 σ92 e91; (go_loadA rfl (go_pushI rfl (gi_newa ⟨by decide, by decide⟩ (Gx.letM (fun q101 σ98 f99 g100 e94 e95 e96 e97 => have h93 := h90 q101 σ98 f99 g100 e94 e95 e96 e97; (gi_putR (Gx.letS (fun σ104 e103 => have h102 := h93 σ104 e103; (go_loadA rfl (go_pushI rfl (gi_newa ⟨by decide, by decide⟩ (Gx.letM (fun q113 σ110 f111 g112 e106 e107 e108 e109 => have h105 := h102 q113 σ110 f111 g112 e106 e107 e108 e109; (gi_putR (Gx.letS (fun σ116 e115 => have h114 := h105 σ116 e115; (h114 ▸ gq_retV))))))))))))))))))))))))))))))))))))))))))))))))))))))))))))))))))))))))))))))))))))))))))
theorem bk_X8_init_0 {σ : St} {f : FI} {g : FL} {a : Nat} {r : St × List Vl}  (h : (∀ (q9 : Nat) (σ6 : St) (f7 : FI) (g8 : FL), q9 = nx σ → σ6 = (mk σ 14 200 200) → f7 = up1 f q9 (fun _ => 0) → g8 = up1 g q9 (fun _ => 0) → (∀ (σ12 : St), σ12 = (wR σ6 a 0 (some q9)) → (∀ (q21 : Nat) (σ18 : St) (f19 : FI) (g20 : FL), q21 = nx σ12 → σ18 = (mk σ12 9 0 4) → f19 = up1 f7 q21 (fun _ => 0) → g20 = up1 g8 q21 (fun _ => 0) → (∃ (σ25 : St) (f22 : FI) (g23 : FL), Ex mt 0 127 (il σ18 f19 g20) [vR 9 (some q21), vI 200] ((il σ25 f22 g23), []) ∧ (∀ (σ28 : St), σ28 = (wR σ25 a 2 (some q21)) → (∀ (q37 : Nat) (σ34 : St) (f35 : FI) (g36 : FL), q37 = nx σ28 → σ34 = (mk σ28 14 200 200) → f35 = up1 f22 q37 (fun _ => 0) → g36 = up1 g23 q37 (fun _ => 0) → (∀ (σ40 : St), σ40 = (wR σ34 a 3 (some q37)) → (r = ((il σ40 f35 g36), [])))))))))) : Ex mt 1 113 (il σ f g) [vR 8 (some a)] r := Ex.mk mt_113 (show Gx mt 1 cd_X8_init (il σ f g) b_X8_init_0 [some (vR 8 (some a))] [] r from (go_loadA rfl (go_oinit rfl (go_loadA rfl (go_pushI rfl (gi_newa ⟨by decide, by decide⟩ (Gx.letM (fun q9 σ6 f7 g8 e2 e3 e4 e5 => have h1 := h q9 σ6 f7 g8 e2 e3 e4 e5; (gi_putR (Gx.letS (fun σ12 e11 => have h10 := h1 σ12 e11; (go_loadA rfl (gi_new (Gx.letM (fun q21 σ18 f19 g20 e14 e15 e16 e17 => have h13 := h10 q21 σ18 f19 g20 e14 e15 e16 e17; (go_dupA (go_pushI rfl (Exists.elim h13 fun σ25 w41 => Exists.elim w41 fun f22 w42 => Exists.elim w42 fun g23 h24 => (go_callV rfl rfl rfl h24.1 (gi_putR (Gx.letS (fun σ28 e27 => have h26 := h24.2 σ28 e27; (go_loadA rfl (go_pushI rfl (gi_newa ⟨by decide, by decide⟩ (Gx.letM (fun q37 σ34 f35 g36 e30 e31 e32 e33 => have h29 := h26 q37 σ34 f35 g36 e30 e31 e32 e33; (gi_putR (Gx.letS (fun σ40 e39 => have h38 := h29 σ40 e39; (h38 ▸ gq_retV)))))))))))))))))))))))))))))))
theorem bk_X4_init_0 {σ : St} {f : FI} {g : FL} {b : Nat} {r : St × List Vl}  (h : (∀ (q9 : Nat) (σ6 : St) (f7 : FI) (g8 : FL), q9 = nx σ → σ6 = (mk σ 9 0 4) → f7 = up1 f q9 (fun _ => 0) → g8 = up1 g q9 (fun _ => 0) → (∃ (σ13 : St) (f10 : FI) (g11 : FL), Ex mt 0 127 (il σ6 f7 g8) [vR 9 (some q9), vI 200] ((il σ13 f10 g11), []) ∧ (∀ (σ16 : St), σ16 = (wR σ13 (b + 5) 0 (some q9)) → (∀ (q25 : Nat) (σ22 : St) (f23 : FI) (g24 : FL), q25 = nx σ16 → σ22 = (mk σ16 14 32 32) → f23 = up1 f10 q25 (fun _ => 0) → g24 = up1 g11 q25 (fun _ => 0) → (∀ (σ28 : St), σ28 = (wR σ22 (b + 5) 1 (some q25)) → (∀ (q37 : Nat) (σ34 : St) (f35 : FI) (g36 : FL), q37 = nx σ28 → σ34 = (mk σ28 14 32 32) → f35 = up1 f23 q37 (fun _ => 0) → g36 = up1 g24 q37 (fun _ => 0) → (∀ (σ40 : St), σ40 = (wR σ34 (b + 5) 2 (some q37)) → (∀ (q49 : Nat) (σ46 : St) (f47 : FI) (g48 : FL), q49 = nx σ40 → σ46 = (mk σ40 14 0 0) → f47 = up1 f35 q49 (fun _ => 0) → g48 = up1 g36 q49 (fun _ => 0) → (∀ (σ52 : St), σ52 = (wR σ46 (b + 5) 3 (some q49)) → (r = ((il σ52 f47 g48), [])))))))))))) : Ex mt 1 49 (il σ f g) [vR 4 (some (b + 5))] r := Ex.mk mt_49 (show Gx mt 1 cd_X4_init (il σ f g) b_X4_init_0 [some (vR 4 (some (b + 5)))] [] r from (go_loadA rfl (go_oinit rfl (go_loadA rfl (gi_new (Gx.letM (fun q9 σ6 f7 g8 e2 e3 e4 e5 => have h1 := h q9 σ6 f7 g8 e2 e3 e4 e5; (go_dupA (go_pushI rfl (Exists.elim h1 fun σ13 w53 => Exists.elim w53 fun f10 w54 => Exists.elim w54 fun g11 h12 => (go_callV rfl rfl rfl h12.1 (gi_putR (Gx.letS (fun σ16 e15 => have h14 := h12.2 σ16 e15; (go_loadA rfl (go_pushI rfl (gi_newa ⟨by decide, by decide⟩ (Gx.letM (fun q25 σ22 f23 g24 e18 e19 e20 e21 => have h17 := h14 q25 σ22 f23 g24 e18 e19 e20 e21; (gi_putR (Gx.letS (fun σ28 e27 => have h26 := h17 σ28 e27; (go_loadA rfl (go_pushI rfl (gi_newa ⟨by decide, by decide⟩ (Gx.letM (fun q37 σ34 f35 g36 e30 e31 e32 e33 => have h29 := h26 q37 σ34 f35 g36 e30 e31 e32 e33; (gi_putR (Gx.letS (fun σ40 e39 => have h38 := h29 σ40 e39; (go_loadA rfl (go_pushI rfl (gi_newa ⟨by decide, by decide⟩ (Gx.letM (fun q49 σ46 f47 g48 e42 e43 e44 e45 => have h41 := h38 q49 σ46 f47 g48 e42 e43 e44 e45; (gi_putR (Gx.letS (fun σ52 e51 => have h50 := h41 σ52 e51; (h50 ▸ gq_retV)))))))))))))))))))))))))))))))))))))))
def A_X3_init_15 (σ : St) (f : FI) (g : FL) (a : Nat) (x1 : Int) (r : St × List Vl) : Prop := Gx mt 2 cd_X3_init (il σ f g) (cd_X3_init 15) [some (vR 3 (some a)), some (vI x1)] [] r
theorem bk_X3_init_0 {σ : St} {f : FI} {g : FL} {a : Nat} {r : St × List Vl}  (h : (∀ (q9 : Nat) (σ6 : St) (f7 : FI) (g8 : FL), q9 = nx σ → σ6 = (mk σ 17 16 16) → f7 = up1 f q9 (fun _ => 0) → g8 = up1 g q9 (fun _ => 0) → (∀ (σ12 : St), σ12 = (wR σ6 a 0 (some q9)) → (A_X3_init_15 σ12 f7 g8 a 0 r)))) : Ex mt 2 31 (il σ f g) [vR 3 (some a)] r := Ex.mk mt_31 (show Gx mt 2 cd_X3_init (il σ f g) b_X3_init_0 [some (vR 3 (some a)), none] [] r from (go_loadA rfl (go_oinit rfl (go_loadA rfl (go_pushI rfl (gi_anew ⟨by decide, by decide⟩ (Gx.letM (fun q9 σ6 f7 g8 e2 e3 e4 e5 => have h1 := h q9 σ6 f7 g8 e2 e3 e4 e5; (gi_putR (Gx.letS (fun σ12 e11 => have h10 := h1 σ12 e11; (go_pushI rfl (go_stoI rfl rfl (go_fall (h10)))))))))))))))
theorem bk_X3_init_15 {σ : St} {f : FI} {g : FL} {a : Nat} {x1 : Int} {r : St × List Vl}  (h : ((16 ≤ x1 → (∀ (q12 : Nat) (σ9 : St) (f10 : FI) (g11 : FL), q12 = nx σ → σ9 = (mk σ 14 512 512) → f10 = up1 (up2 f a 2 255) q12 (fun _ => 0) → g11 = up1 g q12 (fun _ => 0) → (∀ (σ15 : St), σ15 = (wR σ9 a 3 (some q12)) → (∀ (q24 : Nat) (σ21 : St) (f22 : FI) (g23 : FL), q24 = nx σ15 → σ21 = (mk σ15 15 8 8) → f22 = up1 f10 q24 (fun _ => 0) → g23 = up1 g11 q24 (fun _ => 0) → (∀ (σ27 : St), σ27 = (wR σ21 a 5 (some q24)) → (∀ (q36 : Nat) (σ33 : St) (f34 : FI) (g35 : FL), q36 = nx σ27 → σ33 = (mk σ27 14 512 512) → f34 = up1 f22 q36 (fun _ => 0) → g35 = up1 g23 q36 (fun _ => 0) → (∀ (σ39 : St), σ39 = (wR σ33 a 6 (some q36)) → (r = ((il σ39 f34 g35), []))))))))) ∧ (¬ 16 ≤ x1 → (∃ q40, gR σ a 0 = some q40 ∧ (∀ (q50 : Nat) (σ47 : St) (f48 : FI) (g49 : FL), q50 = nx σ → σ47 = (mk σ 7 0 6) → f48 = up1 f q50 (fun _ => 0) → g49 = up1 g q50 (fun _ => 0) → (∃ (σ54 : St) (f51 : FI) (g52 : FL), Ex mt 1 95 (il σ47 f48 g49) [vR 7 (some q50)] ((il σ54 f51 g52), []) ∧ ((0 ≤ x1 ∧ x1 < (ln σ54 q40 : Int))) ∧ (∀ (σ57 : St), σ57 = (wR σ54 q40 ((x1).toNat) (some q50)) → ((-2147483648 ≤ (x1 + 1) ∧ (x1 + 1) ≤ 2147483647)) ∧ (A_X3_init_15 σ57 f51 g52 a (x1 + 1) r)))))))) : A_X3_init_15 σ f g a x1 r := (show Gx mt 2 cd_X3_init (il σ f g) b_X3_init_15 [some (vR 3 (some a)), some (vI x1)] [] r from (go_loadI rfl (go_pushI rfl (gq_icmp_ge (fun e3 => have h1 := h.1 e3; (go_loadA rfl (go_pushI rfl (gi_putI (go_loadA rfl (go_pushI rfl (gi_newa ⟨by decide, by decide⟩ (Gx.letM (fun q12 σ9 f10 g11 e5 e6 e7 e8 => have h4 := h1 q12 σ9 f10 g11 e5 e6 e7 e8; (gi_putR (Gx.letS (fun σ15 e14 => have h13 := h4 σ15 e14; (go_loadA rfl (go_pushI rfl (gi_newa ⟨by decide, by decide⟩ (Gx.letM (fun q24 σ21 f22 g23 e17 e18 e19 e20 => have h16 := h13 q24 σ21 f22 g23 e17 e18 e19 e20; (gi_putR (Gx.letS (fun σ27 e26 => have h25 := h16 σ27 e26; (go_loadA rfl (go_pushI rfl (gi_newa ⟨by decide, by decide⟩ (Gx.letM (fun q36 σ33 f34 g35 e29 e30 e31 e32 => have h28 := h25 q36 σ33 f34 g35 e29 e30 e31 e32; (gi_putR (Gx.letS (fun σ39 e38 => have h37 := h28 σ39 e38; (h37 ▸ gq_retV))))))))))))))))))))))))))))) (fun e3 => have h2 := h.2 e3; (go_loadA rfl (Exists.elim h2 fun q40 h41 => (gi_getR h41.1 (go_loadI rfl (gi_new (Gx.letM (fun q50 σ47 f48 g49 e43 e44 e45 e46 => have h42 := h41.2 q50 σ47 f48 g49 e43 e44 e45 e46; (go_dupA (Exists.elim h42 fun σ54 w58 => Exists.elim w58 fun f51 w59 => Exists.elim w59 fun g52 h53 => (go_callV rfl rfl rfl h53.1 (gi_aast h53.2.1 (Gx.letS (fun σ57 e56 => have h55 := h53.2.2 σ57 e56; (go_iinc rfl h55.1 rfl (go_goto (h55.2)))))))))))))))))))))
theorem x_init0 {σ : St} {f : FI} {g : FL} {d : Nat} (hd : nx σ = d + 1) : ∃ (σ' : St) (f' : FI) (g' : FL), Ex mt 0 0 (il σ f g) [vR 0 (some d)] (il σ' f' g', []) ∧ Kp d σ σ' f f' g g' ∧ nx σ' = d + 3 ∧ sl σ' = sl σ + 32 ∧ Sh0 σ' d ∧ (f' d = f d ∧ g' d = g d) ∧ Zr (d + 1) (d + 3) f' g' := by
  have P1A0 := Alf.nil (σ := σ) (f := f) (g := g) (a := d) (b := d + 1) hd
  obtain ⟨q1, hq1⟩ : ∃ x, x = nx σ := ⟨_, rfl⟩
  obtain ⟨m1, hm1⟩ : ∃ x, x = mk σ 14 16 16 := ⟨_, rfl⟩
  obtain ⟨f1, hf1⟩ : ∃ x : FI, x = up1 f q1 (fun _ => 0) := ⟨_, rfl⟩
  obtain ⟨g1, hg1⟩ : ∃ x : FL, x = up1 g q1 (fun _ => 0) := ⟨_, rfl⟩
  obtain ⟨w1, hw1⟩ : ∃ x, x = wR m1 d 0 (some q1) := ⟨_, rfl⟩
  obtain ⟨A1, _⟩ := P1A0.add (by omega) (by decide +kernel) hq1 hm1 hf1 hg1 hw1
  obtain ⟨q2, hq2⟩ : ∃ x, x = nx w1 := ⟨_, rfl⟩
  obtain ⟨m2, hm2⟩ : ∃ x, x = mk w1 14 16 16 := ⟨_, rfl⟩
  obtain ⟨f2, hf2⟩ : ∃ x : FI, x = up1 f1 q2 (fun _ => 0) := ⟨_, rfl⟩
  obtain ⟨g2, hg2⟩ : ∃ x : FL, x = up1 g1 q2 (fun _ => 0) := ⟨_, rfl⟩
  obtain ⟨w2, hw2⟩ : ∃ x, x = wR m2 d 1 (some q2) := ⟨_, rfl⟩
  obtain ⟨A2, _⟩ := A1.add (by omega) (by decide +kernel) hq2 hm2 hf2 hg2 hw2
  have A : Alf σ f g d (d + 1) [(0, 16), (1, 16)] w2 f2 g2 := A2
  refine ⟨w2, f2, g2, bk_X0_init_0 ?_, A.kp (Nat.le_refl _) (by omega), A.1.2.1, A.1.2.2.1, ⟨(A.1.1 0 (by decide)).1, (A.1.1 0 (by decide)).2, (A.1.1 1 (by decide)).1, (A.1.1 1 (by decide)).2⟩, A.2.1 d (by omega), A.2.2⟩
  intro xq xm xf xg c1 c2 c3 c4 xw c5
  obtain rfl := c1.trans hq1.symm
  obtain rfl := c2.trans hm1.symm
  obtain rfl := c3.trans hf1.symm
  obtain rfl := c4.trans hg1.symm
  obtain rfl := c5.trans hw1.symm
  intro xq xm xf xg c1 c2 c3 c4 xw c5
  obtain rfl := c1.trans hq2.symm
  obtain rfl := c2.trans hm2.symm
  obtain rfl := c3.trans hf2.symm
  obtain rfl := c4.trans hg2.symm
  obtain rfl := c5.trans hw2.symm
  rfl
theorem x_init1 {σ : St} {f : FI} {g : FL} {d : Nat} (hd : nx σ = d + 1) : ∃ (σ' : St) (f' : FI) (g' : FL), Ex mt 0 7 (il σ f g) [vR 1 (some d)] (il σ' f' g', []) ∧ Kp d σ σ' f f' g g' ∧ nx σ' = d + 4 ∧ sl σ' = sl σ + 136 ∧ Sh1 σ' d ∧ (f' d = f d ∧ g' d = g d) ∧ Zr (d + 1) (d + 4) f' g' := by
  have P1A0 := Alf.nil (σ := σ) (f := f) (g := g) (a := d) (b := d + 1) hd
  obtain ⟨q1, hq1⟩ : ∃ x, x = nx σ := ⟨_, rfl⟩
  obtain ⟨m1, hm1⟩ : ∃ x, x = mk σ 14 8 8 := ⟨_, rfl⟩
  obtain ⟨f1, hf1⟩ : ∃ x : FI, x = up1 f q1 (fun _ => 0) := ⟨_, rfl⟩
  obtain ⟨g1, hg1⟩ : ∃ x : FL, x = up1 g q1 (fun _ => 0) := ⟨_, rfl⟩
  obtain ⟨w1, hw1⟩ : ∃ x, x = wR m1 d 0 (some q1) := ⟨_, rfl⟩
  obtain ⟨A1, _⟩ := P1A0.add (by omega) (by decide +kernel) hq1 hm1 hf1 hg1 hw1
  obtain ⟨q2, hq2⟩ : ∃ x, x = nx w1 := ⟨_, rfl⟩
  obtain ⟨m2, hm2⟩ : ∃ x, x = mk w1 14 64 64 := ⟨_, rfl⟩
  obtain ⟨f2, hf2⟩ : ∃ x : FI, x = up1 f1 q2 (fun _ => 0) := ⟨_, rfl⟩
  obtain ⟨g2, hg2⟩ : ∃ x : FL, x = up1 g1 q2 (fun _ => 0) := ⟨_, rfl⟩
  obtain ⟨w2, hw2⟩ : ∃ x, x = wR m2 d 3 (some q2) := ⟨_, rfl⟩
  obtain ⟨A2, _⟩ := A1.add (by omega) (by decide +kernel) hq2 hm2 hf2 hg2 hw2
  obtain ⟨q3, hq3⟩ : ∃ x, x = nx w2 := ⟨_, rfl⟩
  obtain ⟨m3, hm3⟩ : ∃ x, x = mk w2 14 64 64 := ⟨_, rfl⟩
  obtain ⟨f3, hf3⟩ : ∃ x : FI, x = up1 f2 q3 (fun _ => 0) := ⟨_, rfl⟩
  obtain ⟨g3, hg3⟩ : ∃ x : FL, x = up1 g2 q3 (fun _ => 0) := ⟨_, rfl⟩
  obtain ⟨w3, hw3⟩ : ∃ x, x = wR m3 d 4 (some q3) := ⟨_, rfl⟩
  obtain ⟨A3, _⟩ := A2.add (by omega) (by decide +kernel) hq3 hm3 hf3 hg3 hw3
  have A : Alf σ f g d (d + 1) [(0, 8), (3, 64), (4, 64)] w3 f3 g3 := A3
  refine ⟨w3, f3, g3, bk_X1_init_0 ?_, A.kp (Nat.le_refl _) (by omega), A.1.2.1, A.1.2.2.1, ⟨(A.1.1 0 (by decide)).1, (A.1.1 0 (by decide)).2, (A.1.1 1 (by decide)).1, (A.1.1 1 (by decide)).2, (A.1.1 2 (by decide)).1, (A.1.1 2 (by decide)).2⟩, A.2.1 d (by omega), A.2.2⟩
  intro xq xm xf xg c1 c2 c3 c4 xw c5
  obtain rfl := c1.trans hq1.symm
  obtain rfl := c2.trans hm1.symm
  obtain rfl := c3.trans hf1.symm
  obtain rfl := c4.trans hg1.symm
  obtain rfl := c5.trans hw1.symm
  intro xq xm xf xg c1 c2 c3 c4 xw c5
  obtain rfl := c1.trans hq2.symm
  obtain rfl := c2.trans hm2.symm
  obtain rfl := c3.trans hf2.symm
  obtain rfl := c4.trans hg2.symm
  obtain rfl := c5.trans hw2.symm
  intro xq xm xf xg c1 c2 c3 c4 xw c5
  obtain rfl := c1.trans hq3.symm
  obtain rfl := c2.trans hm3.symm
  obtain rfl := c3.trans hf3.symm
  obtain rfl := c4.trans hg3.symm
  obtain rfl := c5.trans hw3.symm
  rfl
theorem x_init6 {σ : St} {f : FI} {g : FL} {n x1 : Nat} (hd : nx σ = n + 111 + 1) : ∃ (σ' : St) (f' : FI) (g' : FL), Ex mt 0 86 (il σ f g) [vR 6 (some (n + 111)), vR 3 (some x1)] (il σ' f' g', []) ∧ Kp (n + 111) σ σ' f f' g g' ∧ nx σ' = n + 115 ∧ sl σ' = sl σ + 578 ∧ (gR σ' (n + 111) 0 = some x1 ∧ gR σ' (n + 111) 1 = some (n + 112) ∧ ln σ' (n + 112) = 2 ∧ gR σ' (n + 111) 4 = some (n + 113) ∧ ln σ' (n + 113) = 512 ∧ gR σ' (n + 111) 6 = some (n + 114) ∧ ln σ' (n + 114) = 64) ∧ (f' (n + 111) = f (n + 111) ∧ g' (n + 111) = g (n + 111)) ∧ Zr (n + 112) (n + 115) f' g' := by
  obtain ⟨w0, hw0⟩ : ∃ x, x = wR σ (n + 111) 0 (some x1) := ⟨_, rfl⟩
  have hd0 : nx w0 = n + 111 + 1 := by rw [hw0]; exact hd
  have P1A0 := Alf.nil (σ := w0) (f := f) (g := g) (a := (n + 111)) (b := n + 111 + 1) hd0
  obtain ⟨q1, hq1⟩ : ∃ x, x = nx w0 := ⟨_, rfl⟩
  obtain ⟨m1, hm1⟩ : ∃ x, x = mk w0 14 2 2 := ⟨_, rfl⟩
  obtain ⟨f1, hf1⟩ : ∃ x : FI, x = up1 f q1 (fun _ => 0) := ⟨_, rfl⟩
  obtain ⟨g1, hg1⟩ : ∃ x : FL, x = up1 g q1 (fun _ => 0) := ⟨_, rfl⟩
  obtain ⟨w1, hw1⟩ : ∃ x, x = wR m1 (n + 111) 1 (some q1) := ⟨_, rfl⟩
  obtain ⟨A1, _⟩ := P1A0.add (by omega) (by decide +kernel) hq1 hm1 hf1 hg1 hw1
  obtain ⟨q2, hq2⟩ : ∃ x, x = nx w1 := ⟨_, rfl⟩
  obtain ⟨m2, hm2⟩ : ∃ x, x = mk w1 15 512 512 := ⟨_, rfl⟩
  obtain ⟨f2, hf2⟩ : ∃ x : FI, x = up1 f1 q2 (fun _ => 0) := ⟨_, rfl⟩
  obtain ⟨g2, hg2⟩ : ∃ x : FL, x = up1 g1 q2 (fun _ => 0) := ⟨_, rfl⟩
  obtain ⟨w2, hw2⟩ : ∃ x, x = wR m2 (n + 111) 4 (some q2) := ⟨_, rfl⟩
  obtain ⟨A2, _⟩ := A1.add (by omega) (by decide +kernel) hq2 hm2 hf2 hg2 hw2
  obtain ⟨q3, hq3⟩ : ∃ x, x = nx w2 := ⟨_, rfl⟩
  obtain ⟨m3, hm3⟩ : ∃ x, x = mk w2 14 64 64 := ⟨_, rfl⟩
  obtain ⟨f3, hf3⟩ : ∃ x : FI, x = up1 f2 q3 (fun _ => 0) := ⟨_, rfl⟩
  obtain ⟨g3, hg3⟩ : ∃ x : FL, x = up1 g2 q3 (fun _ => 0) := ⟨_, rfl⟩
  obtain ⟨w3, hw3⟩ : ∃ x, x = wR m3 (n + 111) 6 (some q3) := ⟨_, rfl⟩
  obtain ⟨A3, _⟩ := A2.add (by omega) (by decide +kernel) hq3 hm3 hf3 hg3 hw3
  have A : Alf w0 f g ((n + 111)) (n + 111 + 1) [(1, 2), (4, 512), (6, 64)] w3 f3 g3 := A3
  refine ⟨w3, f3, g3, bk_X6_init_0 ?_, (by rw [hw0] at A; exact (Kp.wR (Nat.le_refl _)).trans (A.kp (Nat.le_refl _) (by omega))), A.1.2.1, (by have := A.1.2.2.1; rw [hw0, wR_sl] at this; exact this), ⟨?_, (A.1.1 0 (by decide)).1, (A.1.1 0 (by decide)).2, (A.1.1 1 (by decide)).1, (A.1.1 1 (by decide)).2, (A.1.1 2 (by decide)).1, (A.1.1 2 (by decide)).2⟩, A.2.1 _ (by omega), A.2.2⟩
  · intro x0 c0
    obtain rfl := c0.trans hw0.symm
    intro xq xm xf xg c1 c2 c3 c4 xw c5
    obtain rfl := c1.trans hq1.symm
    obtain rfl := c2.trans hm1.symm
    obtain rfl := c3.trans hf1.symm
    obtain rfl := c4.trans hg1.symm
    obtain rfl := c5.trans hw1.symm
    intro xq xm xf xg c1 c2 c3 c4 xw c5
    obtain rfl := c1.trans hq2.symm
    obtain rfl := c2.trans hm2.symm
    obtain rfl := c3.trans hf2.symm
    obtain rfl := c4.trans hg2.symm
    obtain rfl := c5.trans hw2.symm
    intro xq xm xf xg c1 c2 c3 c4 xw c5
    obtain rfl := c1.trans hq3.symm
    obtain rfl := c2.trans hm3.symm
    obtain rfl := c3.trans hf3.symm
    obtain rfl := c4.trans hg3.symm
    obtain rfl := c5.trans hw3.symm
    rfl
  · rw [A.1.2.2.2.2 0 (by decide), hw0, wR_gR, if_pos ⟨rfl, rfl⟩]
theorem mkN_at (σ : St) : ∀ n, (∀ c, c < nx σ → (ln (mkN σ n) c = ln σ c ∧ tg (mkN σ n) c = tg σ c ∧ gR (mkN σ n) c = gR σ c) ∧ gI (mkN σ n) c = gI σ c ∧ gL (mkN σ n) c = gL σ c) ∧ ∀ c, nx σ ≤ c → c < nx σ + n → ln (mkN σ n) c = 0 ∧ (∀ k, gI (mkN σ n) c k = 0) ∧ ∀ k, gL (mkN σ n) c k = 0
  | 0 => ⟨fun _ _ => ⟨⟨rfl, rfl, rfl⟩, rfl, rfl⟩, fun c h1 h2 => by omega⟩
  | n + 1 => by
    obtain ⟨a, b⟩ := mkN_at σ n
    have e := mkN_nx σ n
    refine ⟨fun c hc => ?_, fun c h1 h2 => ?_⟩
    · show (up1 (ln (mkN σ n)) (nx (mkN σ n)) 0 c = ln σ c ∧ up1 (tg (mkN σ n)) (nx (mkN σ n)) 15 c = tg σ c ∧ up1 (gR (mkN σ n)) (nx (mkN σ n)) (fun _ => none) c = gR σ c) ∧ up1 (gI (mkN σ n)) (nx (mkN σ n)) (fun _ => 0) c = gI σ c ∧ up1 (gL (mkN σ n)) (nx (mkN σ n)) (fun _ => 0) c = gL σ c
      rw [up1_ne (by omega), up1_ne (by omega), up1_ne (by omega), up1_ne (by omega), up1_ne (by omega)]
      exact a c hc
    · show up1 (ln (mkN σ n)) (nx (mkN σ n)) 0 c = 0 ∧ (∀ k, up1 (gI (mkN σ n)) (nx (mkN σ n)) (fun _ => 0) c k = 0) ∧ ∀ k, up1 (gL (mkN σ n)) (nx (mkN σ n)) (fun _ => 0) c k = 0
      by_cases z : c = nx (mkN σ n)
      · rw [z, up1_at, up1_at, up1_at]
        exact ⟨rfl, fun _ => rfl, fun _ => rfl⟩
      · rw [up1_ne z, up1_ne z, up1_ne z]
        exact b c h1 (by omega)
theorem mkX_at (σ : St) (n : Nat) : (∀ c, c < nx σ → (ln (mkX σ n) c = ln σ c ∧ tg (mkX σ n) c = tg σ c ∧ gR (mkX σ n) c = gR σ c) ∧ gI (mkX σ n) c = gI σ c ∧ gL (mkX σ n) c = gL σ c) ∧ (∀ c, nx σ < c → c < nx σ + 1 + n → ln (mkX σ n) c = 0 ∧ (∀ k, gI (mkX σ n) c k = 0) ∧ ∀ k, gL (mkX σ n) c k = 0) ∧ ln (mkX σ n) (nx σ) = n ∧ (∀ k, gI (mkX σ n) (nx σ) k = 0) ∧ (∀ k, gL (mkX σ n) (nx σ) k = 0) ∧ ∀ k, k < n → gR (mkX σ n) (nx σ) k = some (nx σ + 1 + k) := by
  obtain ⟨a, b⟩ := mkN_at (mk σ 19 n n) n
  rw [mk_nx] at a b
  refine ⟨fun c hc => ?_, fun c h1 h2 => b c (by omega) h2, ?_, fun k => ?_, fun k => ?_, fun k hk => ?_⟩
  · obtain ⟨⟨a1, a2, a3⟩, a4, a5⟩ := a c (by omega)
    refine ⟨⟨?_, ?_, ?_⟩, ?_, ?_⟩
    · show ln (mkN (mk σ 19 n n) n) c = ln σ c
      rw [a1, mk_ln, if_neg (by omega)]
    · show tg (mkN (mk σ 19 n n) n) c = tg σ c
      rw [a2, mk_tg, if_neg (by omega)]
    · show up1 (gR (mkN (mk σ 19 n n) n)) (nx σ) _ c = gR σ c
      rw [up1_ne (by omega), a3]
      exact up1_ne (by omega)
    · show gI (mkN (mk σ 19 n n) n) c = gI σ c
      rw [a4]
      exact up1_ne (by omega)
    · show gL (mkN (mk σ 19 n n) n) c = gL σ c
      rw [a5]
      exact up1_ne (by omega)
  · obtain ⟨⟨a1, a2, a3⟩, a4, a5⟩ := a (nx σ) (by omega)
    show ln (mkN (mk σ 19 n n) n) (nx σ) = n
    rw [a1, mk_ln, if_pos rfl]
  · obtain ⟨⟨a1, a2, a3⟩, a4, a5⟩ := a (nx σ) (by omega)
    show gI (mkN (mk σ 19 n n) n) (nx σ) k = 0
    rw [a4]
    exact congrFun (up1_at (f := gI σ)) k
  · obtain ⟨⟨a1, a2, a3⟩, a4, a5⟩ := a (nx σ) (by omega)
    show gL (mkN (mk σ 19 n n) n) (nx σ) k = 0
    rw [a5]
    exact congrFun (up1_at (f := gL σ)) k
  · show up1 (gR (mkN (mk σ 19 n n) n)) (nx σ) (fun k => if k < n then some (nx σ + 1 + k) else none) (nx σ) k = some (nx σ + 1 + k)
    rw [up1_at, if_pos hk]
theorem x_init2 {σ : St} {f : FI} {g : FL} {d : Nat} (hd : nx σ = d + 1) : ∃ (σ' : St) (f' : FI) (g' : FL), Ex mt 0 17 (il σ f g) [vR 2 (some d)] (il σ' f' g', []) ∧ Kp d σ σ' f f' g g' ∧ nx σ' = d + 23 ∧ sl σ' = sl σ + 28 ∧ (Sh2 σ' d ∧ ∀ k, k < 20 → gR σ' (d + 1) k = some (d + 2 + k) ∧ ln σ' (d + 2 + k) = 0) ∧ (f' d = f d ∧ g' d = g d) ∧ Zr (d + 1) (d + 23) f' g' := by
  obtain ⟨σx, hσx⟩ : ∃ x, x = mkM (il σ f g) := ⟨_, rfl⟩
  have fx := mkX_at (il σ f g) 20
  have nxx : nx σx = d + 22 := by rw [hσx, mkM_nx]; show nx σ + 1 + 20 = d + 22; omega
  obtain ⟨w0, hw0⟩ : ∃ x, x = wR σx d 0 (some (nx σ)) := ⟨_, rfl⟩
  have hd0 : nx w0 = d + 22 := by rw [hw0]; exact nxx
  have P1A0 := Alf.nil (σ := w0) (f := (gI σx)) (g := (gL σx)) (a := d) (b := d + 22) hd0
  obtain ⟨q1, hq1⟩ : ∃ x, x = nx w0 := ⟨_, rfl⟩
  obtain ⟨m1, hm1⟩ : ∃ x, x = mk w0 15 8 8 := ⟨_, rfl⟩
  obtain ⟨f1, hf1⟩ : ∃ x : FI, x = up1 (gI σx) q1 (fun _ => 0) := ⟨_, rfl⟩
  obtain ⟨g1, hg1⟩ : ∃ x : FL, x = up1 (gL σx) q1 (fun _ => 0) := ⟨_, rfl⟩
  obtain ⟨w1, hw1⟩ : ∃ x, x = wR m1 d 1 (some q1) := ⟨_, rfl⟩
  obtain ⟨A1, _⟩ := P1A0.add (by omega) (by decide +kernel) hq1 hm1 hf1 hg1 hw1
  have A : Alf w0 (gI σx) (gL σx) d (d + 22) [(1, 8)] w1 f1 g1 := A1
  obtain ⟨x1, x2, x3, x4, x5, x6⟩ := fx
  have en : nx (il σ f g) = d + 1 := hd
  rw [en] at x1 x2 x3 x4 x5 x6
  have x0 : mkX (il σ f g) 20 = σx := hσx.symm
  rw [x0] at x1 x2 x3 x4 x5 x6
  have k0 : Kp d σ w0 f (gI σx) g (gL σx) := fun c hc => by
    obtain ⟨⟨a1, a2, a3⟩, a4, a5⟩ := x1 c (by omega)
    refine ⟨⟨by rw [hw0, wR_ln]; exact a1, by rw [hw0, wR_tg]; exact a2, fun k => ?_⟩, a4, a5⟩
    rw [hw0, wR_gR, if_neg (by omega), a3]
    rfl
  have key : ∀ c, c < d + 22 → ln w1 c = ln σx c := fun c hc => by rw [(A.1.2.2.2.1 c hc).1, hw0, wR_ln]
  refine ⟨w1, f1, g1, bk_X2_init_0 ?_, k0.trans (A.kp (Nat.le_refl _) (by omega)), A.1.2.1, ?_, ⟨⟨?_, ?_, (A.1.1 0 (by decide)).1, (A.1.1 0 (by decide)).2⟩, fun k hk => ⟨?_, ?_⟩⟩, ?_, fun c h1 h2 => ?_⟩
  · rw [← hσx]
    intro x0 c0
    obtain rfl := c0.trans hw0.symm
    intro xq xm xf xg c1 c2 c3 c4 xw c5
    obtain rfl := c1.trans hq1.symm
    obtain rfl := c2.trans hm1.symm
    obtain rfl := c3.trans hf1.symm
    obtain rfl := c4.trans hg1.symm
    obtain rfl := c5.trans hw1.symm
    rfl
  · have := A.1.2.2.1
    rw [hw0, wR_sl, hσx, mkM_sl] at this
    rw [this]
    show sl σ + 20 + 8 = sl σ + 28
    omega
  · rw [A.1.2.2.2.2 0 (by decide), hw0, wR_gR, if_pos ⟨rfl, rfl⟩, hd]
  · rw [key _ (by omega)]
    exact x3
  · rw [(A.1.2.2.2.1 _ (by omega)).2.2 (by omega) k, hw0, wR_gR, if_neg (by omega), x6 k hk]
  · rw [key _ (by omega)]
    exact (x2 _ (by omega) (by omega)).1
  · rw [(A.2.1 d (by omega)).1, (A.2.1 d (by omega)).2]
    exact (x1 d (by omega)).2
  · by_cases z : c < d + 22
    · rw [(A.2.1 c z).1, (A.2.1 c z).2]
      by_cases y : c = d + 1
      · rw [y]
        exact ⟨x4, x5⟩
      · exact (x2 c (by omega) (by omega)).2
    · exact A.2.2 c (by omega) h2
theorem x_init5 {σ : St} {f : FI} {g : FL} {n x1 : Nat} (hd : nx σ = n + 101 + 1) : ∃ (σ' : St) (f' : FI) (g' : FL), Ex mt 1 72 (il σ f g) [vR 5 (some (n + 101)), vR 3 (some x1)] (il σ' f' g', []) ∧ Kp (n + 101) σ σ' f f' g g' ∧ nx σ' = n + 111 ∧ sl σ' = sl σ + 4376 ∧ ((gR σ' (n + 101) 0 = some x1 ∧ gR σ' (n + 101) 1 = some (n + 102) ∧ ln σ' (n + 102) = 8 ∧ gR σ' (n + 101) 2 = some (n + 103) ∧ ln σ' (n + 103) = 8) ∧ gR σ' (n + 101) 4 = some (n + 104) ∧ ln σ' (n + 104) = 8 ∧ gR σ' (n + 101) 5 = some (n + 105) ∧ ln σ' (n + 105) = 256 ∧ gR σ' (n + 101) 6 = some (n + 106) ∧ ln σ' (n + 106) = 512 ∧ gR σ' (n + 101) 7 = some (n + 107) ∧ ln σ' (n + 107) = 512 ∧ gR σ' (n + 101) 8 = some (n + 108) ∧ ln σ' (n + 108) = 1024 ∧ gR σ' (n + 101) 9 = some (n + 109) ∧ gR σ' (n + 101) 10 = some (n + 110) ∧ ln σ' (n + 109) = 1024 ∧ ln σ' (n + 110) = 1024) ∧ (∀ k, f' (n + 101) k = if k = 3 then -1 else f (n + 101) k) ∧ (∀ k, f' (n + 102) k = if k < 8 then -1 else 0) ∧ Zr (n + 103) (n + 111) f' g' ∧ g' (n + 101) = g (n + 101) := by
  obtain ⟨w0, hw0⟩ : ∃ x, x = wR σ (n + 101) 0 (some x1) := ⟨_, rfl⟩
  have hd0 : nx w0 = n + 101 + 1 := by rw [hw0]; exact hd
  have P1A0 := Alf.nil (σ := w0) (f := f) (g := g) (a := (n + 101)) (b := n + 101 + 1) hd0
  obtain ⟨q1, hq1⟩ : ∃ x, x = nx w0 := ⟨_, rfl⟩
  obtain ⟨m1, hm1⟩ : ∃ x, x = mk w0 14 8 8 := ⟨_, rfl⟩
  obtain ⟨f1, hf1⟩ : ∃ x : FI, x = up1 f q1 (fun _ => 0) := ⟨_, rfl⟩
  obtain ⟨g1, hg1⟩ : ∃ x : FL, x = up1 g q1 (fun _ => 0) := ⟨_, rfl⟩
  obtain ⟨w1, hw1⟩ : ∃ x, x = wR m1 (n + 101) 1 (some q1) := ⟨_, rfl⟩
  obtain ⟨A1, _⟩ := P1A0.add (by omega) (by decide +kernel) hq1 hm1 hf1 hg1 hw1
  have A : Alf w0 f g ((n + 101)) (n + 101 + 1) [(1, 8)] w1 f1 g1 := A1
  have r1 : gR w1 (n + 101) 1 = some (n + 101 + 1) ∧ ln w1 (n + 101 + 1) = 8 := A.1.1 0 (by decide)
  have E1 := x_fillI (σ := w1) (f := f1) (g := g1) (v := -1) r1.2 (by decide)
  obtain ⟨fa, hfa⟩ : ∃ x : FI, x = up1 f1 (n + 101 + 1) (fun k => if k < 8 then -1 else f1 (n + 101 + 1) k) := ⟨_, rfl⟩
  rw [← hfa] at E1
  have hd1 : nx w1 = n + 101 + 2 := A.1.2.1
  have P2A0 := Alf.nil (σ := w1) (f := fa) (g := g1) (a := (n + 101)) (b := n + 101 + 2) hd1
  obtain ⟨q2, hq2⟩ : ∃ x, x = nx w1 := ⟨_, rfl⟩
  obtain ⟨m2, hm2⟩ : ∃ x, x = mk w1 14 8 8 := ⟨_, rfl⟩
  obtain ⟨f2, hf2⟩ : ∃ x : FI, x = up1 fa q2 (fun _ => 0) := ⟨_, rfl⟩
  obtain ⟨g2, hg2⟩ : ∃ x : FL, x = up1 g1 q2 (fun _ => 0) := ⟨_, rfl⟩
  obtain ⟨w2, hw2⟩ : ∃ x, x = wR m2 (n + 101) 2 (some q2) := ⟨_, rfl⟩
  obtain ⟨A2, _⟩ := P2A0.add (by omega) (by decide +kernel) hq2 hm2 hf2 hg2 hw2
  have A2 : Alf w1 fa g1 ((n + 101)) (n + 101 + 2) [(2, 8)] w2 f2 g2 := A2
  have hd2 : nx w2 = n + 101 + 3 := A2.1.2.1
  obtain ⟨fb, hfb⟩ : ∃ x : FI, x = up2 f2 (n + 101) 3 (-1) := ⟨_, rfl⟩
  have P3A0 := Alf.nil (σ := w2) (f := fb) (g := g2) (a := (n + 101)) (b := n + 101 + 3) hd2
  obtain ⟨q3, hq3⟩ : ∃ x, x = nx w2 := ⟨_, rfl⟩
  obtain ⟨m3, hm3⟩ : ∃ x, x = mk w2 14 8 8 := ⟨_, rfl⟩
  obtain ⟨f3, hf3⟩ : ∃ x : FI, x = up1 fb q3 (fun _ => 0) := ⟨_, rfl⟩
  obtain ⟨g3, hg3⟩ : ∃ x : FL, x = up1 g2 q3 (fun _ => 0) := ⟨_, rfl⟩
  obtain ⟨w3, hw3⟩ : ∃ x, x = wR m3 (n + 101) 4 (some q3) := ⟨_, rfl⟩
  obtain ⟨A3, _⟩ := P3A0.add (by omega) (by decide +kernel) hq3 hm3 hf3 hg3 hw3
  obtain ⟨q4, hq4⟩ : ∃ x, x = nx w3 := ⟨_, rfl⟩
  obtain ⟨m4, hm4⟩ : ∃ x, x = mk w3 14 256 256 := ⟨_, rfl⟩
  obtain ⟨f4, hf4⟩ : ∃ x : FI, x = up1 f3 q4 (fun _ => 0) := ⟨_, rfl⟩
  obtain ⟨g4, hg4⟩ : ∃ x : FL, x = up1 g3 q4 (fun _ => 0) := ⟨_, rfl⟩
  obtain ⟨w4, hw4⟩ : ∃ x, x = wR m4 (n + 101) 5 (some q4) := ⟨_, rfl⟩
  obtain ⟨A4, _⟩ := A3.add (by omega) (by decide +kernel) hq4 hm4 hf4 hg4 hw4
  obtain ⟨q5, hq5⟩ : ∃ x, x = nx w4 := ⟨_, rfl⟩
  obtain ⟨m5, hm5⟩ : ∃ x, x = mk w4 14 512 512 := ⟨_, rfl⟩
  obtain ⟨f5, hf5⟩ : ∃ x : FI, x = up1 f4 q5 (fun _ => 0) := ⟨_, rfl⟩
  obtain ⟨g5, hg5⟩ : ∃ x : FL, x = up1 g4 q5 (fun _ => 0) := ⟨_, rfl⟩
  obtain ⟨w5, hw5⟩ : ∃ x, x = wR m5 (n + 101) 6 (some q5) := ⟨_, rfl⟩
  obtain ⟨A5, _⟩ := A4.add (by omega) (by decide +kernel) hq5 hm5 hf5 hg5 hw5
  obtain ⟨q6, hq6⟩ : ∃ x, x = nx w5 := ⟨_, rfl⟩
  obtain ⟨m6, hm6⟩ : ∃ x, x = mk w5 14 512 512 := ⟨_, rfl⟩
  obtain ⟨f6, hf6⟩ : ∃ x : FI, x = up1 f5 q6 (fun _ => 0) := ⟨_, rfl⟩
  obtain ⟨g6, hg6⟩ : ∃ x : FL, x = up1 g5 q6 (fun _ => 0) := ⟨_, rfl⟩
  obtain ⟨w6, hw6⟩ : ∃ x, x = wR m6 (n + 101) 7 (some q6) := ⟨_, rfl⟩
  obtain ⟨A6, _⟩ := A5.add (by omega) (by decide +kernel) hq6 hm6 hf6 hg6 hw6
  obtain ⟨q7, hq7⟩ : ∃ x, x = nx w6 := ⟨_, rfl⟩
  obtain ⟨m7, hm7⟩ : ∃ x, x = mk w6 14 1024 1024 := ⟨_, rfl⟩
  obtain ⟨f7, hf7⟩ : ∃ x : FI, x = up1 f6 q7 (fun _ => 0) := ⟨_, rfl⟩
  obtain ⟨g7, hg7⟩ : ∃ x : FL, x = up1 g6 q7 (fun _ => 0) := ⟨_, rfl⟩
  obtain ⟨w7, hw7⟩ : ∃ x, x = wR m7 (n + 101) 8 (some q7) := ⟨_, rfl⟩
  obtain ⟨A7, _⟩ := A6.add (by omega) (by decide +kernel) hq7 hm7 hf7 hg7 hw7
  obtain ⟨q8, hq8⟩ : ∃ x, x = nx w7 := ⟨_, rfl⟩
  obtain ⟨m8, hm8⟩ : ∃ x, x = mk w7 14 1024 1024 := ⟨_, rfl⟩
  obtain ⟨f8, hf8⟩ : ∃ x : FI, x = up1 f7 q8 (fun _ => 0) := ⟨_, rfl⟩
  obtain ⟨g8, hg8⟩ : ∃ x : FL, x = up1 g7 q8 (fun _ => 0) := ⟨_, rfl⟩
  obtain ⟨w8, hw8⟩ : ∃ x, x = wR m8 (n + 101) 9 (some q8) := ⟨_, rfl⟩
  obtain ⟨A8, _⟩ := A7.add (by omega) (by decide +kernel) hq8 hm8 hf8 hg8 hw8
  obtain ⟨q9, hq9⟩ : ∃ x, x = nx w8 := ⟨_, rfl⟩
  obtain ⟨m9, hm9⟩ : ∃ x, x = mk w8 14 1024 1024 := ⟨_, rfl⟩
  obtain ⟨f9, hf9⟩ : ∃ x : FI, x = up1 f8 q9 (fun _ => 0) := ⟨_, rfl⟩
  obtain ⟨g9, hg9⟩ : ∃ x : FL, x = up1 g8 q9 (fun _ => 0) := ⟨_, rfl⟩
  obtain ⟨w9, hw9⟩ : ∃ x, x = wR m9 (n + 101) 10 (some q9) := ⟨_, rfl⟩
  obtain ⟨A9, _⟩ := A8.add (by omega) (by decide +kernel) hq9 hm9 hf9 hg9 hw9
  have A3 : Alf w2 fb g2 ((n + 101)) (n + 101 + 3) [(4, 8), (5, 256), (6, 512), (7, 512), (8, 1024), (9, 1024), (10, 1024)] w9 f9 g9 := A9
  have fbo : ∀ c, c ≠ n + 101 → fb c = f2 c := fun c hc => by rw [hfb, up2_ne hc]
  have fao : ∀ c, c ≠ n + 101 + 1 → fa c = f1 c := fun c hc => by rw [hfa, up1_ne' hc]
  have K1 : Kp (n + 101) σ w0 f f g g := by rw [hw0]; exact Kp.wR (Nat.le_refl _)
  have K2 := A.kp (d := n + 101) (Nat.le_refl _) (by omega)
  have K3 : Kp (n + 101) w1 w1 f1 fa g1 g1 := fun c hc => ⟨⟨rfl, rfl, fun _ => rfl⟩, fao c (by omega), rfl⟩
  have K4 := A2.kp (d := n + 101) (Nat.le_refl _) (by omega)
  have K5 : Kp (n + 101) w2 w2 f2 fb g2 g2 := fun c hc => ⟨⟨rfl, rfl, fun _ => rfl⟩, fbo c (by omega), rfl⟩
  have K6 := A3.kp (d := n + 101) (Nat.le_refl _) (by omega)
  have h1 : ∀ k, k = 0 ∨ k = 1 ∨ k = 2 → gR w9 (n + 101) k = gR w2 (n + 101) k := fun k hk => A3.1.2.2.2.2 k (by rcases hk with rfl | rfl | rfl <;> decide)
  have h2 : ∀ k, k = 0 ∨ k = 1 → gR w2 (n + 101) k = gR w1 (n + 101) k := fun k hk => A2.1.2.2.2.2 k (by rcases hk with rfl | rfl <;> decide)
  refine ⟨w9, f9, g9, bk_X5_init_0 ?_, K1.trans (K2.trans (K3.trans (K4.trans (K5.trans K6)))), A3.1.2.1, ?_, ⟨⟨?_, ?_, ?_, ?_, ?_⟩, (A3.1.1 0 (by decide)).1, (A3.1.1 0 (by decide)).2, (A3.1.1 1 (by decide)).1, (A3.1.1 1 (by decide)).2, (A3.1.1 2 (by decide)).1, (A3.1.1 2 (by decide)).2, (A3.1.1 3 (by decide)).1, (A3.1.1 3 (by decide)).2, (A3.1.1 4 (by decide)).1, (A3.1.1 4 (by decide)).2, (A3.1.1 5 (by decide)).1, (A3.1.1 6 (by decide)).1, (A3.1.1 5 (by decide)).2, (A3.1.1 6 (by decide)).2⟩, fun k => ?_, fun k => ?_, fun c h1 h2 => ?_, ?_⟩
  · intro x0 c0
    obtain rfl := c0.trans hw0.symm
    intro xq xm xf xg c1 c2 c3 c4 xw c5
    obtain rfl := c1.trans hq1.symm
    obtain rfl := c2.trans hm1.symm
    obtain rfl := c3.trans hf1.symm
    obtain rfl := c4.trans hg1.symm
    obtain rfl := c5.trans hw1.symm
    refine ⟨_, r1.1, _, _, E1, ?_⟩
    intro xq xm xf xg c1 c2 c3 c4 xw c5
    obtain rfl := c1.trans hq2.symm
    obtain rfl := c2.trans hm2.symm
    obtain rfl := c3.trans hf2.symm
    obtain rfl := c4.trans hg2.symm
    obtain rfl := c5.trans hw2.symm
    rw [← hfb]
    intro xq xm xf xg c1 c2 c3 c4 xw c5
    obtain rfl := c1.trans hq3.symm
    obtain rfl := c2.trans hm3.symm
    obtain rfl := c3.trans hf3.symm
    obtain rfl := c4.trans hg3.symm
    obtain rfl := c5.trans hw3.symm
    intro xq xm xf xg c1 c2 c3 c4 xw c5
    obtain rfl := c1.trans hq4.symm
    obtain rfl := c2.trans hm4.symm
    obtain rfl := c3.trans hf4.symm
    obtain rfl := c4.trans hg4.symm
    obtain rfl := c5.trans hw4.symm
    intro xq xm xf xg c1 c2 c3 c4 xw c5
    obtain rfl := c1.trans hq5.symm
    obtain rfl := c2.trans hm5.symm
    obtain rfl := c3.trans hf5.symm
    obtain rfl := c4.trans hg5.symm
    obtain rfl := c5.trans hw5.symm
    intro xq xm xf xg c1 c2 c3 c4 xw c5
    obtain rfl := c1.trans hq6.symm
    obtain rfl := c2.trans hm6.symm
    obtain rfl := c3.trans hf6.symm
    obtain rfl := c4.trans hg6.symm
    obtain rfl := c5.trans hw6.symm
    intro xq xm xf xg c1 c2 c3 c4 xw c5
    obtain rfl := c1.trans hq7.symm
    obtain rfl := c2.trans hm7.symm
    obtain rfl := c3.trans hf7.symm
    obtain rfl := c4.trans hg7.symm
    obtain rfl := c5.trans hw7.symm
    intro xq xm xf xg c1 c2 c3 c4 xw c5
    obtain rfl := c1.trans hq8.symm
    obtain rfl := c2.trans hm8.symm
    obtain rfl := c3.trans hf8.symm
    obtain rfl := c4.trans hg8.symm
    obtain rfl := c5.trans hw8.symm
    intro xq xm xf xg c1 c2 c3 c4 xw c5
    obtain rfl := c1.trans hq9.symm
    obtain rfl := c2.trans hm9.symm
    obtain rfl := c3.trans hf9.symm
    obtain rfl := c4.trans hg9.symm
    obtain rfl := c5.trans hw9.symm
    rfl
  · have a1 := A.1.2.2.1
    have a2 : sl w2 = sl w1 + 8 := A2.1.2.2.1
    have a3 : sl w9 = sl w2 + 4360 := A3.1.2.2.1
    have a0 : sl w1 = sl w0 + 8 := a1
    have a4 : sl w0 = sl σ := by rw [hw0, wR_sl]
    omega
  · rw [h1 0 (by omega), h2 0 (by omega), A.1.2.2.2.2 0 (by decide), hw0, wR_gR, if_pos ⟨rfl, rfl⟩]
  · rw [h1 1 (by omega), h2 1 (by omega)]
    exact r1.1
  · rw [(A3.1.2.2.2.1 _ (by omega)).1, (A2.1.2.2.2.1 _ (by omega)).1]
    exact r1.2
  · rw [h1 2 (by omega)]
    exact (A2.1.1 0 (by decide)).1
  · rw [(A3.1.2.2.2.1 _ (by omega)).1]
    exact (A2.1.1 0 (by decide)).2
  · rw [(A3.2.1 (n + 101) (by omega)).1, hfb]
    by_cases z : k = 3
    · rw [if_pos z, z, u2_s]
    · rw [if_neg z, u2_i z, (A2.2.1 (n + 101) (by omega)).1, fao _ (by omega), (A.2.1 (n + 101) (by omega)).1]
  · rw [(A3.2.1 _ (by omega)).1, fbo _ (by omega), (A2.2.1 _ (by omega)).1, hfa, show n + 102 = n + 101 + 1 by omega, up1_at']
    rw [((A.2.2 (n + 101 + 1) (by omega) (by show n + 101 + 1 < n + 101 + 1 + 1; omega)).1 k)]
  · by_cases z : c = n + 103
    · rw [(A3.2.1 c (by omega)).1, (A3.2.1 c (by omega)).2, fbo _ (by omega)]
      exact A2.2.2 c (by omega) (by show c < n + 101 + 2 + 1; omega)
    · exact A3.2.2 c (by omega) (by show c < n + 101 + 3 + 7; omega)
  · rw [(A3.2.1 _ (by omega)).2, (A2.2.1 _ (by omega)).2, (A.2.1 _ (by omega)).2]
