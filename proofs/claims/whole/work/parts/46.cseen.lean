/-! seen: a packet by ticks -/
/-- the step of a packet in a tick, the boxes written in the ticks tk -/
def GK (f : FI) (g : FL) (B : Nat) (tk : Nat → Int) (t p : Int) : Int := GT f g B (8 * (bI (¬ tk (p / 64).toNat = -1 ∧ tk (p / 64).toNat ≤ t)).toNat + (p / 64).toNat) p
/-- as what a packet is seen to end, by at most so many steps -/
def sn (G : Int → Int → Int) : Nat → Int → Int → Int
  | 0, _, _ => -3
  | k + 1, t, p => if pk (G t p) then sn G k (t + 1) (G t p) else endB_ (G t p)
theorem sn_s {G : Int → Int → Int} {k : Nat} {t p : Int} (h : pk (G t p)) : sn G (k + 1) t p = sn G k (t + 1) (G t p) := if_pos h
theorem sn_e {G : Int → Int → Int} {k : Nat} {t p : Int} (h : ¬ pk (G t p)) : sn G (k + 1) t p = endB_ (G t p) := if_neg h
theorem sn_cong {G G' : Int → Int → Int} (h : ∀ t p, pk p → G t p = G' t p) : ∀ (k : Nat) (t p : Int), pk p → sn G k t p = sn G' k t p
  | 0, _, _, _ => rfl
  | k + 1, t, p, hp => by
    have e := h t p hp
    by_cases z : pk (G t p)
    · rw [sn_s z, sn_s (by rw [← e]; exact z), ← e]
      exact sn_cong h k (t + 1) _ z
    · rw [sn_e z, sn_e (by rw [← e]; exact z), e]
theorem bI_rg (P : Prop) [Decidable P] : bI P = ((bI P).toNat : Int) ∧ (bI P).toNat ≤ 1 := by
  have := bI_01 P
  omega
theorem GK_of {f f' : FI} {g g' : FL} {B : Nat} {tk tk' : Nat → Int} {t p : Int} (hp : pk p) (e : SameT f f' B) (eg : g' (B + 43) 1 = g (B + 43) 1) (ek : ∀ i, i < 8 → tk' i = tk i) : GK f' g' B tk' t p = GK f g B tk t p := by
  have hi : (p / 64).toNat < 8 := by omega
  have := (bI_rg (¬ tk (p / 64).toNat = -1 ∧ tk (p / 64).toNat ≤ t)).2
  unfold GK
  rw [ek _ hi, GT_of (by omega) e eg]
theorem GK_rg {f : FI} {g : FL} {B : Nat} {nn : Nat → Nat} (h : TCs f B nn) {tk : Nat → Int} {t p : Int} (hp : pk p) : GK f g B tk t p = -2 ∨ (0 ≤ GK f g B tk t p ∧ GK f g B tk t p < 1024) := by
  have := (bI_rg (¬ tk (p / 64).toNat = -1 ∧ tk (p / 64).toNat ≤ t)).2
  exact stV_rg hp ((h _ (by omega)).deed (by omega))
def A_X5_watch_5 (σ : St) (f : FI) (g : FL) (n : Nat) (x2 : Int) (x3 : Int) (x4 : Int) (r : St × List Vl) : Prop := ∀ (y1 : Int) (y5 : Option Vl), Gx mt 2 cd_X5_watch (il σ f g) (cd_X5_watch 5) [some (vR 5 (some (n + 101))), some (vI y1), some (vI x2), some (vI x3), some (vI x4), y5] [] r
theorem bk_X5_watch_0 {σ : St} {f : FI} {g : FL} {n : Nat} {x1 : Int} {x2 : Int} {r : St × List Vl} (hs : Sh5 σ n) (h : (A_X5_watch_5 σ f g n x2 x1 0 r)) : Ex mt 2 78 (il σ f g) [vR 5 (some (n + 101)), vI x1, vI x2] r := Ex.mk mt_78 (show Gx mt 2 cd_X5_watch (il σ f g) b_X5_watch_0 [some (vR 5 (some (n + 101))), some (vI x1), some (vI x2), none, none, none] [] r from (go_loadI rfl (go_stoI rfl rfl (go_pushI rfl (go_stoI rfl rfl (go_fall (h _ _)))))))
theorem bk_X5_watch_5 {σ : St} {f : FI} {g : FL} {n : Nat} {x2 : Int} {x3 : Int} {x4 : Int} {r : St × List Vl} (hs : Sh5 σ n) (h : ((100 ≤ x4 → (r = ((il σ f g), [vI (-3)]))) ∧ (¬ 100 ≤ x4 → ((-2147483648 ≤ (x2 + x4) ∧ (x2 + x4) ≤ 2147483647) ∧ (-2147483648 ≤ x3 ∧ x3 ≤ 2147483647) ∧ (0 ≤ (x3 / 64) ∧ (x3 / 64) < 8)) ∧ (∃ (f4 : FI) (g5 : FL) (v7 : Int), Ex mt 1 39 (il σ f g) [vR 3 (some n), vI x3, vI (bI (¬ (f (n + 102) (((x3 / 64)).toNat)) = -1 ∧ (f (n + 102) (((x3 / 64)).toNat)) ≤ (x2 + x4)))] ((il σ f4 g5), [vI v7]) ∧ ((((0 ≤ v7 ∧ v7 < 512)) → ((-2147483648 ≤ (x4 + 1) ∧ (x4 + 1) ≤ 2147483647)) ∧ (A_X5_watch_5 σ f4 g5 n x2 v7 (x4 + 1) r)) ∧ (¬ ((0 ≤ v7 ∧ v7 < 512)) → (v7 ≤ 2147483647) ∧ (r = ((il σ f4 g5), [vI (endB_ v7)])))))))) : A_X5_watch_5 σ f g n x2 x3 x4 r := fun y1 y5 => (show Gx mt 2 cd_X5_watch (il σ f g) b_X5_watch_5 [some (vR 5 (some (n + 101))), some (vI y1), some (vI x2), some (vI x3), some (vI x4), y5] [] r from (go_loadI rfl (go_pushI rfl (gq_icmp_ge (fun e3 => have h1 := h.1 e3; (go_pushI rfl (h1 ▸ gq_retI))) (fun e3 => have h2 := h.2 e3; (go_loadA rfl (gi_getR (Sh5.r0 hs) (go_loadI rfl (go_loadI rfl (go_loadI rfl (go_iadd h2.1.1 (go_loadA rfl (gi_getR (Sh5.r1 hs) (go_loadI rfl (go_pushI rfl (go_ishr (iShr_6 h2.1.2.1) (gi_iald (inl_ (Sh5.l1 hs) h2.1.2.2) (go_callS rfl rfl rfl (pu_versionIn) (Exists.elim h2.2 fun f4 w11 => Exists.elim w11 fun g5 w12 => Exists.elim w12 fun v7 h6 => (go_callV rfl rfl rfl h6.1 (go_stoI rfl rfl (go_loadI rfl (go_callS rfl rfl rfl (pu_goesOn) (go_ifb_ne (fun e10 => have h8 := h6.2.1 e10; (go_loadI rfl (go_stoI rfl rfl (go_iinc rfl h8.1 rfl (go_goto (h8.2 _ _)))))) (fun e10 => have h9 := h6.2.2 e10; (go_loadI rfl (go_callS rfl rfl rfl (pu_endBy h9.1) (h9.2 ▸ gq_retI))))))))))))))))))))))))))))
def A_X12_seenAs_5 (σ : St) (f : FI) (g : FL) (a : Nat) (x2 : Int) (x3 : Int) (x4 : Int) (r : St × List Vl) : Prop := ∀ (y1 : Int) (y5 : Option Vl) (y6 : Option Vl) (y7 : Option Vl), Gx mt 4 cd_X12_seenAs (il σ f g) (cd_X12_seenAs 5) [some (vR 12 (some a)), some (vI y1), some (vI x2), some (vI x3), some (vI x4), y5, y6, y7] [] r
def A_X12_seenAs_32 (σ : St) (f : FI) (g : FL) (a : Nat) (x2 : Int) (x3 : Int) (x4 : Int) (s0 : Int) (r : St × List Vl) : Prop := ∀ (y1 : Int) (y5 : Option Vl) (y6 : Option Vl) (y7 : Option Vl), Gx mt 4 cd_X12_seenAs (il σ f g) (cd_X12_seenAs 32) [some (vR 12 (some a)), some (vI y1), some (vI x2), some (vI x3), some (vI x4), y5, y6, y7] [vI s0] r
def A_X12_seenAs_68 (σ : St) (f : FI) (g : FL) (a : Nat) (x2 : Int) (x3 : Int) (x4 : Int) (x6 : Int) (s0 : Int) (r : St × List Vl) : Prop := ∀ (y1 : Int) (y5 : Int) (y7 : Option Vl), Gx mt 4 cd_X12_seenAs (il σ f g) (cd_X12_seenAs 68) [some (vR 12 (some a)), some (vI y1), some (vI x2), some (vI x3), some (vI x4), some (vI y5), some (vI x6), y7] [vI s0] r
def A_X12_seenAs_82 (σ : St) (f : FI) (g : FL) (a : Nat) (x2 : Int) (x3 : Int) (x4 : Int) (x6 : Int) (s0 : Nat) (s1 : Int) (r : St × List Vl) : Prop := ∀ (y1 : Int) (y5 : Int) (y7 : Int), Gx mt 4 cd_X12_seenAs (il σ f g) (cd_X12_seenAs 82) [some (vR 12 (some a)), some (vI y1), some (vI x2), some (vI x3), some (vI x4), some (vI y5), some (vI x6), some (vI y7)] [vI s1, vR 12 (some s0)] r
theorem bk_X12_seenAs_0 {σ : St} {f : FI} {g : FL} {a : Nat} {x1 : Int} {x2 : Int} {r : St × List Vl} (hs : Sh12 σ a) (h : (A_X12_seenAs_5 σ f g a x2 x1 0 r)) : Ex mt 4 306 (il σ f g) [vR 12 (some a), vI x1, vI x2] r := Ex.mk mt_306 (show Gx mt 4 cd_X12_seenAs (il σ f g) b_X12_seenAs_0 [some (vR 12 (some a)), some (vI x1), some (vI x2), none, none, none, none, none] [] r from (go_loadI rfl (go_stoI rfl rfl (go_pushI rfl (go_stoI rfl rfl (go_fall (h _ _ _ _)))))))
theorem bk_X12_seenAs_5 {σ : St} {f : FI} {g : FL} {a : Nat} {x2 : Int} {x3 : Int} {x4 : Int} {r : St × List Vl} (hs : Sh12 σ a) (h : ((100 ≤ x4 → (r = ((il σ f g), [vI (-3)]))) ∧ (¬ 100 ≤ x4 → ((-2147483648 ≤ (x2 + x4) ∧ (x2 + x4) ≤ 2147483647)) ∧ ((1000 ≤ (x2 + x4) → (A_X12_seenAs_32 σ f g a x2 x3 x4 999 r)) ∧ (¬ 1000 ≤ (x2 + x4) → ((-2147483648 ≤ (x2 + x4) ∧ (x2 + x4) ≤ 2147483647)) ∧ (A_X12_seenAs_32 σ f g a x2 x3 x4 (x2 + x4) r)))))) : A_X12_seenAs_5 σ f g a x2 x3 x4 r := fun y1 y5 y6 y7 => (show Gx mt 4 cd_X12_seenAs (il σ f g) b_X12_seenAs_5 [some (vR 12 (some a)), some (vI y1), some (vI x2), some (vI x3), some (vI x4), y5, y6, y7] [] r from (go_loadI rfl (go_pushI rfl (gq_icmp_ge (fun e3 => have h1 := h.1 e3; (go_pushI rfl (h1 ▸ gq_retI))) (fun e3 => have h2 := h.2 e3; (go_loadI rfl (go_loadI rfl (go_iadd h2.1 (go_pushI rfl (gq_icmp_ge (fun e6 => have h4 := h2.2.1 e6; (go_pushI rfl (go_fall (h4 _ _ _ _)))) (fun e6 => have h5 := h2.2.2 e6; (go_loadI rfl (go_loadI rfl (go_iadd h5.1 (go_goto (h5.2 _ _ _ _))))))))))))))))
theorem bk_X12_seenAs_32 {σ : St} {f : FI} {g : FL} {a : Nat} {x2 : Int} {x3 : Int} {x4 : Int} {s0 : Int} {r : St × List Vl} (hs : Sh12 σ a) (h : ((-2147483648 ≤ x3 ∧ x3 ≤ 2147483647) ∧ (0 ≤ (x3 / 64) ∧ (x3 / 64) < 8)) ∧ (((f (a + 54) (((x3 / 64)).toNat)) = (-1) → (A_X12_seenAs_68 σ f g a x2 x3 x4 (x3 / 64) 0 r)) ∧ (¬ (f (a + 54) (((x3 / 64)).toNat)) = (-1) → ((0 ≤ (x3 / 64) ∧ (x3 / 64) < 8)) ∧ ((s0 < (f (a + 54) (((x3 / 64)).toNat)) → (A_X12_seenAs_68 σ f g a x2 x3 x4 (x3 / 64) 0 r)) ∧ (¬ s0 < (f (a + 54) (((x3 / 64)).toNat)) → (A_X12_seenAs_68 σ f g a x2 x3 x4 (x3 / 64) 1 r)))))) : A_X12_seenAs_32 σ f g a x2 x3 x4 s0 r := fun y1 y5 y6 y7 => (show Gx mt 4 cd_X12_seenAs (il σ f g) b_X12_seenAs_32 [some (vR 12 (some a)), some (vI y1), some (vI x2), some (vI x3), some (vI x4), y5, y6, y7] [vI s0] r from (go_stoI rfl rfl (go_loadI rfl (go_pushI rfl (go_ishr (iShr_6 h.1.1) (go_stoI rfl rfl (go_loadA rfl (gi_getR (Sh12.r78 hs) (go_loadI rfl (gi_iald (inl_ (Sh12.l78 hs) h.1.2) (go_pushI rfl (gq_icmp_eq (fun e3 => have h1 := h.2.1 e3; (go_pushI rfl (go_fall (h1 _ _ _)))) (fun e3 => have h2 := h.2.2 e3; (go_loadA rfl (gi_getR (Sh12.r78 hs) (go_loadI rfl (gi_iald (inl_ (Sh12.l78 hs) h2.1) (go_loadI rfl (gq_icmp_gt (fun e6 => have h4 := h2.2.1 e6; (go_pushI rfl (go_fall (h4 _ _ _)))) (fun e6 => have h5 := h2.2.2 e6; (go_pushI rfl (go_goto (h5 _ _ _)))))))))))))))))))))))
theorem bk_X12_seenAs_68 {σ : St} {f : FI} {g : FL} {a : Nat} {x2 : Int} {x3 : Int} {x4 : Int} {x6 : Int} {s0 : Int} {r : St × List Vl} (hs : Sh12 σ a) (h : ((s0 = 0 → (A_X12_seenAs_82 σ f g a x2 x3 x4 x6 a 0 r)) ∧ (¬ s0 = 0 → (A_X12_seenAs_82 σ f g a x2 x3 x4 x6 a 8 r)))) : A_X12_seenAs_68 σ f g a x2 x3 x4 x6 s0 r := fun y1 y5 y7 => (show Gx mt 4 cd_X12_seenAs (il σ f g) b_X12_seenAs_68 [some (vR 12 (some a)), some (vI y1), some (vI x2), some (vI x3), some (vI x4), some (vI y5), some (vI x6), y7] [vI s0] r from (go_stoI rfl rfl (go_loadA rfl (go_loadI rfl (gq_if_eq (fun e3 => have h1 := h.1 e3; (go_pushI rfl (go_fall (h1 _ _ _)))) (fun e3 => have h2 := h.2 e3; (go_pushI rfl (go_goto (h2 _ _ _)))))))))
theorem bk_X12_seenAs_82 {σ : St} {f : FI} {g : FL} {a : Nat} {x2 : Int} {x3 : Int} {x4 : Int} {x6 : Int} {s0 : Nat} {s1 : Int} {r : St × List Vl} (hs : Sh12 σ a) (h : ((-2147483648 ≤ (s1 + x6) ∧ (s1 + x6) ≤ 2147483647)) ∧ (∃ (f1 : FI) (g2 : FL) (v4 : Int), Ex mt 3 254 (il σ f g) [vR 12 (some s0), vI (s1 + x6), vI x3] ((il σ f1 g2), [vI v4]) ∧ (((f1 a 41) ≤ 0 → ((-2147483648 ≤ (x4 + 1) ∧ (x4 + 1) ≤ 2147483647)) ∧ (A_X12_seenAs_5 σ f1 g2 a x2 v4 (x4 + 1) r)) ∧ (¬ (f1 a 41) ≤ 0 → ((¬ (f1 a 41) = 1 → (r = ((il σ f1 g2), [vI (-2)]))) ∧ ((f1 a 41) = 1 → (r = ((il σ f1 g2), [vI v4])))))))) : A_X12_seenAs_82 σ f g a x2 x3 x4 x6 s0 s1 r := fun y1 y5 y7 => (show Gx mt 4 cd_X12_seenAs (il σ f g) b_X12_seenAs_82 [some (vR 12 (some a)), some (vI y1), some (vI x2), some (vI x3), some (vI x4), some (vI y5), some (vI x6), some (vI y7)] [vI s1, vR 12 (some s0)] r from (go_loadI rfl (go_iadd h.1 (go_loadI rfl (Exists.elim h.2 fun f1 w11 => Exists.elim w11 fun g2 w12 => Exists.elim w12 fun v4 h3 => (go_callV rfl rfl rfl h3.1 (go_stoI rfl rfl (go_loadA rfl (gi_getI (gq_if_le (fun e7 => have h5 := h3.2.1 e7; (go_iinc rfl h5.1 rfl (go_goto (h5.2 _ _ _ _)))) (fun e7 => have h6 := h3.2.2 e7; (go_loadA rfl (gi_getI (go_pushI rfl (gq_icmp_ne (fun e10 => have h8 := h6.1 e10; (go_pushI rfl (go_fall (h8 ▸ gq_retI)))) (fun e10 => have h9 := h6.2 e10; (go_loadI rfl (go_goto (h9 ▸ gq_retI)))))))))))))))))))
def A_X12_asTold_2 (σ : St) (f : FI) (g : FL) (a : Nat) (x1 : Int) (r : St × List Vl) : Prop := Gx mt 0 cd_X12_asTold (il σ f g) (cd_X12_asTold 2) [some (vR 12 (some a)), some (vI x1)] [] r
theorem bk_X12_asTold_0 {σ : St} {f : FI} {g : FL} {a : Nat} {r : St × List Vl} (hs : Sh12 σ a) (h : (A_X12_asTold_2 σ f g a 0 r)) : Ex mt 0 305 (il σ f g) [vR 12 (some a)] r := Ex.mk mt_305 (show Gx mt 0 cd_X12_asTold (il σ f g) b_X12_asTold_0 [some (vR 12 (some a)), none] [] r from (go_pushI rfl (go_stoI rfl rfl (go_fall (h)))))
theorem bk_X12_asTold_2 {σ : St} {f : FI} {g : FL} {a : Nat} {x1 : Int} {r : St × List Vl} (hs : Sh12 σ a) (h : ((8 ≤ x1 → (r = ((il σ f g), []))) ∧ (¬ 8 ≤ x1 → ((0 ≤ x1 ∧ x1 < 8) ∧ (-2147483648 ≤ (x1 + 1) ∧ (x1 + 1) ≤ 2147483647)) ∧ (A_X12_asTold_2 σ (up2 f (a + 54) ((x1).toNat) (f (a + 53) ((x1).toNat))) g a (x1 + 1) r)))) : A_X12_asTold_2 σ f g a x1 r := (show Gx mt 0 cd_X12_asTold (il σ f g) b_X12_asTold_2 [some (vR 12 (some a)), some (vI x1)] [] r from (go_loadI rfl (go_pushI rfl (gq_icmp_ge (fun e3 => have h1 := h.1 e3; (h1 ▸ gq_retV)) (fun e3 => have h2 := h.2 e3; (go_loadA rfl (gi_getR (Sh12.r78 hs) (go_loadI rfl (go_loadA rfl (gi_getR (Sh12.r77 hs) (go_loadI rfl (gi_iald (inl_ (Sh12.l77 hs) h2.1.1) (gi_iast (inl_ (Sh12.l78 hs) h2.1.1) (go_iinc rfl h2.1.2 rfl (go_goto (h2.2))))))))))))))))
theorem bk_X11_seen_0 {σ : St} {f : FI} {g : FL} {a : Nat} {x1 : Int} {x2 : Int} {r : St × List Vl} (hs : Sh11 σ a) (h : ((¬ ((0 ≤ x1 ∧ x1 ≤ 511)) → (r = ((il σ f g), [vI (-1)]))) ∧ (((0 ≤ x1 ∧ x1 ≤ 511)) → ((((0 ≤ x2 ∧ x2 ≤ 999)) → (∃ (f7 : FI) (g8 : FL) (v10 : Int), Ex mt 2 78 (il σ f g) [vR 5 (some (a + 144)), vI x1, vI x2] ((il σ f7 g8), [vI v10]) ∧ (r = ((il σ f7 g8), [vI v10])))) ∧ (¬ ((0 ≤ x2 ∧ x2 ≤ 999)) → (r = ((il σ f g), [vI (-1)]))))))) : Ex mt 3 184 (il σ f g) [vR 11 (some a), vI x1, vI x2] r := Ex.mk mt_184 (show Gx mt 3 cd_X11_seen (il σ f g) b_X11_seen_0 [some (vR 11 (some a)), some (vI x1), some (vI x2)] [] r from (go_loadI rfl (go_callS rfl rfl rfl (pu_isPacket) (go_ifb_eq (fun e3 => have h1 := h.1 e3; (go_pushI rfl (h1 ▸ gq_retI))) (fun e3 => have h2 := h.2 e3; (go_loadI rfl (go_callS rfl rfl rfl (pu_isTick) (go_ifb_ne (fun e6 => have h4 := h2.1 e6; (go_loadA rfl (gi_getR (Sh11.r10 hs) (go_loadI rfl (go_loadI rfl (Exists.elim h4 fun f7 w11 => Exists.elim w11 fun g8 w12 => Exists.elim w12 fun v10 h9 => (go_callV rfl rfl rfl h9.1 (h9.2 ▸ gq_retI)))))))) (fun e6 => have h5 := h2.2 e6; (go_fall (go_pushI rfl (h5 ▸ gq_retI))))))))))))
theorem bk_X12_seen_0 {σ : St} {f : FI} {g : FL} {a : Nat} {x1 : Int} {x2 : Int} {r : St × List Vl} (hs : Sh12 σ a) (h : ((-2147483648 ≤ x1 ∧ x1 ≤ 2147483647)) ∧ ((¬ ((0 ≤ x1 ∧ x1 ≤ 511)) → (r = ((il σ f g), [vI (-1)]))) ∧ (((0 ≤ x1 ∧ x1 ≤ 511)) → ((-2147483648 ≤ x2 ∧ x2 ≤ 2147483647)) ∧ ((((0 ≤ x2 ∧ x2 ≤ 999)) → (∃ (f7 : FI) (g8 : FL), Ex mt 0 305 (il σ f g) [vR 12 (some a)] ((il σ f7 g8), []) ∧ (∃ (f10 : FI) (g11 : FL) (v13 : Int), Ex mt 4 306 (il σ f7 g8) [vR 12 (some a), vI x1, vI x2] ((il σ f10 g11), [vI v13]) ∧ (r = ((il σ f10 g11), [vI v13]))))) ∧ (¬ ((0 ≤ x2 ∧ x2 ≤ 999)) → (r = ((il σ f g), [vI (-1)]))))))) : Ex mt 5 307 (il σ f g) [vR 12 (some a), vI x1, vI x2] r := Ex.mk mt_307 (show Gx mt 5 cd_X12_seen (il σ f g) b_X12_seen_0 [some (vR 12 (some a)), some (vI x1), some (vI x2)] [] r from (go_loadI rfl (go_callS rfl rfl rfl (pu_isPacketM h.1) (go_ifb_eq (fun e3 => have h1 := h.2.1 e3; (go_pushI rfl (h1 ▸ gq_retI))) (fun e3 => have h2 := h.2.2 e3; (go_loadI rfl (go_i2l (go_pushL rfl (go_pushL rfl (go_callS rfl rfl rfl (pu_in h2.1 ⟨by decide, by decide⟩ ⟨by decide, by decide⟩ (v := x2) (lo := 0) (hi := 999)) (go_ifb_ne (fun e6 => have h4 := h2.2.1 e6; (go_loadA rfl (Exists.elim h4 fun f7 w16 => Exists.elim w16 fun g8 h9 => (go_callV rfl rfl rfl h9.1 (go_loadA rfl (go_loadI rfl (go_loadI rfl (Exists.elim h9.2 fun f10 w14 => Exists.elim w14 fun g11 w15 => Exists.elim w15 fun v13 h12 => (go_callV rfl rfl rfl h12.1 (h12.2 ▸ gq_retI)))))))))) (fun e6 => have h5 := h2.2.2 e6; (go_fall (go_pushI rfl (h5 ▸ gq_retI)))))))))))))))
theorem x_watch {σ : St} {f : FI} {g : FL} {B : Nat} {nn : Nat → Nat} {t p : Int} (hs : Sh5 σ (B + 43)) (hT : TCs f B nn) (hp : pk p) (ht : 0 ≤ t ∧ t < 100000) : Ex mt 2 78 (il σ f g) [vR 5 (some (B + 144)), vI p, vI t] (il σ f g, [vI (sn (GK f g B (f (B + 145))) 100 t p)]) := by
  have loop : ∀ k i : Nat, i + k = 100 → ∀ q : Int, pk q → A_X5_watch_5 σ f g (B + 43) t q (i : Int) (il σ f g, [vI (sn (GK f g B (f (B + 145))) k (t + i) q)]) := by
    intro k
    induction k with
    | zero =>
      intro i hi q hq
      obtain rfl : i = 100 := by omega
      exact bk_X5_watch_5 hs ⟨fun _ => rfl, fun z => absurd (by decide) z⟩
    | succ k ih =>
      intro i hi q hq
      have r := bI_rg (¬ f (B + 43 + 102) (q / 64).toNat = -1 ∧ f (B + 43 + 102) (q / 64).toNat ≤ t + i)
      have E := x_stepC (g := g) (p := q) (s := (bI (¬ f (B + 43 + 102) (q / 64).toNat = -1 ∧ f (B + 43 + 102) (q / 64).toNat ≤ t + i)).toNat) hs.o0 hq r.2 (hT _ (by omega))
      rw [← r.1] at E
      refine bk_X5_watch_5 hs ⟨fun z => absurd z (by omega), fun _ => ⟨⟨by omega, by omega, by omega⟩, f, g, _, E, ?_⟩⟩
      have rg := GK_rg (g := g) hT (tk := f (B + 145)) (t := t + i) hq
      show (pk (GK f g B (f (B + 145)) (t + i) q) → _ ∧ A_X5_watch_5 σ f g (B + 43) t (GK f g B (f (B + 145)) (t + i) q) _ _) ∧ (¬ pk (GK f g B (f (B + 145)) (t + i) q) → GK f g B (f (B + 145)) (t + i) q ≤ 2147483647 ∧ _ = (_, [vI (endB_ (GK f g B (f (B + 145)) (t + i) q))]))
      refine ⟨fun z => ⟨by omega, ?_⟩, fun z => ⟨by omega, ?_⟩⟩
      · rw [sn_s z]
        have := ih (i + 1) (by omega) _ z
        rw [show t + (i : Int) + 1 = t + ((i + 1 : Nat) : Int) by omega]
        exact this
      · rw [sn_e z]
  have := loop 100 0 rfl p hp
  rw [show t + ((0 : Nat) : Int) = t by omega] at this
  exact bk_X5_watch_0 hs this
abbrev Scr2 (B : Nat) : Nat → Nat → Prop := fun a k => a = B + 165 ∧ 40 ≤ k ∧ k ≤ 41
theorem x_seenAs {σ : St} {f : FI} {g : FL} {B : Nat} {nn : Nat → Nat} {t p : Int} (hm : Sh12 σ (B + 165)) (hB0 : ITb f B nn) (hL : IL f g B) (hk : ∀ i : Nat, i < 8 → f (B + 165 + 54) i ≤ 999) (hp : pk p) (ht : 0 ≤ t ∧ t < 100000) : ∃ f' : FI, Ex mt 4 306 (il σ f g) [vR 12 (some (B + 165)), vI p, vI t] (il σ f' g, [vI (sn (GK f g B (f (B + 165 + 54))) 100 t p)]) ∧ Fr (Scr2 B) f f' := by
  have loop : ∀ k i : Nat, i + k = 100 → ∀ (q : Int) (fi : FI), pk q → Fr (Scr2 B) f fi → ∃ f' : FI, A_X12_seenAs_5 σ fi g (B + 165) t q (i : Int) (il σ f' g, [vI (sn (GK f g B (f (B + 165 + 54))) k (t + i) q)]) ∧ Fr (Scr2 B) f f' := by
    intro k
    induction k with
    | zero =>
      intro i hi q fi hq hF
      obtain rfl : i = 100 := by omega
      exact ⟨fi, bk_X12_seenAs_5 hm ⟨fun _ => rfl, fun z => absurd (by decide) z⟩, hF⟩
    | succ k ih =>
      intro i hi q fi hq hF
      have eT : SameT f fi B := fun a h1 h2 => by
        funext j
        exact hF a j (by omega)
      have hBi : ITb fi B nn := hB0.fr eT fun a h1 h2 => by
        funext j
        exact hF a j (by omega)
      have hLi : IL fi g B := hL.fr (by
        funext j
        exact hF _ j (by omega)) (hF _ _ (by omega)) rfl
      have e54 : ∀ j, fi (B + 165 + 54) j = f (B + 165 + 54) j := fun j => hF _ j (by omega)
      have k54 := hk (q / 64).toNat (by omega)
      have r := bI_rg (¬ f (B + 165 + 54) (q / 64).toNat = -1 ∧ f (B + 165 + 54) (q / 64).toNat ≤ t + i)
      have hn : (8 * (bI (¬ f (B + 165 + 54) (q / 64).toNat = -1 ∧ f (B + 165 + 54) (q / 64).toNat ≤ t + i)).toNat + (q / 64).toNat) < 16 := by omega
      obtain ⟨by_, gone, v, hv, E⟩ := x_stepM (g := g) (q := q) hm hBi hLi hn hq
      have eG : GT fi g B (8 * (bI (¬ f (B + 165 + 54) (q / 64).toNat = -1 ∧ f (B + 165 + 54) (q / 64).toNat ≤ t + i)).toNat + (q / 64).toNat) q = GK f g B (f (B + 165 + 54)) (t + i) q := GT_of hn eT rfl
      have F2 : Fr (Scr2 B) f (up2 (up2 fi (B + 165) 40 by_) (B + 165) 41 gone) := (hF.up ⟨rfl, by omega, by omega⟩).up ⟨rfl, by omega, by omega⟩
      have hv2 := hv.2
      rw [eG] at hv2
      have g41 : up2 (up2 fi (B + 165) 40 by_) (B + 165) 41 gone (B + 165) 41 = gone := u2_s
      have fin : ∃ f' : FI, A_X12_seenAs_82 σ fi g (B + 165) t q (i : Int) (q / 64) (B + 165) (8 * bI (¬ f (B + 165 + 54) (q / 64).toNat = -1 ∧ f (B + 165 + 54) (q / 64).toNat ≤ t + i)) (il σ f' g, [vI (sn (GK f g B (f (B + 165 + 54))) (k + 1) (t + i) q)]) ∧ Fr (Scr2 B) f f' := by
        have ei : 8 * bI (¬ f (B + 165 + 54) (q / 64).toNat = -1 ∧ f (B + 165 + 54) (q / 64).toNat ≤ t + i) + q / 64 = ((8 * (bI (¬ f (B + 165 + 54) (q / 64).toNat = -1 ∧ f (B + 165 + 54) (q / 64).toNat ≤ t + i)).toNat + (q / 64).toNat : Nat) : Int) := by
          have := r.1
          omega
        rcases hv2 with ⟨h1, h2, h3⟩ | ⟨h1, h2, h3⟩ | ⟨h1, h2⟩
        · obtain ⟨f', A, F⟩ := ih (i + 1) (by omega) v _ (by omega) F2
          refine ⟨f', bk_X12_seenAs_82 hm ?_, F⟩
          rw [ei]
          refine ⟨by omega, _, g, v, E, fun _ => ⟨by omega, ?_⟩, fun z => absurd (by rw [g41]; omega) z⟩
          rw [sn_s (by rw [← h2]; omega), ← h2, show t + (i : Int) + 1 = t + ((i + 1 : Nat) : Int) by omega]
          exact A
        · refine ⟨_, bk_X12_seenAs_82 hm ?_, F2⟩
          rw [ei]
          refine ⟨by omega, _, g, v, E, fun z => absurd z (by rw [g41]; omega), fun _ => ⟨fun z => absurd (by rw [g41]; omega) z, fun _ => ?_⟩⟩
          rw [sn_e (by omega), h2]
          unfold endB_
          rw [if_pos h3.1]
        · refine ⟨_, bk_X12_seenAs_82 hm ?_, F2⟩
          rw [ei]
          refine ⟨by omega, _, g, v, E, fun z => absurd z (by rw [g41]; omega), fun _ => ⟨fun _ => ?_, fun z => absurd z (by rw [g41]; omega)⟩⟩
          rw [sn_e (by rw [h2]; omega), h2]
          rfl
      obtain ⟨f', A, F⟩ := fin
      refine ⟨f', ?_, F⟩
      have A32 : ∀ s : Int, (s = t + i ∨ (s = 999 ∧ 1000 ≤ t + i)) → A_X12_seenAs_32 σ fi g (B + 165) t q (i : Int) s (il σ f' g, [vI (sn (GK f g B (f (B + 165 + 54))) (k + 1) (t + i) q)]) := by
        intro s hs
        refine bk_X12_seenAs_32 hm ⟨⟨by omega, by omega⟩, ?_⟩
        rw [e54]
        refine ⟨fun z => bk_X12_seenAs_68 hm ⟨fun _ => ?_, fun y => absurd rfl y⟩, fun z => ⟨by omega, fun y => bk_X12_seenAs_68 hm ⟨fun _ => ?_, fun y => absurd rfl y⟩, fun y => bk_X12_seenAs_68 hm ⟨fun y => absurd y (by decide), fun _ => ?_⟩⟩⟩
        · rw [bI_f (fun y => y.1 z)] at A
          exact A
        · rw [bI_f (fun x => by omega)] at A
          exact A
        · rw [bI_t ⟨z, by omega⟩] at A
          exact A
      exact bk_X12_seenAs_5 hm ⟨fun z => absurd z (by omega), fun _ => ⟨by omega, fun z => A32 999 (Or.inr ⟨rfl, z⟩), fun z => ⟨by omega, A32 _ (Or.inl rfl)⟩⟩⟩
  obtain ⟨f', A, F⟩ := loop 100 0 rfl p f hp Fr.rfl'
  rw [show t + ((0 : Nat) : Int) = t by omega] at A
  exact ⟨f', bk_X12_seenAs_0 hm A, F⟩
theorem x_asTold {σ : St} {f : FI} {g : FL} {M : Nat} (hm : Sh12 σ M) : ∃ f' : FI, Ex mt 0 305 (il σ f g) [vR 12 (some M)] (il σ f' g, []) ∧ (∀ i : Nat, i < 8 → f' (M + 54) i = f (M + 53) i) ∧ Fr (fun a _ => a = M + 54) f f' := by
  have loop : ∀ k i : Nat, i + k = 8 → ∀ fi : FI, (∀ j : Nat, j < i → fi (M + 54) j = f (M + 53) j) → Fr (fun a _ => a = M + 54) f fi → ∃ f' : FI, A_X12_asTold_2 σ fi g M (i : Int) (il σ f' g, []) ∧ (∀ i : Nat, i < 8 → f' (M + 54) i = f (M + 53) i) ∧ Fr (fun a _ => a = M + 54) f f' := by
    intro k
    induction k with
    | zero =>
      intro i hi fi hj hF
      obtain rfl : i = 8 := by omega
      exact ⟨fi, bk_X12_asTold_2 hm ⟨fun _ => rfl, fun z => absurd (by decide) z⟩, hj, hF⟩
    | succ k ih =>
      intro i hi fi hj hF
      have e53 : fi (M + 53) i = f (M + 53) i := hF _ _ (by omega)
      obtain ⟨f', A, h1, h2⟩ := ih (i + 1) (by omega) (up2 fi (M + 54) i (fi (M + 53) i)) (fun j hj2 => by
        by_cases z : j = i
        · subst z
          rw [u2_s, e53]
        · rw [u2_i z]
          exact hj j (by omega)) (hF.up rfl)
      exact ⟨f', bk_X12_asTold_2 hm ⟨fun z => absurd z (by omega), fun _ => ⟨⟨by omega, by omega⟩, A⟩⟩, h1, h2⟩
  obtain ⟨f', A, h⟩ := loop 8 0 rfl f (fun j hj => absurd hj (Nat.not_lt_zero j)) Fr.rfl'
  exact ⟨f', bk_X12_asTold_0 hm A, h⟩
theorem c_seen {σ : St} {f : FI} {g : FL} {B : Nat} (hs : Sh11 σ B) (hm : Sh12 σ (B + 165)) {nn : Nat → Nat} (hB0 : ITb f B nn) (hL : IL f g B) (hD : ID f B) {x y : Int} (rx : -2147483648 ≤ x ∧ x ≤ 2147483647) (ry : -2147483648 ≤ y ∧ y ≤ 2147483647) : ∃ (v : Int) (f1 f2 : FI), Ex mt 3 184 (il σ f g) [vR 11 (some B), vI x, vI y] (il σ f1 g, [vI v]) ∧ Ex mt 5 307 (il σ f1 g) [vR 12 (some (B + 165)), vI x, vI y] (il σ f2 g, [vI v]) ∧ True ∧ Fr (fun a k => a = B + 165 + 54 ∨ Scr2 B a k) f f2 := by
  by_cases hc : (0 ≤ x ∧ x ≤ 511) ∧ (0 ≤ y ∧ y ≤ 999)
  · obtain ⟨f1, E1, t1, F1⟩ := x_asTold (f := f) (g := g) hm
    have e : ∀ a, a ≠ B + 165 + 54 → f1 a = f a := fun a ha => by
      funext k
      exact F1 a k ha
    have eT : SameT f f1 B := fun a h1 h2 => e a (by omega)
    have et : ∀ i, i < 8 → f1 (B + 165 + 54) i = f (B + 145) i := fun i hi => by rw [t1 i hi, (hD i hi).1]
    obtain ⟨f2, E2, F2⟩ := x_seenAs (g := g) (f := f1) (p := x) (t := y) hm (hB0.fr eT fun a h1 h2 => e a (by omega)) (hL.fr (e _ (by omega)) (by rw [e _ (by omega)]) rfl) (fun i hi => by rw [et i hi]; exact (hD i hi).2.2) (by omega) (by omega)
    have E0 := x_watch (g := g) (p := x) (t := y) hs.o10 hB0.tcs (by omega) (by omega)
    have : sn (GK f1 g B (f1 (B + 165 + 54))) 100 y x = sn (GK f g B (f (B + 145))) 100 y x := sn_cong (fun t p hp => GK_of hp eT rfl et) 100 y x (by omega)
    rw [this] at E2
    exact ⟨_, f, f2, bk_X11_seen_0 hs ⟨fun z => absurd hc.1 z, fun _ => ⟨fun _ => ⟨f, g, _, E0, rfl⟩, fun z => absurd hc.2 z⟩⟩, bk_X12_seen_0 hm ⟨by omega, fun z => absurd hc.1 z, fun _ => ⟨by omega, fun _ => ⟨f1, g, E1, f2, g, _, E2, rfl⟩, fun z => absurd hc.2 z⟩⟩, trivial, fun a k hk => by rw [F2 a k (fun z => hk (Or.inr z)), F1 a k (fun z => hk (Or.inl z))]⟩
  · exact ⟨-1, f, f, bk_X11_seen_0 hs ⟨fun _ => rfl, fun e => ⟨fun e2 => absurd ⟨e, e2⟩ hc, fun _ => rfl⟩⟩, bk_X12_seen_0 hm ⟨by omega, fun _ => rfl, fun e => ⟨by omega, fun e2 => absurd ⟨e, e2⟩ hc, fun _ => rfl⟩⟩, trivial, Fr.rfl'⟩
