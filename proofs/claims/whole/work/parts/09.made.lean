/-! what is made -/
theorem rTag_lt {c k t : Nat} (h : rTag c k = some t) : t < 20 := by
  unfold rTag at h
  split at h
  · rename_i hc
    split at h
    · cases h
      by_cases hk : k < nFl c
      · have := kd_le c hc k hk
        omega
      · have e : fKd c k = 0 := by
          unfold fKd
          have hl : (fKdL.getD c []).length ≤ k := by
            have : ∀ c, c < 13 → (fKdL.getD c []).length = nFl c := by decide +kernel
            rw [this c hc]; omega
          rw [List.getD_eq_getElem?_getD, List.getElem?_eq_none hl]
          rfl
        omega
    · cases h
  · repeat' split at h
    all_goals first | (cases h; decide) | cases h
theorem Rel.lt {G : Gc} {σ : St} {H : Heap} (h : Rel G σ H) {b : Nat} (hb : tg σ b ≤ 20) : b < nx σ := by
  rw [← h.1.1]
  rcases (by omega : tg σ b < 13 ∨ (13 ≤ tg σ b ∧ tg σ b < 20) ∨ tg σ b = 20) with q | q | q
  · obtain ⟨-, cell, q1, -⟩ := h.2.2.1 b q
    exact (Array.getElem?_eq_some_iff.mp q1).1
  · exact (Array.getElem?_eq_some_iff.mp (h.2.2.2.1 b q.1 q.2).2.2).1
  · have := (h.2.2.2.2.1 b q).1
    have := h.1.1
    have := h.1.2.1
    omega
theorem Rel.mk' {G : Gc} {σ : St} {H H' : Heap} (h : Rel G σ H) {t n z : Nat} (ht : t < 20) (hz : H'.size = H.size + 1) (ho : ∀ q, q < H.size → H'[q]? = H[q]?) (hobj : t < 13 → t_OB (nx σ) (gC G t) (nFl t) (gD G t) H' (fV (mk σ t n z) t (nx σ))) (harr : 13 ≤ t → n < 2147483648 ∧ H'[nx σ]? = some (arrV (gA G t) n (aV (mk σ t n z) t (nx σ)))) : Rel G (mk σ t n z) H' := by
  have hlt := fun {b : Nat} (hb : tg σ b ≤ 20) => h.lt hb
  obtain ⟨⟨h1, h2, h3⟩, h4, h5, h6, h7, h8, h9, h10⟩ := h
  have et : ∀ b, b ≠ nx σ → tg (mk σ t n z) b = tg σ b := fun b e => up1_ne e
  have el : ∀ b, b ≠ nx σ → ln (mk σ t n z) b = ln σ b := fun b e => up1_ne e
  have eI : ∀ b, b ≠ nx σ → gI (mk σ t n z) b = gI σ b := fun b e => up1_ne e
  have eL : ∀ b, b ≠ nx σ → gL (mk σ t n z) b = gL σ b := fun b e => up1_ne e
  have eR : ∀ b, b ≠ nx σ → gR (mk σ t n z) b = gR σ b := fun b e => up1_ne e
  have e0 : tg (mk σ t n z) (nx σ) = t := up1_at
  have e1 : ln (mk σ t n z) (nx σ) = n := up1_at
  have e2 : gI (mk σ t n z) (nx σ) = fun _ => 0 := up1_at
  have e3 : gR (mk σ t n z) (nx σ) = fun _ => none := up1_at
  have en : nx (mk σ t n z) = nx σ + 1 := rfl
  refine ⟨⟨by rw [hz, h1, en], by rw [en]; omega, h3⟩, fun q hq => by rw [ho q (by omega)]; exact h4 q hq, ?_, ?_, ?_, ?_, ?_, ?_⟩
  · intro b hb
    by_cases e : b = nx σ
    · subst e
      rw [e0] at hb ⊢
      exact ⟨h2, hobj hb⟩
    · rw [et b e] at hb ⊢
      refine ⟨(h5 b hb).1, ((h5 b hb).2.kept (ho b ?_)).to fun k _ => ?_⟩
      · rw [h1]; exact hlt (by omega)
      · simp only [fV, eI b e, eL b e, eR b e]
  · intro b hb hb2
    by_cases e : b = nx σ
    · subst e
      rw [e0] at hb hb2 ⊢
      rw [e1]
      exact ⟨h2, harr hb⟩
    · rw [et b e] at hb hb2 ⊢
      rw [el b e]
      refine ⟨(h6 b hb hb2).1, (h6 b hb hb2).2.1, ?_⟩
      rw [ho b (by rw [h1]; exact hlt (by omega)), (h6 b hb hb2).2.2]
      congr 2
      funext k
      simp only [aV, eI b e, eL b e, eR b e]
  · intro b hb
    by_cases e : b = nx σ
    · subst e
      rw [e0] at hb
      omega
    · rw [et b e] at hb
      rw [el b e, eI b e]
      exact h7 b hb
  · intro b k
    by_cases e : b = nx σ
    · subst e
      rw [e2]
      exact rg_0
    · rw [eI b e]
      exact h8 b k
  · intro b k u hb q hq
    by_cases e : b = nx σ
    · subst e
      rw [e3] at hq
      cases hq
    · rw [et b e] at hb
      rw [eR b e] at hq
      have := h9 b k u hb q hq
      have hu := rTag_lt hb
      rw [et q (fun x => by have := hlt (b := q) (by omega); omega)]
      exact this
  · intro i hi q hq
    rw [eR 0 (by omega)] at hq
    obtain ⟨a1, a2⟩ := h10 i hi q hq
    refine ⟨a1, ?_⟩
    rw [et q (fun x => by have := hlt (b := q) (by omega); omega)]
    exact a2
theorem OKs.mk' {G : Gc} {σ : St} {H : Heap} (h : Rel G σ H) {ls : Ls} {st : List Vl} {t n z : Nat} (hO : OKs σ ls st) : OKs (mk σ t n z) ls st := hO.mono fun b hb => up1_ne (fun e => by have := h.lt hb; omega)
theorem fV_new {σ : St} {t n z : Nat} (ht : t < 13) (k : Nat) (hk : k < nFl t) : defaultValue (fTy t k) = fV (mk σ t n z) t (nx σ) k := by
  have hty := kd_ty t ht k hk
  have e2 : gI (mk σ t n z) (nx σ) = fun _ => 0 := up1_at
  have e3 : gR (mk σ t n z) (nx σ) = fun _ => none := up1_at
  have e4 : gL (mk σ t n z) (nx σ) = fun _ => 0 := up1_at
  unfold fV
  rw [e2, e3, e4]
  rcases (show fKd t k = 0 ∨ fKd t k = 1 ∨ fKd t k = 2 ∨ ∃ j, fKd t k = j + 3 from by
    match fKd t k with
    | 0 => exact Or.inl rfl
    | 1 => exact Or.inr (Or.inl rfl)
    | 2 => exact Or.inr (Or.inr (Or.inl rfl))
    | j + 3 => exact Or.inr (Or.inr (Or.inr ⟨j, rfl⟩))) with e | e | e | ⟨j, e⟩
  · rw [e] at hty ⊢; rw [ty_0 hty]; rfl
  · rw [e] at hty ⊢; rw [ty_1 hty]; rfl
  · rw [e] at hty ⊢; rw [ty_2 hty]; rfl
  · rw [e] at hty ⊢
    rcases ty_3 hty with ⟨_, q⟩ | ⟨_, q⟩ <;> rw [q] <;> rfl
  
section KJ
variable {p : Program} {l : Launch} {e : Env} {R : Room} {s : State} {m : MethodId} {args : Array Value} {below : List Frame} {meth : Method} {c : Code} {Q : State → Prop} {G : Gc} {n0 s0 own : Nat} {σ : St} {ls : Ls} {st : List Vl} {pc : Nat}

theorem k_newa (C : Cx G own p s m args) {at_ : ArrayType} {t : Nat} {n : Int} (hd : decode c.code pc = .ok (.newarray at_, 2)) (ht : (at_ = .byte ∧ t = 13) ∨ (at_ = .int ∧ t = 14) ∨ (at_ = .long ∧ t = 15) ∨ (at_ = .boolean ∧ t = 16)) (hn : 0 ≤ n ∧ n ≤ 1000000) (hn0 : n0 ≤ nx σ) (hs0 : s0 ≤ sl σ) (hc : nx σ - n0 + 1 ≤ R.cells) (hs : sl σ - s0 + n.toNat ≤ R.slots)
    (k : KW p l e R s m args below meth c Q G n0 s0 (mk σ t n.toNat n.toNat) ls (vR t (some (nx σ)) :: st) (pc + 2)) : KW p l e R s m args below meth c Q G n0 s0 σ ls (vI n :: st) pc := by
  intro H locs lsJ hR hlo hL hO
  have hty : newarray.typeOf at_ = aTy t ∧ 13 ≤ t ∧ t < 17 := by
    rcases ht with ⟨rfl, rfl⟩ | ⟨rfl, rfl⟩ | ⟨rfl, rfl⟩ | ⟨rfl, rfl⟩ <;> exact ⟨rfl, by decide, by decide⟩
  have harr : (Cond.arrayClass (newarray.typeOf at_)).before args s = true := by
    refine C.2.2.1 _ (gt_of (tOd_in _ ?_))
    rcases ht with ⟨rfl, rfl⟩ | ⟨rfl, rfl⟩ | ⟨rfl, rfl⟩ | ⟨rfl, rfl⟩ <;> simp [tOd, newarray.typeOf]
  have hra := (C.2.2.2.2.1 t (by omega) (by omega)).2
  refine W.newa C.1 rfl harr rfl hd rfl (by rw [show (0 : Int32) = Int32.ofInt 0 from rfl, rg_lt hO.top rg_0]; omega) ?_ hc (by rw [rg_clamp hO.top]; exact hs) fun cA kA comp g1 g2 g3 => ?_
  · rw [rg_clamp hO.top]
    have : componentBytes (newarray.typeOf at_) ≤ 8 := by
      rcases ht with ⟨rfl, -⟩ | ⟨rfl, -⟩ | ⟨rfl, -⟩ | ⟨rfl, -⟩ <;> decide
    calc n.toNat * _ ≤ 1000000 * 8 := Nat.mul_le_mul (by omega) this
      _ ≤ _ := by decide
  · have hcA : cA = gA G t := by
      rw [hty.1] at g1
      rcases ht with ⟨rfl, rfl⟩ | ⟨rfl, rfl⟩ | ⟨rfl, rfl⟩ | ⟨rfl, rfl⟩ <;> exact Option.some.inj (g1.symm.trans hra)
    subst hcA
    rw [rg_clamp hO.top, hR.1.1, hty.1, arrV_new]
    have := k (H.push (arrV (gA G t) n.toNat fun _ => defaultValue (aTy t))) locs lsJ (hR.mk' (by omega) (by simp) (fun q hq => by rw [Array.getElem?_push, if_neg (by omega)]) (fun h => by omega) (fun _ => ⟨by omega, ?_⟩)) hlo hL ((hO.pop.mk' hR).push ⟨by omega, up1_at⟩)
    · rw [show nx (mk σ t n.toNat n.toNat) - n0 = nx σ - n0 + 1 by show nx σ + 1 - n0 = _; omega, show sl (mk σ t n.toNat n.toNat) - s0 = sl σ - s0 + n.toNat by show sl σ + n.toNat - s0 = _; omega] at this
      exact this
    · rw [← hR.1.1]
      simp only [Array.getElem?_push, if_pos]
      congr 2
      funext j
      have e2 : gI (mk σ t n.toNat n.toNat) (nx σ) = fun _ => 0 := up1_at
      have e4 : gL (mk σ t n.toNat n.toNat) (nx σ) = fun _ => 0 := up1_at
      unfold aV
      rw [hR.1.1, e2, e4]
      rcases ht with ⟨rfl, rfl⟩ | ⟨rfl, rfl⟩ | ⟨rfl, rfl⟩ | ⟨rfl, rfl⟩ <;> rfl
theorem k_anew (C : Cx G own p s m args) {i t u : Nat} {n : Int} (hd : decode c.code pc = .ok (.anewarray i, 3)) (hl : (own, i, u) ∈ tNA) (ht : (u = 7 ∧ t = 17) ∨ (u = 10 ∧ t = 18)) (hn : 0 ≤ n ∧ n ≤ 1000000) (hn0 : n0 ≤ nx σ) (hs0 : s0 ≤ sl σ) (hc : nx σ - n0 + 1 ≤ R.cells) (hs : sl σ - s0 + n.toNat ≤ R.slots)
    (k : KW p l e R s m args below meth c Q G n0 s0 (mk σ t n.toNat n.toNat) ls (vR t (some (nx σ)) :: st) (pc + 3)) : KW p l e R s m args below meth c Q G n0 s0 σ ls (vI n :: st) pc := by
  intro H locs lsJ hR hlo hL hO
  have hty : aTy t = .object (cnm u) ∧ 17 ≤ t ∧ t < 19 := by
    rcases ht with ⟨rfl, rfl⟩ | ⟨rfl, rfl⟩ <;> exact ⟨rfl, by decide, by decide⟩
  have hov : (Cond.arrayOver (.object (cnm u))).before args s = true := by
    rcases ht with ⟨rfl, rfl⟩ | ⟨rfl, rfl⟩
    · exact C.2.2.2.2.2.2.1.1.use
    · exact C.2.2.2.2.2.2.1.2.1.use
  have hra := (C.2.2.2.2.1 t (by omega) (by omega)).2
  refine W.anew C.1 rfl C.2.1 (C.2.2.1 _ (gt_of (tNA_in _ (List.mem_map_of_mem hl)))) hov rfl hd rfl (by rw [show (0 : Int32) = Int32.ofInt 0 from rfl, rg_lt hO.top rg_0]; omega) ?_ hc (by rw [rg_clamp hO.top]; exact hs) fun cA kA comp g1 g2 g3 g4 => ?_
  · rw [rg_clamp hO.top]
    omega
  · have hcA : cA = gA G t := by
      rw [hty.1] at hra
      obtain ⟨_, _, _, _, _, g⟩ := hra
      exact Option.some.inj (g1.symm.trans g)
    subst hcA
    rw [rg_clamp hO.top, hR.1.1, arrV_new]
    have := k (H.push (arrV (gA G t) n.toNat fun _ => .null)) locs lsJ (hR.mk' (by omega) (by simp) (fun q hq => by rw [Array.getElem?_push, if_neg (by omega)]) (fun h => by omega) (fun _ => ⟨by omega, ?_⟩)) hlo hL ((hO.pop.mk' hR).push ⟨by omega, up1_at⟩)
    · rw [show nx (mk σ t n.toNat n.toNat) - n0 = nx σ - n0 + 1 by show nx σ + 1 - n0 = _; omega, show sl (mk σ t n.toNat n.toNat) - s0 = sl σ - s0 + n.toNat by show sl σ + n.toNat - s0 = _; omega] at this
      exact this
    · rw [← hR.1.1]
      simp only [Array.getElem?_push, if_pos]
      congr 2
      funext j
      have e2 : gR (mk σ t n.toNat n.toNat) (nx σ) = fun _ => none := up1_at
      unfold aV
      rw [hR.1.1, e2, if_neg (by omega), if_neg (by omega)]
      rfl
theorem k_new (C : Cx G own p s m args) {i t : Nat} (hd : decode c.code pc = .ok (.new i, 3)) (hl : (own, i, t) ∈ tCL) (ht : t < 13) (hn0 : n0 ≤ nx σ) (hs0 : s0 ≤ sl σ) (hc : nx σ - n0 + 1 ≤ R.cells) (hs : sl σ - s0 + nFl t ≤ R.slots)
    (k : KW p l e R s m args below meth c Q G n0 s0 (mk σ t 0 (nFl t)) ls (vR t (some (nx σ)) :: st) (pc + 3)) : KW p l e R s m args below meth c Q G n0 s0 σ ls st pc := by
  intro H locs lsJ hR hlo hL hO
  have hKn := C.2.2.2.1 t _ (cl_at t ht)
  have hin : t ∈ tLy := by
    have : ∀ t, t < 13 → t ∈ tLy := by decide +kernel
    exact this t ht
  have hin2 : t ∈ tCi := by
    have : ∀ t, t < 13 → t ∈ tCi := by decide +kernel
    exact this t ht
  refine W.newcK C.1 rfl C.2.1 (C.2.2.1 _ (gt_of (tCL_in _ (List.mem_map_of_mem hl)))) (C.2.2.1 _ (gt_of (tLy_in _ (List.mem_map_of_mem hin)))) (C.2.2.1 _ (gt_of (tCi_in _ (List.mem_map_of_mem hin2)))) rfl hd hc hs hKn.2.1 hR.1.1 fun H1 kC hkC e1 z1 o1 => ?_
  have := k H1 locs lsJ (hR.mk' (n := 0) (z := nFl t) (by omega) (by rw [z1, hR.1.1]) (fun q hq => o1 q (by rw [← hR.1.1]; exact hq)) (fun _ => (u_born (fTy t) C.2.2.1 (cl_ws t ht) hKn hkC e1 (cl_ty t ht)).to (fun j hj => fV_new ht j hj)) (fun h => by omega)) hlo hL ((hO.mk' hR).push ⟨by omega, up1_at⟩)
  rw [show nx (mk σ t 0 (nFl t)) - n0 = nx σ - n0 + 1 by show nx σ + 1 - n0 = _; omega, show sl (mk σ t 0 (nFl t)) - s0 = sl σ - s0 + nFl t by show sl σ + nFl t - s0 = _; omega] at this
  exact this
theorem k_oinit (C : Cx G own p s m args) {i u q : Nat} (hd : decode c.code pc = .ok (.invokespecial i, 3)) (hl : (own, i) ∈ tOI) (hw : stW st ≤ 8) (hf : 1 ≤ R.frames) (hlo : 20 ≤ R.locals) (k : KW p l e R s m args below meth c Q G n0 s0 σ ls st (pc + 3)) : KW p l e R s m args below meth c Q G n0 s0 σ ls (vR u (some q) :: st) pc := by
  intro H locs lsJ hR hl2 hL hO
  refine W.objInit C.1 rfl C.2.1 (C.2.2.1 _ (gt_of (tOI_in _ (List.mem_map_of_mem hl)))) (C.2.2.1 _ (gt_of (tOd_in _ ?_))) (C.2.2.1 _ (gt_of (tOd_in _ ?_))) rfl hL.1 rfl hd hf ?_ (k H locs lsJ hR hl2 hL hO.pop)
  · simp [tOd]
  · simp [tOd]
  · have := cv_sum st
    show 2 * 0 + _ + 12 ≤ _
    omega
theorem k_gets (C : Cx G own p s m args) {i a q : Nat} {nm : String} (hd : decode c.code pc = .ok (.getstatic i, 3)) (ha : (a = 0 ∧ nm = "SHIFT") ∨ (a = 1 ∧ nm = "GREATEST")) (hl : (Cond.fieldLink (cnm own) i "WishWays" nm "[I").before args s = true) (hq : stA σ a = some q) (k : KW p l e R s m args below meth c Q G n0 s0 σ ls (vR 20 (some q) :: st) (pc + 3)) : KW p l e R s m args below meth c Q G n0 s0 σ ls st pc := by
  intro H locs lsJ hR hlo hL hO
  obtain ⟨e1, e2⟩ := hR.2.2.2.2.2.2.2 a (by omega) q hq
  have hz : va_Z "WishWays" nm "[I" (.ref q) (fun x => gB G ≤ x) s (gH G) := by
    rcases ha with ⟨rfl, rfl⟩ | ⟨rfl, rfl⟩
    · rw [e1]; exact C.2.2.2.2.2.2.2.2.2.1.1
    · rw [e1]; exact C.2.2.2.2.2.2.2.2.2.1.2
  obtain ⟨cf, kf, fi, f, a1, cell, h1, h2, h3, h4, h5, h6, h7, h8⟩ := hz
  refine W.gets C.1 rfl C.2.1 hl h1 h2 h3 h4 (by rw [hR.2.1 a1 (by simpa using h8)]; exact h5) (fun hh => by rw [hh] at h6; cases h6) h7 rfl hd (k H locs lsJ hR hlo hL (hO.push ⟨by omega, e2⟩))
end KJ
