theorem nar_b {v : Int} (hv : -128 ≤ v ∧ v ≤ 127) : narrow .byte (.int (Int32.ofInt v)) = .int (Int32.ofInt v) := by
  rw [narrow_byte]
  congr 1
  rw [← Int32.toInt_inj, Int8.toInt_toInt32, Int32.toInt_toInt8, rg_toInt ⟨by omega, by omega⟩]
  rw [Int.bmod_eq_of_le_mul_two] <;> omega
theorem nar_z {v : Int} (hv : 0 ≤ v ∧ v ≤ 1) : narrow .boolean (.int (Int32.ofInt v)) = .int (Int32.ofInt v) := by
  rcases (by omega : v = 0 ∨ v = 1) with rfl | rfl <;> rfl
/-! the heap's rows, one by one -/
theorem kd_le : ∀ c, c < 13 → ∀ k, k < nFl c → fKd c k ≤ 22 := by decide +kernel
theorem ty_0 {ty : FieldType} (h : kdTy 0 ty = true) : ty = .int := by cases ty <;> first | rfl | cases h
theorem ty_1 {ty : FieldType} (h : kdTy 1 ty = true) : ty = .boolean := by cases ty <;> first | rfl | cases h
theorem ty_2 {ty : FieldType} (h : kdTy 2 ty = true) : ty = .long := by cases ty <;> first | rfl | cases h
theorem ty_3 {k : Nat} {ty : FieldType} (h : kdTy (k + 3) ty = true) : (∃ n, ty = .object n) ∨ ∃ t, ty = .array t := by
  cases ty <;> first | exact Or.inl ⟨_, rfl⟩ | exact Or.inr ⟨_, rfl⟩ | cases h
section KI
variable {p : Program} {l : Launch} {e : Env} {R : Room} {s : State} {m : MethodId} {args : Array Value} {below : List Frame} {meth : Method} {c : Code} {Q : State → Prop} {G : Gc} {n0 s0 own : Nat} {σ : St} {ls : Ls} {st : List Vl} {pc : Nat}

theorem k_getI (C : Cx G own p s m args) {i a b q : Nat} (hd : decode c.code pc = .ok (.getfield i, 3)) (hl : (own, i, a, b) ∈ tFL) (ha : a < 13) (hb : b < nFl a) (hk : fKd a b ≤ 1) (k : KW p l e R s m args below meth c Q G n0 s0 σ ls (vI (gI σ q b) :: st) (pc + 3)) : KW p l e R s m args below meth c Q G n0 s0 σ ls (vR a (some q) :: st) pc := by
  refine k_get (v := vI (gI σ q b)) C hd hl ha hb (fun H hR ht => ⟨?_, hR.2.2.2.2.2.1 q b⟩) k
  unfold fV
  rcases (by omega : fKd a b = 0 ∨ fKd a b = 1) with e | e <;> rw [e] <;> rfl
theorem k_getL (C : Cx G own p s m args) {i a b q : Nat} (hd : decode c.code pc = .ok (.getfield i, 3)) (hl : (own, i, a, b) ∈ tFL) (ha : a < 13) (hb : b < nFl a) (hk : fKd a b = 2) (k : KW p l e R s m args below meth c Q G n0 s0 σ ls (vL (gL σ q b) :: st) (pc + 3)) : KW p l e R s m args below meth c Q G n0 s0 σ ls (vR a (some q) :: st) pc := by
  refine k_get (v := vL (gL σ q b)) C hd hl ha hb (fun H hR ht => ⟨?_, trivial⟩) k
  unfold fV
  rw [hk]
  rfl
theorem k_getR (C : Cx G own p s m args) {i a b t q : Nat} (hd : decode c.code pc = .ok (.getfield i, 3)) (hl : (own, i, a, b) ∈ tFL) (ha : a < 13) (hb : b < nFl a) (hk : fKd a b = t + 3) (k : KW p l e R s m args below meth c Q G n0 s0 σ ls (vR t (gR σ q b) :: st) (pc + 3)) : KW p l e R s m args below meth c Q G n0 s0 σ ls (vR a (some q) :: st) pc := by
  refine k_get (v := vR t (gR σ q b)) C hd hl ha hb (fun H hR ht => ⟨?_, ?_⟩) k
  · unfold fV
    rw [hk]
    rfl
  · cases e : gR σ q b with
    | none => trivial
    | some x =>
      have := kd_le a ha b hb
      refine ⟨by omega, hR.2.2.2.2.2.2.1 q b t ?_ x e⟩
      rw [ht]
      unfold rTag
      rw [if_pos ha, if_pos (by omega), hk]
      rfl
theorem fV_oth {c a k j : Nat} {σ' : St} (hI : gI σ' a j = gI σ a j) (hL : gL σ' a j = gL σ a j) (hR : gR σ' a j = gR σ a j) {v : Value} (h : j ≠ k) : updV (fV σ c a) k v j = fV σ' c a j := by
  simp only [updV, if_neg h, fV, hI, hL, hR]
theorem k_putI (C : Cx G own p s m args) {i a b q x : Nat} {v : Int} (hd : decode c.code pc = .ok (.putfield i, 3)) (hl : (own, i, a, b) ∈ tFL) (ha : a < 13) (hb : b < nFl a) (hfin : (fTb a b).2.2.2 = false ∨ ((fTb a b).2.2.2 = true ∧ meth.name = "<init>" ∧ (fTb a b).1 = cnm own)) (hk : fKd a b = x) (hx : x = 0 ∨ (x = 1 ∧ 0 ≤ v ∧ v ≤ 1)) (k : KW p l e R s m args below meth c Q G n0 s0 (wI σ q b v) ls st (pc + 3)) : KW p l e R s m args below meth c Q G n0 s0 σ ls (vI v :: vR a (some q) :: st) pc := by
  have hty := kd_ty a ha b hb
  have hn : narrow (fTy a b) (cv (vI v)) = cv (vI v) ∧ fits (fTy a b) (cv (vI v)) = true := by
    rcases hx with rfl | ⟨rfl, h0, h1⟩
    · rw [hk] at hty
      rw [ty_0 hty]
      exact ⟨rfl, rfl⟩
    · rw [hk] at hty
      rw [ty_1 hty]
      rcases (by omega : v = 0 ∨ v = 1) with rfl | rfl <;> exact ⟨rfl, rfl⟩
  refine k_put (σ' := wI σ q b v) C hd hl ha hb hfin hn.1 hn.2 rfl rfl (fun hO => hO.pop.pop.mono fun _ _ => rfl) (fun H H' hR hO ht hq hz ho hT => ?_) k
  refine hR.setI hO.top hq hz ho (fun _ => ?_) (fun h => by omega)
  rw [ht]
  refine hT.to fun j _ => ?_
  by_cases e : j = b
  · subst e
    have hk2 : fKd a j ≤ 1 := by omega
    unfold updV fV
    rw [if_pos rfl]
    show _ = match fKd a j with | 0 => Value.int (Int32.ofInt (up2 (gI σ) q j v q j)) | 1 => Value.int (Int32.ofInt (up2 (gI σ) q j v q j)) | 2 => _ | _ => _
    rw [up2_at]
    rcases (by omega : fKd a j = 0 ∨ fKd a j = 1) with e | e <;> rw [e] <;> rfl
  · exact fV_oth (σ := σ) (σ' := wI σ q b v) (up2_oth e) rfl rfl e
theorem k_putL (C : Cx G own p s m args) {i a b q : Nat} {v : BitVec 64} (hd : decode c.code pc = .ok (.putfield i, 3)) (hl : (own, i, a, b) ∈ tFL) (ha : a < 13) (hb : b < nFl a) (hfin : (fTb a b).2.2.2 = false ∨ ((fTb a b).2.2.2 = true ∧ meth.name = "<init>" ∧ (fTb a b).1 = cnm own)) (hk : fKd a b = 2) (k : KW p l e R s m args below meth c Q G n0 s0 (wL σ q b v) ls st (pc + 3)) : KW p l e R s m args below meth c Q G n0 s0 σ ls (vL v :: vR a (some q) :: st) pc := by
  have hty := kd_ty a ha b hb
  rw [hk] at hty
  refine k_put (σ' := wL σ q b v) C hd hl ha hb hfin (by rw [ty_2 hty]; rfl) (by rw [ty_2 hty]; rfl) rfl rfl (fun hO => hO.pop.pop.mono fun _ _ => rfl) (fun H H' hR hO ht hq hz ho hT => ?_) k
  refine hR.setL hq hz ho (fun _ => ?_) (fun h => by omega)
  rw [ht]
  refine hT.to fun j _ => ?_
  by_cases e : j = b
  · subst e
    unfold updV fV
    rw [if_pos rfl, hk]
    show _ = Value.long (Int64.ofBitVec (up2 (gL σ) q j v q j))
    rw [up2_at]
    rfl
  · exact fV_oth (σ := σ) (σ' := wL σ q b v) rfl (up2_oth e) rfl e
theorem k_putR (C : Cx G own p s m args) {i a b q t : Nat} {v : Option Nat} (hd : decode c.code pc = .ok (.putfield i, 3)) (hl : (own, i, a, b) ∈ tFL) (ha : a < 13) (hb : b < nFl a) (hfin : (fTb a b).2.2.2 = false ∨ ((fTb a b).2.2.2 = true ∧ meth.name = "<init>" ∧ (fTb a b).1 = cnm own)) (hk : fKd a b = t + 3) (k : KW p l e R s m args below meth c Q G n0 s0 (wR σ q b v) ls st (pc + 3)) : KW p l e R s m args below meth c Q G n0 s0 σ ls (vR t v :: vR a (some q) :: st) pc := by
  have hty := kd_ty a ha b hb
  rw [hk] at hty
  have hn : narrow (fTy a b) (cv (vR t v)) = cv (vR t v) ∧ fits (fTy a b) (cv (vR t v)) = true := by
    rcases ty_3 hty with ⟨n, e⟩ | ⟨n, e⟩ <;> rw [e] <;> cases v <;> exact ⟨rfl, rfl⟩
  refine k_put (σ' := wR σ q b v) C hd hl ha hb hfin hn.1 hn.2 rfl rfl (fun hO => hO.pop.pop.mono fun _ _ => rfl) (fun H H' hR hO ht hq hz ho hT => ?_) k
  refine hR.setR (fun u hu x hx => ?_) hq hz ho (fun _ => ?_) (fun h => by omega)
  · rw [ht] at hu
    have := rTag_kd ha hu
    subst hx
    rw [hO.top.2]
    omega
  · rw [ht]
    refine hT.to fun j _ => ?_
    by_cases e : j = b
    · subst e
      unfold updV fV
      rw [if_pos rfl, hk]
      show _ = va_rf (up2 (gR σ) q j v q j)
      rw [up2_at]
      rfl
    · exact fV_oth (σ := σ) (σ' := wR σ q b v) rfl rfl (up2_oth e) e
theorem k_iald (C : Cx G own p s m args) {q : Nat} {i : Int} (hd : decode c.code pc = .ok (.iaload, 1)) (hi : 0 ≤ i ∧ i < (ln σ q : Int)) (k : KW p l e R s m args below meth c Q G n0 s0 σ ls (vI (gI σ q i.toNat) :: st) (pc + 1)) : KW p l e R s m args below meth c Q G n0 s0 σ ls (vI i :: vR 14 (some q) :: st) pc := by
  intro H locs lsJ hR hlo hL hO
  have ht : tg σ q = 14 := hO.pop.top.2
  obtain ⟨hb, hn, hc⟩ := hR.2.2.2.1 q (by omega) (by omega)
  rw [ht] at hc
  refine W.iald C.1 rfl hc ((C.2.2.2.2.1 14 (by omega) (by omega)).1 _ _) (fun h => by cases h) (by rw [arrV_size]; exact rg_inb hO.top hi) (v := cv (vI (gI σ q i.toNat))) ?_ rfl rfl hd (k H locs lsJ hR hlo hL (hO.pop.pop.push (v := vI (gI σ q i.toNat)) (hR.2.2.2.2.2.1 q i.toNat)))
  rw [rg_clamp hO.top, arrV_read _ _ (by omega)]
  rfl
theorem k_lald (C : Cx G own p s m args) {q : Nat} {i : Int} (hd : decode c.code pc = .ok (.laload, 1)) (hi : 0 ≤ i ∧ i < (ln σ q : Int)) (k : KW p l e R s m args below meth c Q G n0 s0 σ ls (vL (gL σ q i.toNat) :: st) (pc + 1)) : KW p l e R s m args below meth c Q G n0 s0 σ ls (vI i :: vR 15 (some q) :: st) pc := by
  intro H locs lsJ hR hlo hL hO
  have ht : tg σ q = 15 := hO.pop.top.2
  obtain ⟨hb, hn, hc⟩ := hR.2.2.2.1 q (by omega) (by omega)
  rw [ht] at hc
  refine W.lald C.1 rfl hc ((C.2.2.2.2.1 15 (by omega) (by omega)).1 _ _) (fun h => by cases h) (by rw [arrV_size]; exact rg_inb hO.top hi) (v := cv (vL (gL σ q i.toNat))) ?_ rfl rfl hd (k H locs lsJ hR hlo hL (hO.pop.pop.push (v := vL (gL σ q i.toNat)) (trivial)))
  rw [rg_clamp hO.top, arrV_read _ _ (by omega)]
  rfl
theorem k_bald (C : Cx G own p s m args) {q : Nat} {i : Int} (hd : decode c.code pc = .ok (.baload, 1)) (hi : 0 ≤ i ∧ i < (ln σ q : Int)) (k : KW p l e R s m args below meth c Q G n0 s0 σ ls (vI (gI σ q i.toNat) :: st) (pc + 1)) : KW p l e R s m args below meth c Q G n0 s0 σ ls (vI i :: vR 13 (some q) :: st) pc := by
  intro H locs lsJ hR hlo hL hO
  have ht : tg σ q = 13 := hO.pop.top.2
  obtain ⟨hb, hn, hc⟩ := hR.2.2.2.1 q (by omega) (by omega)
  rw [ht] at hc
  refine W.bald C.1 rfl hc ((C.2.2.2.2.1 13 (by omega) (by omega)).1 _ _) (fun h => by cases h) (by rw [arrV_size]; exact rg_inb hO.top hi) (v := cv (vI (gI σ q i.toNat))) ?_ rfl rfl hd (k H locs lsJ hR hlo hL (hO.pop.pop.push (v := vI (gI σ q i.toNat)) (hR.2.2.2.2.2.1 q i.toNat)))
  rw [rg_clamp hO.top, arrV_read _ _ (by omega)]
  rfl
theorem k_zald (C : Cx G own p s m args) {q : Nat} {i : Int} (hd : decode c.code pc = .ok (.baload, 1)) (hi : 0 ≤ i ∧ i < (ln σ q : Int)) (k : KW p l e R s m args below meth c Q G n0 s0 σ ls (vI (gI σ q i.toNat) :: st) (pc + 1)) : KW p l e R s m args below meth c Q G n0 s0 σ ls (vI i :: vR 16 (some q) :: st) pc := by
  intro H locs lsJ hR hlo hL hO
  have ht : tg σ q = 16 := hO.pop.top.2
  obtain ⟨hb, hn, hc⟩ := hR.2.2.2.1 q (by omega) (by omega)
  rw [ht] at hc
  refine W.zald C.1 rfl hc ((C.2.2.2.2.1 16 (by omega) (by omega)).1 _ _) (fun h => by cases h) (by rw [arrV_size]; exact rg_inb hO.top hi) (v := cv (vI (gI σ q i.toNat))) ?_ rfl rfl hd (k H locs lsJ hR hlo hL (hO.pop.pop.push (v := vI (gI σ q i.toNat)) (hR.2.2.2.2.2.1 q i.toNat)))
  rw [rg_clamp hO.top, arrV_read _ _ (by omega)]
  rfl
theorem k_fald (C : Cx G own p s m args) {q : Nat} {i : Int} (hd : decode c.code pc = .ok (.iaload, 1)) (hi : 0 ≤ i ∧ i < (ln σ q : Int)) (k : KW p l e R s m args below meth c Q G n0 s0 σ ls (vI (gI σ q i.toNat) :: st) (pc + 1)) : KW p l e R s m args below meth c Q G n0 s0 σ ls (vI i :: vR 20 (some q) :: st) pc := by
  intro H locs lsJ hR hlo hL hO
  have ht : tg σ q = 20 := hO.pop.top.2
  obtain ⟨hb, hz, hn, cell, h1, h2, h3, h4⟩ := hR.2.2.2.2.1 q ht
  have hc : H[q]? = some cell := by rw [hR.2.1 q hb]; exact h1
  refine W.iald C.1 rfl hc (C.2.2.2.2.2.2.2.2.2.2 q cell hz h1) h2 (fun z => rg_inb hO.top hi (z.imp_right fun y => Nat.le_trans h3.1 y)) (v := cv (vI (gI σ q i.toNat))) ?_ rfl rfl hd (k H locs lsJ hR hlo hL (hO.pop.pop.push (v := vI _) (hR.2.2.2.2.2.1 q i.toNat)))
  rw [rg_clamp hO.top, h4 _ (by omega)]
  rfl
theorem k_aald (C : Cx G own p s m args) {q a t : Nat} {i : Int} (hd : decode c.code pc = .ok (.aaload, 1)) (hat : (a, t) ∈ [(17, 7), (18, 10), (19, 15)]) (hi : 0 ≤ i ∧ i < (ln σ q : Int)) (k : KW p l e R s m args below meth c Q G n0 s0 σ ls (vR t (gR σ q i.toNat) :: st) (pc + 1)) : KW p l e R s m args below meth c Q G n0 s0 σ ls (vI i :: vR a (some q) :: st) pc := by
  intro H locs lsJ hR hlo hL hO
  have ht : tg σ q = a := hO.pop.top.2
  have ha : 17 ≤ a ∧ a < 20 ∧ t ≤ 20 ∧ rTag a i.toNat = some t ∧ (aTy a).isReference = true := by
    simp at hat
    rcases hat with ⟨rfl, rfl⟩ | ⟨rfl, rfl⟩ | ⟨rfl, rfl⟩ <;> exact ⟨by decide, by decide, by decide, rfl, rfl⟩
  obtain ⟨hb, hn, hc⟩ := hR.2.2.2.1 q (by omega) (by omega)
  rw [ht] at hc
  refine W.aald C.1 rfl hc ((C.2.2.2.2.1 a (by omega) (by omega)).1 _ _) ha.2.2.2.2 (fun h => by cases h) (by rw [arrV_size]; exact rg_inb hO.top hi) (v := cv (vR t (gR σ q i.toNat))) ?_ rfl rfl hd (k H locs lsJ hR hlo hL (hO.pop.pop.push (v := vR t _) ?_))
  · rw [rg_clamp hO.top, arrV_read _ _ (by omega)]
    unfold aV
    rw [if_neg (by omega), if_neg (by omega)]
    rfl
  · cases e : gR σ q i.toNat with
    | none => trivial
    | some x => exact ⟨ha.2.2.1, hR.2.2.2.2.2.2.1 q i.toNat t (by rw [ht]; exact ha.2.2.2.1) x e⟩
theorem k_alen (C : Cx G own p s m args) {q t : Nat} (hd : decode c.code pc = .ok (.arraylength, 1)) (ht : 13 ≤ t ∧ t ≤ 20) (hn : (ln σ q : Int) < 2147483648) (k : KW p l e R s m args below meth c Q G n0 s0 σ ls (vI (ln σ q) :: st) (pc + 1)) : KW p l e R s m args below meth c Q G n0 s0 σ ls (vR t (some q) :: st) pc := by
  intro H locs lsJ hR hlo hL hO
  have h : tg σ q = t := hO.top.2
  have k := k H locs lsJ hR hlo hL (hO.pop.push (v := vI (ln σ q)) ⟨by omega, by omega⟩)
  rcases (by omega : t < 20 ∨ t = 20) with h20 | h20
  · obtain ⟨hb, -, hc⟩ := hR.2.2.2.1 q (by omega) (by omega)
    rw [h] at hc
    exact W.alen C.1 rfl hc ((C.2.2.2.2.1 t (by omega) (by omega)).1 _ _) (by rw [arrV_size]; rfl) rfl rfl hd k
  · obtain ⟨hb, hz, -, cell, h1, h2, h3, h4⟩ := hR.2.2.2.2.1 q (by omega)
    have hc : H[q]? = some cell := by rw [hR.2.1 q hb]; exact h1
    exact W.alen C.1 rfl hc (C.2.2.2.2.2.2.2.2.2.2 q cell hz h1) (h3.2.trans rfl) rfl rfl hd k
theorem k_iast (C : Cx G own p s m args) {q : Nat} {i : Int} {v : Int} (hd : decode c.code pc = .ok (.iastore, 1)) (hi : 0 ≤ i ∧ i < (ln σ q : Int))  (k : KW p l e R s m args below meth c Q G n0 s0 (wI σ q i.toNat v) ls st (pc + 1)) : KW p l e R s m args below meth c Q G n0 s0 σ ls (vI v :: vI i :: vR 14 (some q) :: st) pc := by
  intro H locs lsJ hR hlo hL hO
  have ht : tg σ q = 14 := hO.pop.pop.top.2
  obtain ⟨hb, hn, hc⟩ := hR.2.2.2.1 q (by omega) (by omega)
  rw [ht] at hc
  refine W.iast C.1 rfl hc ((C.2.2.2.2.1 14 (by omega) (by omega)).1 _ _) (fun h => by cases h) (by rw [arrV_size]; exact rg_inb hO.pop.top hi) rfl rfl hd fun H' e1 e2 e3 => ?_
  rw [rg_clamp hO.pop.top, arrV_store] at e1
  refine k H' _ lsJ (hR.setI (hO.top) hb e2 e3 (fun h => by omega) (fun _ _ => ?_)) (fun x hx => ?_) hL (hO.pop.pop.pop.mono fun _ _ => rfl)
  · rw [e1, ht]
    congr 2
    funext j
    unfold updV aV
    by_cases e : j = i.toNat
    · subst e
      rw [if_pos rfl]
      simp [wI, gI, up2]
    · rw [if_neg e]
      show _ = _
      simp [wI, gI, gL, gR, up2, e]
  · rcases List.mem_append.mp hx with hx | hx
    · exact hlo x hx
    · rw [List.mem_singleton.mp hx]
      exact hb
theorem k_last (C : Cx G own p s m args) {q : Nat} {i : Int} {v : BitVec 64} (hd : decode c.code pc = .ok (.lastore, 1)) (hi : 0 ≤ i ∧ i < (ln σ q : Int))  (k : KW p l e R s m args below meth c Q G n0 s0 (wL σ q i.toNat v) ls st (pc + 1)) : KW p l e R s m args below meth c Q G n0 s0 σ ls (vL v :: vI i :: vR 15 (some q) :: st) pc := by
  intro H locs lsJ hR hlo hL hO
  have ht : tg σ q = 15 := hO.pop.pop.top.2
  obtain ⟨hb, hn, hc⟩ := hR.2.2.2.1 q (by omega) (by omega)
  rw [ht] at hc
  refine W.last C.1 rfl hc ((C.2.2.2.2.1 15 (by omega) (by omega)).1 _ _) (fun h => by cases h) (by rw [arrV_size]; exact rg_inb hO.pop.top hi) rfl rfl hd fun H' e1 e2 e3 => ?_
  rw [rg_clamp hO.pop.top, arrV_store] at e1
  refine k H' _ lsJ (hR.setL hb e2 e3 (fun h => by omega) (fun _ _ => ?_)) (fun x hx => ?_) hL (hO.pop.pop.pop.mono fun _ _ => rfl)
  · rw [e1, ht]
    congr 2
    funext j
    unfold updV aV
    by_cases e : j = i.toNat
    · subst e
      rw [if_pos rfl]
      simp [wL, gL, up2]
    · rw [if_neg e]
      show _ = _
      simp [wL, gI, gL, gR, up2, e]
  · rcases List.mem_append.mp hx with hx | hx
    · exact hlo x hx
    · rw [List.mem_singleton.mp hx]
      exact hb
theorem k_bast (C : Cx G own p s m args) {q : Nat} {i : Int} {v : Int} (hd : decode c.code pc = .ok (.bastore, 1)) (hi : 0 ≤ i ∧ i < (ln σ q : Int)) (hv : -128 ≤ v ∧ v ≤ 127) (k : KW p l e R s m args below meth c Q G n0 s0 (wI σ q i.toNat v) ls st (pc + 1)) : KW p l e R s m args below meth c Q G n0 s0 σ ls (vI v :: vI i :: vR 13 (some q) :: st) pc := by
  intro H locs lsJ hR hlo hL hO
  have ht : tg σ q = 13 := hO.pop.pop.top.2
  obtain ⟨hb, hn, hc⟩ := hR.2.2.2.1 q (by omega) (by omega)
  rw [ht] at hc
  refine W.bast C.1 rfl hc ((C.2.2.2.2.1 13 (by omega) (by omega)).1 _ _) (fun h => by cases h) (by rw [arrV_size]; exact rg_inb hO.pop.top hi) rfl rfl hd fun H' e1 e2 e3 => ?_
  rw [rg_clamp hO.pop.top, arrV_store, nar_b hv] at e1
  refine k H' _ lsJ (hR.setI (hO.top) hb e2 e3 (fun h => by omega) (fun _ _ => ?_)) (fun x hx => ?_) hL (hO.pop.pop.pop.mono fun _ _ => rfl)
  · rw [e1, ht]
    congr 2
    funext j
    unfold updV aV
    by_cases e : j = i.toNat
    · subst e
      rw [if_pos rfl]
      simp [wI, gI, up2]
    · rw [if_neg e]
      show _ = _
      simp [wI, gI, gL, gR, up2, e]
  · rcases List.mem_append.mp hx with hx | hx
    · exact hlo x hx
    · rw [List.mem_singleton.mp hx]
      exact hb
theorem k_zast (C : Cx G own p s m args) {q : Nat} {i : Int} {v : Int} (hd : decode c.code pc = .ok (.bastore, 1)) (hi : 0 ≤ i ∧ i < (ln σ q : Int)) (hv : 0 ≤ v ∧ v ≤ 1) (k : KW p l e R s m args below meth c Q G n0 s0 (wI σ q i.toNat v) ls st (pc + 1)) : KW p l e R s m args below meth c Q G n0 s0 σ ls (vI v :: vI i :: vR 16 (some q) :: st) pc := by
  intro H locs lsJ hR hlo hL hO
  have ht : tg σ q = 16 := hO.pop.pop.top.2
  obtain ⟨hb, hn, hc⟩ := hR.2.2.2.1 q (by omega) (by omega)
  rw [ht] at hc
  refine W.zast C.1 rfl hc ((C.2.2.2.2.1 16 (by omega) (by omega)).1 _ _) (fun h => by cases h) (by rw [arrV_size]; exact rg_inb hO.pop.top hi) rfl rfl hd fun H' e1 e2 e3 => ?_
  rw [rg_clamp hO.pop.top, arrV_store, nar_z hv] at e1
  refine k H' _ lsJ (hR.setI (hO.top) hb e2 e3 (fun h => by omega) (fun _ _ => ?_)) (fun x hx => ?_) hL (hO.pop.pop.pop.mono fun _ _ => rfl)
  · rw [e1, ht]
    congr 2
    funext j
    unfold updV aV
    by_cases e : j = i.toNat
    · subst e
      rw [if_pos rfl]
      simp [wI, gI, up2]
    · rw [if_neg e]
      show _ = _
      simp [wI, gI, gL, gR, up2, e]
  · rcases List.mem_append.mp hx with hx | hx
    · exact hlo x hx
    · rw [List.mem_singleton.mp hx]
      exact hb
end KI
