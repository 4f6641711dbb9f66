theorem as_self {s : State} {c : ClassId} {k : Class} (h : s.vm.classes[c]? = some k) : s.vm.assignable c c = true := by
  show Vm.assignableAux s.vm (255 + 1) c c = true
  rw [Vm.assignableAux]
  simp only [BEq.rfl, Bool.true_or]
section KC
variable {p : Program} {l : Launch} {e : Env} {R : Room} {s : State} {m : MethodId} {args : Array Value} {below : List Frame} {meth : Method} {c : Code} {Q : State → Prop} {G : Gc} {n0 s0 own : Nat} {σ : St} {ls : Ls} {st : List Vl} {pc : Nat}
theorem k_cpyI (C : Cx G own p s m args) {i d q : Nat} {n dp sp : Int} (hd : decode c.code pc = .ok (.invokestatic i, 3)) (hl : (own, i) ∈ tAC) (hh : 0 ≤ n ∧ 0 ≤ dp ∧ 0 ≤ sp ∧ sp + n ≤ (ln σ q : Int) ∧ dp + n ≤ (ln σ d : Int)) (hw : stW st ≤ 8) (hf : 1 ≤ R.frames) (hlo : 40 ≤ R.locals)
    (k : KW p l e R s m args below meth c Q G n0 s0 (aI σ d (cpyF (gI σ q) (gI σ d) sp.toNat dp.toNat n.toNat)) ls st (pc + 3)) : KW p l e R s m args below meth c Q G n0 s0 σ ls (vI n :: vI dp :: vR 14 (some d) :: vI sp :: vR 14 (some q) :: st) pc := by
  intro H locs lsJ hR hl2 hL hO
  have hrn := hO.top
  have hrd := hO.pop.top
  have hrs := hO.pop.pop.pop.top
  have htd : tg σ d = 14 := hO.pop.pop.top.2
  have htq : tg σ q = 14 := hO.pop.pop.pop.pop.top.2
  obtain ⟨hbd, hnd, hcd⟩ := hR.2.2.2.1 d (by omega) (by omega)
  obtain ⟨hbq, hnq, hcq⟩ := hR.2.2.2.1 q (by omega) (by omega)
  rw [htd] at hcd
  rw [htq] at hcq
  have nn : ∀ z : Int, Rg z → 0 ≤ z → ¬ Int32.ofInt z < 0 := fun z hz h0 => by
    rw [show (0 : Int32) = Int32.ofInt 0 from rfl, rg_lt hz rg_0]
    omega
  have hA := (C.2.2.2.2.1 14 (by omega) (by omega)).1
  intro T hT X
  obtain ⟨-, k0, hk0, cm0, hkk0⟩ := hA (ln σ q) (aV σ 14 q)
  obtain ⟨-, k1, hk1, cm1, hkk1⟩ := hA (ln σ d) (aV σ 14 d)
  obtain ⟨vm', X', step⟩ := X.arraycopy C.1 C.2.1 (C.2.2.1 _ (gt_of (tAC_in _ (List.mem_map_of_mem hl)))) (C.2.2.1 _ (gt_of (tOd_in _ (by simp [tOd])))) (C.2.2.1 _ (gt_of (tOd_in _ (by simp [tOd])))) (C.2.2.1 _ (gt_of (tOd_in _ (by simp [tOd])))) (src := q) (dst := d) (cs := arrV (gA G 14) (ln σ q) (aV σ 14 q)) (cd := arrV (gA G 14) (ln σ d) (aV σ 14 d)) (srcPos := Int32.ofInt sp) (destPos := Int32.ofInt dp) (n := Int32.ofInt n) (by rw [hT]; exact hcq) (by rw [hT]; exact hcd)
    (fun _ h => by cases h) (fun _ h => by cases h) (fun h => by cases h) (fun h => by cases h) hk0 hk1 hkk0 hkk1 (by simp [aTy, refKind]) (nn sp hrs hh.2.2.1) (nn dp hrd hh.2.1) (nn n hrn hh.1)
    (by rw [rg_toInt hrs, rg_toInt hrn, arrV_size]; omega)
    (by rw [rg_toInt hrd, rg_toInt hrn, arrV_size]; omega)
    (fun vm₁ _ j hj => by
      rw [rg_clamp hrn] at hj
      have e : (arrV (gA G 14) (ln σ q) (aV σ 14 q)).slots.getD ((Int32.ofInt sp).toNatClampNeg + j) .null = Value.int (Int32.ofInt (gI σ q (sp.toNat + j))) := by
        rw [Array.getD_eq_getD_getElem?, rg_clamp hrs, arrV_read _ _ (by omega)]
        rfl
      refine ⟨?_, ?_⟩
      · rw [e]
        rfl
      · rw [e]
        exact trivial)
    (g := F0 m pc lsJ (List.map cv (vI n :: vI dp :: vR 14 (some d) :: vI sp :: vR 14 (some q) :: st))) rfl hL.1 (rest := st.map cv) rfl hd hf (by
      have := cv_sum st
      show 2 * 0 + _ + (nativeFrameWords "java/lang/System" "arraycopy" 5 + 11) ≤ _
      have : nativeFrameWords "java/lang/System" "arraycopy" 5 = 7 := by decide +kernel
      omega)
  have e1 : copied (arrV (gA G 14) (ln σ q) (aV σ 14 q)) (arrV (gA G 14) (ln σ d) (aV σ 14 d)) (Int32.ofInt sp) (Int32.ofInt dp) (Int32.ofInt n) = arrV (gA G 14) (ln σ d) (aV (aI σ d (cpyF (gI σ q) (gI σ d) sp.toNat dp.toNat n.toNat)) 14 d) := by
    unfold copied
    rw [rg_clamp hrs, rg_clamp hrd, rg_clamp hrn]
    rw [show aV σ 14 q = (fun j => Value.int (Int32.ofInt (gI σ q j))) from rfl, show aV σ 14 d = (fun j => Value.int (Int32.ofInt (gI σ d j))) from rfl]
    rw [va_copied (fun z => Value.int (Int32.ofInt z)) (gA G 14) (gA G 14) (gI σ q) (gI σ d) (by omega)]
    congr 1
    funext j
    show _ = Value.int (Int32.ofInt (up1 (gI σ) d (cpyF (gI σ q) (gI σ d) sp.toNat dp.toNat n.toNat) d j))
    rw [up1_at]
    rfl
  rw [e1] at X' step
  have hdl : d < H.size := (Array.getElem?_eq_some_iff.mp hcd).1
  generalize hnew : arrV (gA G 14) (ln σ d) (aV (aI σ d (cpyF (gI σ q) (gI σ d) sp.toNat dp.toNat n.toNat)) 14 d) = new at X' step
  have hheap : ((T.setVm vm').setCell d new).heap = H.setIfInBounds d new := by rw [← hT]; rfl
  have oq : ∀ x : Nat, x ≠ d → (H.setIfInBounds d new)[x]? = H[x]? := fun x hx => by simp [Array.getElem?_setIfInBounds, Ne.symm hx]
  obtain ⟨t, a1, b1⟩ := k (H.setIfInBounds d new) _ lsJ (hR.at (σ' := aI σ d (cpyF (gI σ q) (gI σ d) sp.toNat dp.toNat n.toNat)) rfl rfl rfl (fun b e => up1_ne e) (fun b e => rfl) (fun b e => rfl) hbd (by simp) oq (fun h => by omega) (fun _ _ => by rw [htd, hnew]; simp [Array.getElem?_setIfInBounds, hdl]) (fun j => by
      show Rg (up1 (gI σ) d (cpyF (gI σ q) (gI σ d) sp.toNat dp.toNat n.toNat) d j)
      rw [up1_at]
      unfold cpyF
      split
      · exact hR.2.2.2.2.2.1 q _
      · exact hR.2.2.2.2.2.1 d _) (fun j t hk b hb => hR.2.2.2.2.2.2.1 d j t hk b hb)) (fun x hx => by
      rcases List.mem_append.mp hx with h | h
      · exact hl2 x h
      · obtain ⟨z, -, hz⟩ := List.mem_map.mp h
        rw [← hz]
        exact hbd) hL (hO.pop.pop.pop.pop.pop.mono fun _ _ => rfl) _ hheap X'
  exact ⟨t, step t a1, b1⟩
theorem k_cpyL (C : Cx G own p s m args) {i d q : Nat} {n dp sp : Int} (hd : decode c.code pc = .ok (.invokestatic i, 3)) (hl : (own, i) ∈ tAC) (hh : 0 ≤ n ∧ 0 ≤ dp ∧ 0 ≤ sp ∧ sp + n ≤ (ln σ q : Int) ∧ dp + n ≤ (ln σ d : Int)) (hw : stW st ≤ 8) (hf : 1 ≤ R.frames) (hlo : 40 ≤ R.locals)
    (k : KW p l e R s m args below meth c Q G n0 s0 (aL σ d (cpyF (gL σ q) (gL σ d) sp.toNat dp.toNat n.toNat)) ls st (pc + 3)) : KW p l e R s m args below meth c Q G n0 s0 σ ls (vI n :: vI dp :: vR 15 (some d) :: vI sp :: vR 15 (some q) :: st) pc := by
  intro H locs lsJ hR hl2 hL hO
  have hrn := hO.top
  have hrd := hO.pop.top
  have hrs := hO.pop.pop.pop.top
  have htd : tg σ d = 15 := hO.pop.pop.top.2
  have htq : tg σ q = 15 := hO.pop.pop.pop.pop.top.2
  obtain ⟨hbd, hnd, hcd⟩ := hR.2.2.2.1 d (by omega) (by omega)
  obtain ⟨hbq, hnq, hcq⟩ := hR.2.2.2.1 q (by omega) (by omega)
  rw [htd] at hcd
  rw [htq] at hcq
  have nn : ∀ z : Int, Rg z → 0 ≤ z → ¬ Int32.ofInt z < 0 := fun z hz h0 => by
    rw [show (0 : Int32) = Int32.ofInt 0 from rfl, rg_lt hz rg_0]
    omega
  have hA := (C.2.2.2.2.1 15 (by omega) (by omega)).1
  intro T hT X
  obtain ⟨-, k0, hk0, cm0, hkk0⟩ := hA (ln σ q) (aV σ 15 q)
  obtain ⟨-, k1, hk1, cm1, hkk1⟩ := hA (ln σ d) (aV σ 15 d)
  obtain ⟨vm', X', step⟩ := X.arraycopy C.1 C.2.1 (C.2.2.1 _ (gt_of (tAC_in _ (List.mem_map_of_mem hl)))) (C.2.2.1 _ (gt_of (tOd_in _ (by simp [tOd])))) (C.2.2.1 _ (gt_of (tOd_in _ (by simp [tOd])))) (C.2.2.1 _ (gt_of (tOd_in _ (by simp [tOd])))) (src := q) (dst := d) (cs := arrV (gA G 15) (ln σ q) (aV σ 15 q)) (cd := arrV (gA G 15) (ln σ d) (aV σ 15 d)) (srcPos := Int32.ofInt sp) (destPos := Int32.ofInt dp) (n := Int32.ofInt n) (by rw [hT]; exact hcq) (by rw [hT]; exact hcd)
    (fun _ h => by cases h) (fun _ h => by cases h) (fun h => by cases h) (fun h => by cases h) hk0 hk1 hkk0 hkk1 (by simp [aTy, refKind]) (nn sp hrs hh.2.2.1) (nn dp hrd hh.2.1) (nn n hrn hh.1)
    (by rw [rg_toInt hrs, rg_toInt hrn, arrV_size]; omega)
    (by rw [rg_toInt hrd, rg_toInt hrn, arrV_size]; omega)
    (fun vm₁ _ j hj => by
      rw [rg_clamp hrn] at hj
      have e : (arrV (gA G 15) (ln σ q) (aV σ 15 q)).slots.getD ((Int32.ofInt sp).toNatClampNeg + j) .null = Value.long (Int64.ofBitVec (gL σ q (sp.toNat + j))) := by
        rw [Array.getD_eq_getD_getElem?, rg_clamp hrs, arrV_read _ _ (by omega)]
        rfl
      refine ⟨?_, ?_⟩
      · rw [e]
        rfl
      · rw [e]
        exact trivial)
    (g := F0 m pc lsJ (List.map cv (vI n :: vI dp :: vR 15 (some d) :: vI sp :: vR 15 (some q) :: st))) rfl hL.1 (rest := st.map cv) rfl hd hf (by
      have := cv_sum st
      show 2 * 0 + _ + (nativeFrameWords "java/lang/System" "arraycopy" 5 + 11) ≤ _
      have : nativeFrameWords "java/lang/System" "arraycopy" 5 = 7 := by decide +kernel
      omega)
  have e1 : copied (arrV (gA G 15) (ln σ q) (aV σ 15 q)) (arrV (gA G 15) (ln σ d) (aV σ 15 d)) (Int32.ofInt sp) (Int32.ofInt dp) (Int32.ofInt n) = arrV (gA G 15) (ln σ d) (aV (aL σ d (cpyF (gL σ q) (gL σ d) sp.toNat dp.toNat n.toNat)) 15 d) := by
    unfold copied
    rw [rg_clamp hrs, rg_clamp hrd, rg_clamp hrn]
    rw [show aV σ 15 q = (fun j => Value.long (Int64.ofBitVec (gL σ q j))) from rfl, show aV σ 15 d = (fun j => Value.long (Int64.ofBitVec (gL σ d j))) from rfl]
    rw [va_copied (fun z => Value.long (Int64.ofBitVec z)) (gA G 15) (gA G 15) (gL σ q) (gL σ d) (by omega)]
    congr 1
    funext j
    show _ = Value.long (Int64.ofBitVec (up1 (gL σ) d (cpyF (gL σ q) (gL σ d) sp.toNat dp.toNat n.toNat) d j))
    rw [up1_at]
    rfl
  rw [e1] at X' step
  have hdl : d < H.size := (Array.getElem?_eq_some_iff.mp hcd).1
  generalize hnew : arrV (gA G 15) (ln σ d) (aV (aL σ d (cpyF (gL σ q) (gL σ d) sp.toNat dp.toNat n.toNat)) 15 d) = new at X' step
  have hheap : ((T.setVm vm').setCell d new).heap = H.setIfInBounds d new := by rw [← hT]; rfl
  have oq : ∀ x : Nat, x ≠ d → (H.setIfInBounds d new)[x]? = H[x]? := fun x hx => by simp [Array.getElem?_setIfInBounds, Ne.symm hx]
  obtain ⟨t, a1, b1⟩ := k (H.setIfInBounds d new) _ lsJ (hR.at (σ' := aL σ d (cpyF (gL σ q) (gL σ d) sp.toNat dp.toNat n.toNat)) rfl rfl rfl (fun b e => rfl) (fun b e => up1_ne e) (fun b e => rfl) hbd (by simp) oq (fun h => by omega) (fun _ _ => by rw [htd, hnew]; simp [Array.getElem?_setIfInBounds, hdl]) (fun j => hR.2.2.2.2.2.1 d j) (fun j t hk b hb => hR.2.2.2.2.2.2.1 d j t hk b hb)) (fun x hx => by
      rcases List.mem_append.mp hx with h | h
      · exact hl2 x h
      · obtain ⟨z, -, hz⟩ := List.mem_map.mp h
        rw [← hz]
        exact hbd) hL (hO.pop.pop.pop.pop.pop.mono fun _ _ => rfl) _ hheap X'
  exact ⟨t, step t a1, b1⟩
theorem k_aast (C : Cx G own p s m args) {q v a u : Nat} {i : Int} (hd : decode c.code pc = .ok (.aastore, 1)) (hat : (a, u) ∈ [(17, 7), (18, 10), (19, 15)]) (hi : 0 ≤ i ∧ i < (ln σ q : Int)) (k : KW p l e R s m args below meth c Q G n0 s0 (wR σ q i.toNat (some v)) ls st (pc + 1)) : KW p l e R s m args below meth c Q G n0 s0 σ ls (vR u (some v) :: vI i :: vR a (some q) :: st) pc := by
  intro H locs lsJ hR hlo hL hO
  have ht : tg σ q = a := hO.pop.pop.top.2
  have hu : tg σ v = u := hO.top.2
  have hri := hO.pop.top
  have ha : 17 ≤ a ∧ a < 20 ∧ rTag a i.toNat = some u ∧ (aTy a).isReference = true := by
    simp at hat
    rcases hat with ⟨rfl, rfl⟩ | ⟨rfl, rfl⟩ | ⟨rfl, rfl⟩ <;> exact ⟨by decide, by decide, rfl, rfl⟩
  obtain ⟨hb, hn, hc⟩ := hR.2.2.2.1 q (by omega) (by omega)
  rw [ht] at hc
  have fin : ∀ H' : Heap, H'[q]? = some ((arrV (gA G a) (ln σ q) (aV σ a q)).setSlot (Int32.ofInt i).toNatClampNeg (.ref v)) → H'.size = H.size → (∀ x, x ≠ q → H'[x]? = H[x]?) → W p l e R s m args below meth c H' (locs ++ [⟨q, (Int32.ofInt i).toNatClampNeg⟩]) (nx σ - n0) (sl σ - s0) Q (F0 m (pc + 1) lsJ (st.map cv)) := by
    intro H' e1 e2 e3
    rw [rg_clamp hri, arrV_store] at e1
    refine k H' _ lsJ (hR.setR (fun t' ht' b hb' => ?_) hb e2 e3 (fun h => by omega) (fun _ _ => ?_)) (fun x hx => ?_) hL (hO.pop.pop.pop.mono fun _ _ => rfl)
    · cases hb'
      rw [ht, ha.2.2.1] at ht'
      cases ht'
      exact hu
    · rw [e1, ht]
      congr 2
      funext j
      unfold updV aV
      rw [if_neg (by omega : ¬ a = 15), if_neg (by omega : ¬ a ≤ 16)]
      by_cases e : j = i.toNat
      · subst e
        rw [if_pos rfl, if_neg (by omega), if_neg (by omega)]
        show _ = va_rf (up2 (gR σ) q i.toNat (some v) q i.toNat)
        rw [up2_at]
        rfl
      · rw [if_neg e, if_neg (by omega), if_neg (by omega)]
        show _ = va_rf (up2 (gR σ) q i.toNat (some v) q j)
        rw [up2_oth e]
    · rcases List.mem_append.mp hx with hx | hx
      · exact hlo x hx
      · rw [List.mem_singleton.mp hx]
        exact hb
  have hin : ¬ Int32.ofInt i < 0 ∧ (Int32.ofInt i).toNatClampNeg < (arrV (gA G a) (ln σ q) (aV σ a q)).slots.size := by
    have := rg_inb hri hi
    rw [arrV_size]
    exact ⟨fun h => this (Or.inl h), Nat.not_le.mp fun h => this (Or.inr h)⟩
  simp at hat
  rcases hat with ⟨rfl, rfl⟩ | ⟨rfl, rfl⟩ | ⟨rfl, rfl⟩
  · have hcls := (C.2.2.2.1 7 _ (cl_at 7 (by decide))).2
    obtain ⟨kA, comp, k1, k2, k3, -⟩ := (C.2.2.2.2.1 17 (by omega) (by omega)).2
    have hcomp : comp = gC G 7 := Option.some.inj (k3.symm.trans hcls.1)
    subst hcomp
    obtain ⟨kC, hkC, -⟩ := hcls.2
    obtain ⟨hbv, cell, g1, g2, g3, -⟩ := hR.2.2.1 v (by omega)
    rw [hu] at g2
    exact W.aast C.1 rfl hc (fun q h => by cases h) (fun h => by cases h) k1 k2 rfl hkC hin g1 (fun q h => by rw [g3] at h; cases h) (by rw [g2]; exact hkC) (by rw [g2]; exact va_assign hcls) rfl rfl hd fin
  · have hcls := (C.2.2.2.1 10 _ (cl_at 10 (by decide))).2
    obtain ⟨kA, comp, k1, k2, k3, -⟩ := (C.2.2.2.2.1 18 (by omega) (by omega)).2
    have hcomp : comp = gC G 10 := Option.some.inj (k3.symm.trans hcls.1)
    subst hcomp
    obtain ⟨kC, hkC, -⟩ := hcls.2
    obtain ⟨hbv, cell, g1, g2, g3, -⟩ := hR.2.2.1 v (by omega)
    rw [hu] at g2
    exact W.aast C.1 rfl hc (fun q h => by cases h) (fun h => by cases h) k1 k2 rfl hkC hin g1 (fun q h => by rw [g3] at h; cases h) (by rw [g2]; exact hkC) (by rw [g2]; exact va_assign hcls) rfl rfl hd fin
  · obtain ⟨kA, k1, k2⟩ := C.2.2.2.2.2.1
    obtain ⟨hbv, hnv, g1⟩ := hR.2.2.2.1 v (by omega) (by omega)
    rw [hu] at g1
    obtain ⟨-, kJ, hkJ, cmJ, hkkJ⟩ := (C.2.2.2.2.1 15 (by omega) (by omega)).1 (ln σ v) (aV σ 15 v)
    have hkJ : s.vm.classes[gA G 15]? = some kJ := hkJ
    exact W.aast C.1 rfl hc (fun q h => by cases h) (fun h => by cases h) k1 k2 rfl hkJ hin g1 (fun q h => by cases h) hkJ (as_self hkJ) rfl rfl hd fin
end KC
