/-! classes by their numbers -/
theorem cl_at : ∀ c, c < 13 → vwCl[c]? = some (cnm c, fTb c, nFl c) := by
  intro c h
  rcases (by omega : c = 0 ∨ c = 1 ∨ c = 2 ∨ c = 3 ∨ c = 4 ∨ c = 5 ∨ c = 6 ∨ c = 7 ∨ c = 8 ∨ c = 9 ∨ c = 10 ∨ c = 11 ∨ c = 12) with rfl | rfl | rfl | rfl | rfl | rfl | rfl | rfl | rfl | rfl | rfl | rfl | rfl <;> rfl
theorem cl_ws : ∀ c, c < 13 → ∀ w ∈ u_ws (cnm c) (fTb c) (nFl c), w ∈ gt := by
  intro c h
  rcases (by omega : c = 0 ∨ c = 1 ∨ c = 2 ∨ c = 3 ∨ c = 4 ∨ c = 5 ∨ c = 6 ∨ c = 7 ∨ c = 8 ∨ c = 9 ∨ c = 10 ∨ c = 11 ∨ c = 12) with rfl | rfl | rfl | rfl | rfl | rfl | rfl | rfl | rfl | rfl | rfl | rfl | rfl
  · exact fun w h => gt_of (inX0 w h)
  · exact fun w h => gt_of (inX1 w h)
  · exact fun w h => gt_of (inX2 w h)
  · exact fun w h => gt_of (inX3 w h)
  · exact fun w h => gt_of (inX4 w h)
  · exact fun w h => gt_of (inX5 w h)
  · exact fun w h => gt_of (inX6 w h)
  · exact fun w h => gt_of (inX7 w h)
  · exact fun w h => gt_of (inX8 w h)
  · exact fun w h => gt_of (inX9 w h)
  · exact fun w h => gt_of (inX10 w h)
  · exact fun w h => gt_of (inX11 w h)
  · exact fun w h => gt_of (inX12 w h)
theorem cl_ty : ∀ c, c < 13 → ∀ k, k < nFl c → parseFieldDescriptor (fTb c k).2.2.1 = some (fTy c k) := by
  intro c h
  rcases (by omega : c = 0 ∨ c = 1 ∨ c = 2 ∨ c = 3 ∨ c = 4 ∨ c = 5 ∨ c = 6 ∨ c = 7 ∨ c = 8 ∨ c = 9 ∨ c = 10 ∨ c = 11 ∨ c = 12) with rfl | rfl | rfl | rfl | rfl | rfl | rfl | rfl | rfl | rfl | rfl | rfl | rfl
  · exact tyX0_ok
  · exact tyX1_ok
  · exact tyX2_ok
  · exact tyX3_ok
  · exact tyX4_ok
  · exact tyX5_ok
  · exact tyX6_ok
  · exact tyX7_ok
  · exact tyX8_ok
  · exact tyX9_ok
  · exact tyX10_ok
  · exact tyX11_ok
  · exact tyX12_ok
theorem cl_nm : ∀ c, c < 13 → ∀ a, a < nFl c → ∀ b, b < nFl c → a ≠ b → (fTb c a).2.1 ≠ (fTb c b).2.1 := by
  intro c h
  rcases (by omega : c = 0 ∨ c = 1 ∨ c = 2 ∨ c = 3 ∨ c = 4 ∨ c = 5 ∨ c = 6 ∨ c = 7 ∨ c = 8 ∨ c = 9 ∨ c = 10 ∨ c = 11 ∨ c = 12) with rfl | rfl | rfl | rfl | rfl | rfl | rfl | rfl | rfl | rfl | rfl | rfl | rfl
  · exact nmX0
  · exact nmX1
  · exact nmX2
  · exact nmX3
  · exact nmX4
  · exact nmX5
  · exact nmX6
  · exact nmX7
  · exact nmX8
  · exact nmX9
  · exact nmX10
  · exact nmX11
  · exact nmX12
/-- a field's kind is its type's -/
def kdTy (k : Nat) (ty : FieldType) : Bool := match k, ty with
  | 0, .int => true
  | 1, .boolean => true
  | 2, .long => true
  | _ + 3, .object _ => true
  | _ + 3, .array _ => true
  | _, _ => false
theorem kd_ty : ∀ c, c < 13 → ∀ k, k < nFl c → kdTy (fKd c k) (fTy c k) = true := by decide +kernel
theorem KN.K {G : Gc} {U : State} (h : KN G U) : va_K (gC G, gD G) vwCl [] U := ⟨h.1, fun k q h => by simp at h⟩
theorem Rel.at {G : Gc} {σ σ' : St} {H H' : Heap} {a : Nat} (h : Rel G σ H) (htg : tg σ' = tg σ) (hln : ln σ' = ln σ) (hnx : nx σ' = nx σ) (hI : ∀ b, b ≠ a → gI σ' b = gI σ b) (hL : ∀ b, b ≠ a → gL σ' b = gL σ b) (hRf : ∀ b, b ≠ a → gR σ' b = gR σ b) (ha : gB G ≤ a)
    (hz : H'.size = H.size) (ho : ∀ q, q ≠ a → H'[q]? = H[q]?) (hobj : tg σ a < 13 → t_OB a (gC G (tg σ a)) (nFl (tg σ a)) (gD G (tg σ a)) H' (fV σ' (tg σ a) a)) (harr : 13 ≤ tg σ a → tg σ a < 20 → H'[a]? = some (arrV (gA G (tg σ a)) (ln σ a) (aV σ' (tg σ a) a)))
    (hrg : ∀ j, Rg (gI σ' a j)) (hrt : ∀ k t, rTag (tg σ a) k = some t → ∀ b, gR σ' a k = some b → tg σ b = t) : Rel G σ' H' := by
  obtain ⟨⟨h1, h2, h3⟩, h4, h5, h6, h7, h8, h9, h10⟩ := h
  refine ⟨⟨by rw [hz, hnx]; exact h1, by rw [hnx]; exact h2, h3⟩, fun q hq => by rw [ho q (by omega)]; exact h4 q hq, ?_, ?_, ?_, ?_, ?_, ?_⟩
  · intro b hb
    rw [htg] at hb ⊢
    by_cases e : b = a
    · subst e
      exact ⟨ha, hobj hb⟩
    · refine ⟨(h5 b hb).1, ((h5 b hb).2.kept (ho b e)).to fun k _ => ?_⟩
      simp only [fV, hI b e, hL b e, hRf b e]
  · intro b hb hb2
    rw [htg] at hb hb2 ⊢
    rw [hln]
    by_cases e : b = a
    · subst e
      exact ⟨ha, (h6 b hb hb2).2.1, harr hb hb2⟩
    · refine ⟨(h6 b hb hb2).1, (h6 b hb hb2).2.1, ?_⟩
      rw [ho b e, (h6 b hb hb2).2.2]
      congr 2
      funext k
      simp only [aV, hI b e, hL b e, hRf b e]
  · intro b hb
    rw [htg] at hb
    have hh := h7 b hb
    have e : b ≠ a := fun q => by subst q; omega
    rw [hln, hI b e]
    exact hh
  · intro b k
    by_cases e : b = a
    · subst e
      exact hrg k
    · rw [hI b e]
      exact h8 b k
  · intro b k t hb q hq
    rw [htg] at hb ⊢
    by_cases e : b = a
    · subst e
      exact hrt k t hb q hq
    · rw [hRf b e] at hq
      exact h9 b k t hb q hq
  · intro i hi q hq
    have e : (0 : Nat) ≠ a := by omega
    rw [hRf 0 e] at hq
    rw [htg]
    exact h10 i hi q hq
theorem up2_ne {α : Type} {f : Nat → Nat → α} {a k b : Nat} {v : α} (h : b ≠ a) : up2 f a k v b = f b := by
  funext j
  simp [up2, h]
theorem up1_ne {α : Type} {f : Nat → α} {a b : Nat} {v : α} (h : b ≠ a) : up1 f a v b = f b := by simp [up1, h]
theorem up2_at {α : Type} {f : Nat → Nat → α} {a k : Nat} {v : α} : up2 f a k v a k = v := by simp [up2]
theorem up2_oth {α : Type} {f : Nat → Nat → α} {a k j : Nat} {v : α} (h : j ≠ k) : up2 f a k v a j = f a j := by simp [up2, h]
theorem up1_at {α : Type} {f : Nat → α} {a : Nat} {v : α} : up1 f a v a = v := by simp [up1]
theorem rTag_kd {c k : Nat} (hc : c < 13) {t : Nat} (h : rTag c k = some t) : fKd c k = t + 3 := by
  unfold rTag at h
  rw [if_pos hc] at h
  split at h
  · cases h
    omega
  · cases h
theorem Rel.setI {G : Gc} {σ : St} {H H' : Heap} {a k : Nat} {v : Int} (h : Rel G σ H) (hv : Rg v) (ha : gB G ≤ a) (hz : H'.size = H.size) (ho : ∀ q, q ≠ a → H'[q]? = H[q]?) (hobj : tg σ a < 13 → t_OB a (gC G (tg σ a)) (nFl (tg σ a)) (gD G (tg σ a)) H' (fV (wI σ a k v) (tg σ a) a)) (harr : 13 ≤ tg σ a → tg σ a < 20 → H'[a]? = some (arrV (gA G (tg σ a)) (ln σ a) (aV (wI σ a k v) (tg σ a) a))) : Rel G (wI σ a k v) H' :=
  h.at rfl rfl rfl (fun b e => up2_ne e) (fun b e => rfl) (fun b e => rfl) ha hz ho hobj harr (fun j => by
    by_cases e : j = k
    · subst e; show Rg (up2 _ _ _ _ _ _); rw [up2_at]; exact hv
    · show Rg (up2 _ _ _ _ _ _); rw [up2_oth e]; exact h.2.2.2.2.2.1 a j) (fun k t hk b hb => h.2.2.2.2.2.2.1 a k t hk b hb)
theorem Rel.setL {G : Gc} {σ : St} {H H' : Heap} {a k : Nat} {v : BitVec 64} (h : Rel G σ H) (ha : gB G ≤ a) (hz : H'.size = H.size) (ho : ∀ q, q ≠ a → H'[q]? = H[q]?) (hobj : tg σ a < 13 → t_OB a (gC G (tg σ a)) (nFl (tg σ a)) (gD G (tg σ a)) H' (fV (wL σ a k v) (tg σ a) a)) (harr : 13 ≤ tg σ a → tg σ a < 20 → H'[a]? = some (arrV (gA G (tg σ a)) (ln σ a) (aV (wL σ a k v) (tg σ a) a))) : Rel G (wL σ a k v) H' :=
  h.at rfl rfl rfl (fun b e => rfl) (fun b e => up2_ne e) (fun b e => rfl) ha hz ho hobj harr (fun j => h.2.2.2.2.2.1 a j) (fun k t hk b hb => h.2.2.2.2.2.2.1 a k t hk b hb)
theorem Rel.setR {G : Gc} {σ : St} {H H' : Heap} {a k : Nat} {v : Option Nat} (h : Rel G σ H) (hv : ∀ t, rTag (tg σ a) k = some t → ∀ b, v = some b → tg σ b = t) (ha : gB G ≤ a) (hz : H'.size = H.size) (ho : ∀ q, q ≠ a → H'[q]? = H[q]?) (hobj : tg σ a < 13 → t_OB a (gC G (tg σ a)) (nFl (tg σ a)) (gD G (tg σ a)) H' (fV (wR σ a k v) (tg σ a) a)) (harr : 13 ≤ tg σ a → tg σ a < 20 → H'[a]? = some (arrV (gA G (tg σ a)) (ln σ a) (aV (wR σ a k v) (tg σ a) a))) : Rel G (wR σ a k v) H' :=
  h.at rfl rfl rfl (fun b e => rfl) (fun b e => rfl) (fun b e => up2_ne e) ha hz ho hobj harr (fun j => h.2.2.2.2.2.1 a j) (fun j t hk b hb => by
    by_cases e : j = k
    · subst e
      have hb : up2 (gR σ) a j v a j = some b := hb
      rw [up2_at] at hb
      exact hv t hk b hb
    · have hb : up2 (gR σ) a k v a j = some b := hb
      rw [up2_oth e] at hb
      exact h.2.2.2.2.2.2.1 a j t hk b hb)
section KH
variable {p : Program} {l : Launch} {e : Env} {R : Room} {s : State} {m : MethodId} {args : Array Value} {below : List Frame} {meth : Method} {c : Code} {Q : State → Prop} {G : Gc} {n0 s0 own : Nat} {σ : St} {ls : Ls} {st : List Vl} {pc : Nat}

/-- a field is read -/
theorem k_get (C : Cx G own p s m args) {i a b q : Nat} {v : Vl} (hd : decode c.code pc = .ok (.getfield i, 3)) (hl : (own, i, a, b) ∈ tFL) (ha : a < 13) (hb : b < nFl a) (hv : ∀ H, Rel G σ H → tg σ q = a → cv v = fV σ a q b ∧ OKv σ v) (k : KW p l e R s m args below meth c Q G n0 s0 σ ls (v :: st) (pc + 3)) : KW p l e R s m args below meth c Q G n0 s0 σ ls (vR a (some q) :: st) pc := by
  intro H locs lsJ hR hlo hL hO
  have htq : tg σ q = a := hO.top.2
  obtain ⟨e1, e2⟩ := hv H hR htq
  obtain ⟨hbq, cell, q1, q2, q3, q4⟩ := hR.2.2.1 q (by rw [htq]; exact ha)
  rw [htq] at q2 q4
  obtain ⟨hS, hfc, kC, hkC, hkind⟩ := C.2.2.2.1 a _ (cl_at a ha)
  obtain ⟨cf, kf, fi, f, hi, hsl⟩ := hS b hb
  refine W.getf C.1 rfl C.2.1 (C.2.2.1 _ (gt_of (tFL_in _ (List.mem_map_of_mem hl)))) hi (u_facts hfc hkC (u_lays C.2.2.1 (cl_ws a ha) hb) hi).1 q1 (by rw [q3]; exact fun h => by cases h) (v := cv v) ?_ rfl rfl hd ?_
  · rw [hsl, q4 b hb, e1]
  · exact k H locs lsJ hR hlo hL (hO.pop.push e2)
/-- a field is written: how the heap goes -/
theorem k_put (C : Cx G own p s m args) {i a b q : Nat} {v : Vl} {σ' : St} (hd : decode c.code pc = .ok (.putfield i, 3)) (hl : (own, i, a, b) ∈ tFL) (ha : a < 13) (hb : b < nFl a) (hfin : (fTb a b).2.2.2 = false ∨ ((fTb a b).2.2.2 = true ∧ meth.name = "<init>" ∧ (fTb a b).1 = cnm own)) (hn : narrow (fTy a b) (cv v) = cv v) (hfit : fits (fTy a b) (cv v) = true)
    (hnx : nx σ' = nx σ) (hsl' : sl σ' = sl σ) (hO' : OKs σ ls (v :: vR a (some q) :: st) → OKs σ' ls st)
    (hR' : ∀ H H', Rel G σ H → OKs σ ls (v :: vR a (some q) :: st) → tg σ q = a → gB G ≤ q → H'.size = H.size → (∀ x, x ≠ q → H'[x]? = H[x]?) → t_OB q (gC G a) (nFl a) (gD G a) H' (updV (fV σ a q) b (cv v)) → Rel G σ' H') (k : KW p l e R s m args below meth c Q G n0 s0 σ' ls st (pc + 3)) : KW p l e R s m args below meth c Q G n0 s0 σ ls (v :: vR a (some q) :: st) pc := by
  intro H locs lsJ hR hlo hL hO
  have htq : tg σ q = a := hO.pop.top.2
  obtain ⟨hbq, cell, q1, q2, q3, q4⟩ := hR.2.2.1 q (by rw [htq]; exact ha)
  rw [htq] at q2 q4
  have hap := va_apart (own := cnm own) C.2.2.1 (cl_ws a ha) (fTy a) (cl_ty a ha) (cl_nm a ha) C.2.2.2.K (cl_at a ha)
  obtain ⟨hS, hfc, kC, hkC, hkind⟩ := C.2.2.2.1 a _ (cl_at a ha)
  obtain ⟨cf, kf, fi, f, hi, hsl⟩ := hS b hb
  have hlay := C.2.2.1 _ (cl_ws a ha _ (u_in_lay hb))
  have hst := (u_facts hfc hkC (u_lays C.2.2.1 (cl_ws a ha) hb) hi).1
  have hlink := C.2.2.1 _ (gt_of (tFL_in _ (List.mem_map_of_mem hl)))
  have fin : ∀ H' : Heap, H'[q]? = some (cell.setSlot f.slot (cv v)) → H'.size = H.size → (∀ x, x ≠ q → H'[x]? = H[x]?) → W p l e R s m args below meth c H' (locs ++ [⟨q, f.slot⟩]) (nx σ - n0) (sl σ - s0) Q (F0 m (pc + 3) lsJ (st.map cv)) := by
    intro H' e1 e2 e3
    rw [hsl] at e1
    rw [← hnx, ← hsl']
    refine k H' _ lsJ (hR' H H' hR hO htq hbq e2 e3 ⟨_, e1, q2, q3, t_set q4 hap hb (cv v)⟩) (fun x hx => ?_) hL (hO' hO)
    rcases List.mem_append.mp hx with hx | hx
    · exact hlo x hx
    · rw [List.mem_singleton.mp hx]
      exact hbq
  rcases hfin with hfin | ⟨hfin, hin, hdecl⟩
  · unfold u_lay at hlay
    rw [if_neg (by rw [hfin]; decide)] at hlay
    have h6 := u_store hfc hkC hkind hlay hi (cl_ty a ha b hb) hn hfit
    exact W.putK C.1 rfl (f := f) ⟨C.2.1, hlink, ⟨_, _, _, hi⟩, hst⟩ (by rw [q2]; exact h6) q1 q3 (by rw [hsl]; exact k2_hasslot (q4 b hb)) rfl rfl hd fin
  · unfold u_lay at hlay
    rw [if_pos hfin] at hlay
    have hcf : m.cls = cf := by
      obtain ⟨_, _, c', _, _, _, -, -, hf', -, -, -, hown2, -⟩ := Cond.laysFinal_spec hlay
      have e1 : c' = cf := by have := hi.symm.trans hf'; simp at this; exact this.1.symm
      rw [hdecl] at hown2
      rw [← e1]; exact Option.some.inj (C.2.1.symm.trans hown2)
    have h6 := u_fits hfc hkC hkind (Or.inr hlay) hi (cl_ty a ha b hb) hn hfit
    exact W.putFinK C.1 rfl C.2.1 hlink hi hst hcf hin (by rw [q2]; exact h6) q1 q3 (by rw [hsl]; exact k2_hasslot (q4 b hb)) rfl rfl hd fin
end KH
