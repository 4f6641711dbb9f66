theorem ao_moved {u U : State} (hvm : u.vm.Alike U.vm) {t : FieldType} (h : (Cond.arrayOver (.array t)).before #[] u = true) : (Cond.arrayOver (.array t)).before #[] U = true := by
  obtain ⟨comp, c, k, h1, h2, h3, h4, h5⟩ : ∃ comp c k, u.vm.findClass (FieldType.array t).toString = some comp ∧ (u.vm.classes.findIdx? fun (x : Class) => match x.kind with | .array component _ => component == comp | _ => false) = some c ∧ u.vm.classes[c]? = some k ∧ k.kind = .array comp (.array t) ∧ u.vm.findClass ("[" ++ (FieldType.array t).toString) = some c := by
    simp only [Cond.before, Cond.holds, Cond.value, beq_iff_eq] at h
    cases hc : u.vm.findClass (FieldType.array t).toString with
    | none => simp [hc] at h
    | some comp =>
      simp only [hc, Option.bind_some, Option.bind_eq_some_iff, Option.map_eq_some_iff] at h
      obtain ⟨c, hi, k, hk, hb⟩ := h
      obtain ⟨hlt, hp, -⟩ := Array.findIdx?_eq_some_iff_getElem.mp hi
      have hkk : u.vm.classes[c] = k := (Array.getElem?_eq_some_iff.mp hk).2
      rw [hkk] at hp
      cases hkind : k.kind with
      | array component ty =>
        rw [hkind] at hp hb
        simp at hp hb
        refine ⟨comp, c, k, rfl, hi, hk, ?_, hb.2⟩
        rw [hkind, hp, hb.1]
      | _ => rw [hkind] at hp; simp at hp
  obtain ⟨k', hk', he⟩ := hvm.2.2 _ _ h3
  have hi : (U.vm.classes.findIdx? fun (x : Class) => match x.kind with | .array component _ => component == comp | _ => false) = some c := by
    have e3 : U.vm.bare = u.vm.bare := by first | exact hvm.bare_eq | exact hvm.bare_eq.symm
    have e := va_idx_bare U.vm comp
    rw [e3] at e
    exact (e.symm.trans (va_idx_bare u.vm comp)).trans h2
  have hkind : k'.kind = .array comp (.array t) := by rw [he]; exact h4
  have f1 : U.vm.findClass (FieldType.array t).toString = some comp := by rw [hvm.findClass]; exact h1
  have f2 : U.vm.findClass ("[" ++ (FieldType.array t).toString) = some c := by rw [hvm.findClass]; exact h5
  unfold Cond.before Cond.holds
  simp only [Cond.value]
  rw [f1, Option.bind_some]
  refine (congrArg (fun o : Option Nat => (o.bind (fun c => (U.vm.classes[c]?).map fun (k : Class) => match k.kind with | .array _ ty => decide (ty = FieldType.array t) && decide (U.vm.findClass ("[" ++ (FieldType.array t).toString) = some c) | _ => false) == some true)) hi).trans ?_
  simp [hk', hkind, f2]
/-! calls and ends -/
def mPn (i : Nat) : Nat := [0, 2, 1, 1, 2, 1, 1, 0, 2, 2, 2, 2, 2, 2, 4, 0, 1, 0, 1, 2, 0, 1, 4, 3, 2, 2, 3, 1, 1, 2, 2, 0, 2, 1, 0, 1, 2, 3, 1, 2, 1, 1, 2, 2, 2, 1, 2, 3, 2, 0, 2, 0, 0, 1, 0, 0, 2, 0, 1, 1, 0, 3, 1, 1, 2, 0, 0, 1, 1, 0, 0, 0, 1, 0, 4, 1, 2, 2, 2, 2, 0, 1, 1, 2, 1, 1, 1, 1, 3, 3, 2, 0, 0, 1, 1, 0, 3, 0, 1, 1, 2, 2, 2, 0, 1, 2, 4, 2, 2, 1, 3, 3, 3, 0, 1, 1, 4, 3, 3, 1, 1, 1, 1, 2, 2, 1, 2, 1, 3, 3, 0, 3, 1, 2, 2, 2, 1, 2, 2, 2, 0, 5, 1, 1, 1, 3, 2, 3, 2, 5, 1, 2, 2, 2, 2, 1, 5, 2, 0, 3, 1, 2, 1, 2, 1, 2, 0, 1, 1, 1, 3, 3, 1, 4, 0, 2, 1, 2, 1, 1, 1, 3, 4, 2, 2, 2, 0, 1, 1, 2, 1, 1, 1, 2, 2, 1, 2, 3, 0, 3, 1, 1, 2, 3, 5, 1, 1, 2, 0, 0, 0, 0, 3, 1, 0, 1, 0, 1, 1, 0, 1, 0, 1, 1, 4, 2, 1, 1, 3, 3, 2, 3, 2, 3, 3, 2, 1, 5, 1, 2, 2, 2, 2, 5, 2, 1, 0, 0, 3, 1, 2, 2, 2, 2, 2, 2, 2, 1, 1, 3, 2, 2, 1, 2, 2, 1, 3, 0, 2, 0, 1, 1, 1, 1, 3, 3, 1, 1, 4, 0, 3, 2, 3, 3, 2, 2, 1, 2, 1, 1, 2, 1, 2, 1, 2, 2, 1, 1, 1, 2, 1, 1, 3, 4, 2, 0, 2, 2, 0, 2, 0, 1, 1, 1, 2, 2, 1].getD i 0
set_option maxRecDepth 100000 in
theorem m_par : ∀ i, i < 317 → (mI i).1.cls ≠ "java/lang/invoke/MethodHandle" ∧ (mI i).1.cls ≠ "java/lang/invoke/VarHandle" ∧ (parseMethodDescriptor (mI i).1.desc).map (fun d => d.parameters.length) = some (mPn i) := by decide +kernel
set_option maxRecDepth 100000 in
theorem m_plain : ∀ i, i < 317 → Jvm.plainName (mI i).1.cls = true := by decide +kernel
def wsM (i : Nat) : List Cond := Cond.code (mI i).1 (mI i).2.1 (mt i).1 (mI i).2.2.1 :: gt
def rmD (d mc ms : Nat) : Room := { frames := d + 2, cells := mc, slots := ms, locals := 64 * (d + 2) }
def Pcm (G : Gc) (σ : St) (as : List Vl) : Array Value → State → Prop := fun v U => v = (as.map cv).toArray ∧ Rel G σ U.heap ∧ KN G U ∧ U.heap.size = nx σ
def Qcm (G : Gc) (σ' : St) (r : List Vl) : Array Value → State → Outcome → State → Prop := fun _ _ o t => (∃ v : Option Value, o = .returned v ∧ v.toList = r.map cv) ∧ Rel G σ' t.heap ∧ ∀ v ∈ r, OKv σ' v
def MetI (G : Gc) (l : Launch) (d i : Nat) (σ : St) (as : List Vl) (σ' : St) (r : List Vl) : Prop := Met l (mI i).1 (wsM i) (rmD d (nx σ' - nx σ) (sl σ' - sl σ)) (Pcm G σ as) (Qcm G σ' r) (nx σ' - nx σ) (sl σ' - sl σ) (fun q => gB G ≤ q)
theorem KN.moved {G : Gc} {s U : State} (hW : s.WarmedH U.vm) (h : KN G s) : KN G U := by
  obtain ⟨h1, h2, ⟨kA, h3, h3'⟩, ⟨h4, h5, h6⟩, h7, h8, ⟨h9, h10⟩, h11⟩ := h
  have al := hW.alike
  refine ⟨fun c q hq => u_Kn_moved al (h1 c q hq), fun t a b => ⟨arrOfT_moved al (h2 t a b).1, (h2 t a b).2.moved al⟩, ?_, ⟨h4.moved al, h5.moved al, ao_moved al h6⟩, fun w hw => ?_, va_Nw.warmF hW h8, ⟨h9.moved al, h10.moved al⟩, fun a cell ha hc => State.isArrayOf_alike al (h11 a cell ha hc)⟩
  · obtain ⟨k', hk', he⟩ := al.2.2 _ _ h3
    exact ⟨k', hk', by rw [he]; exact h3'⟩
  · obtain ⟨x, hx, rfl⟩ := List.mem_map.mp hw
    exact va_Nw.warmM hW (h7 _ hw)
theorem KN.same {G : Gc} {s U : State} (e : s.vm = U.vm) (h : KN G s) : KN G U := by
  obtain ⟨h1, h2, ⟨kA, h3, h3'⟩, ⟨h4, h5, h6⟩, h7, h8, ⟨h9, h10⟩, h11⟩ := h
  have al : s.vm.Alike U.vm := e ▸ Vm.Alike.refl s.vm
  refine ⟨fun c q hq => u_Kn_moved al (h1 c q hq), fun t a b => ⟨arrOfT_moved al (h2 t a b).1, (h2 t a b).2.moved al⟩, ?_, ⟨h4.moved al, h5.moved al, ao_moved al h6⟩, fun w hw => ?_, va_Nw.same rfl e h8, ⟨h9.moved al, h10.moved al⟩, fun a cell ha hc => State.isArrayOf_alike al (h11 a cell ha hc)⟩
  · obtain ⟨k', hk', he⟩ := al.2.2 _ _ h3
    exact ⟨k', hk', by rw [he]; exact h3'⟩
  · obtain ⟨x, hx, rfl⟩ := List.mem_map.mp hw
    exact va_Nw.same rfl e (h7 _ hw)
theorem Pcm_blind {G : Gc} {σ : St} {as : List Vl} : FrameBlind (Pcm G σ as) := fun a U g mk h => ⟨h.1, h.2.1, KN.same (s := U) (U := U.calling g mk a) rfl h.2.2.1, h.2.2.2⟩
theorem code_in {i : Nat} (h : i < 316) : Cond.code (mI i).1 (mI i).2.1 (mt i).1 (mI i).2.2.1 ∈ gt := by
  obtain ⟨q, j, hq, hj, rfl⟩ : ∃ q j, q < 16 ∧ j < 20 ∧ i = 20 * q + j := ⟨i / 20, i % 20, by omega, by omega, by omega⟩
  rcases (by omega : q = 0 ∨ q = 1 ∨ q = 2 ∨ q = 3 ∨ q = 4 ∨ q = 5 ∨ q = 6 ∨ q = 7 ∨ q = 8 ∨ q = 9 ∨ q = 10 ∨ q = 11 ∨ q = 12 ∨ q = 13 ∨ q = 14 ∨ q = 15) with rfl | rfl | rfl | rfl | rfl | rfl | rfl | rfl | rfl | rfl | rfl | rfl | rfl | rfl | rfl | rfl
  · exact gt_of (tCd0_in _ (List.mem_map_of_mem ((by decide : ∀ j, j < 20 → 20 * 0 + j ∈ tCd0) j (by omega))))
  · exact gt_of (tCd1_in _ (List.mem_map_of_mem ((by decide : ∀ j, j < 20 → 20 * 1 + j ∈ tCd1) j (by omega))))
  · exact gt_of (tCd2_in _ (List.mem_map_of_mem ((by decide : ∀ j, j < 20 → 20 * 2 + j ∈ tCd2) j (by omega))))
  · exact gt_of (tCd3_in _ (List.mem_map_of_mem ((by decide : ∀ j, j < 20 → 20 * 3 + j ∈ tCd3) j (by omega))))
  · exact gt_of (tCd4_in _ (List.mem_map_of_mem ((by decide : ∀ j, j < 20 → 20 * 4 + j ∈ tCd4) j (by omega))))
  · exact gt_of (tCd5_in _ (List.mem_map_of_mem ((by decide : ∀ j, j < 20 → 20 * 5 + j ∈ tCd5) j (by omega))))
  · exact gt_of (tCd6_in _ (List.mem_map_of_mem ((by decide : ∀ j, j < 20 → 20 * 6 + j ∈ tCd6) j (by omega))))
  · exact gt_of (tCd7_in _ (List.mem_map_of_mem ((by decide : ∀ j, j < 20 → 20 * 7 + j ∈ tCd7) j (by omega))))
  · exact gt_of (tCd8_in _ (List.mem_map_of_mem ((by decide : ∀ j, j < 20 → 20 * 8 + j ∈ tCd8) j (by omega))))
  · exact gt_of (tCd9_in _ (List.mem_map_of_mem ((by decide : ∀ j, j < 20 → 20 * 9 + j ∈ tCd9) j (by omega))))
  · exact gt_of (tCd10_in _ (List.mem_map_of_mem ((by decide : ∀ j, j < 20 → 20 * 10 + j ∈ tCd10) j (by omega))))
  · exact gt_of (tCd11_in _ (List.mem_map_of_mem ((by decide : ∀ j, j < 20 → 20 * 11 + j ∈ tCd11) j (by omega))))
  · exact gt_of (tCd12_in _ (List.mem_map_of_mem ((by decide : ∀ j, j < 20 → 20 * 12 + j ∈ tCd12) j (by omega))))
  · exact gt_of (tCd13_in _ (List.mem_map_of_mem ((by decide : ∀ j, j < 20 → 20 * 13 + j ∈ tCd13) j (by omega))))
  · exact gt_of (tCd14_in _ (List.mem_map_of_mem ((by decide : ∀ j, j < 20 → 20 * 14 + j ∈ tCd14) j (by omega))))
  · exact gt_of (tCd15_in _ (List.mem_map_of_mem ((by decide : ∀ j, j < 16 → 20 * 15 + j ∈ tCd15) j (by omega))))
theorem wsM_good {i : Nat} (h : i < 316) : GoodIn gt (wsM i) := fun w hw => by
  rcases List.mem_cons.mp hw with rfl | hw
  · exact ⟨code_in h, gt_good (code_in h)⟩
  · exact ⟨hw, gt_good hw⟩
section KK
variable {p : Program} {l : Launch} {e : Env} {R : Room} {s : State} {m : MethodId} {args : Array Value} {below : List Frame} {meth : Method} {c : Code} {Q : State → Prop} {G : Gc} {n0 s0 own : Nat} {σ : St} {ls : Ls} {st : List Vl} {pc : Nat}

/-- behind a call -/
theorem k_ret {σ' : St} {as r : List Vl} {H : Heap} {locs : List Loc} {lsJ : Array Slot} {stk : List Value} (hR : Rel G σ H) (hl : ∀ q ∈ locs, gB G ≤ q.base) (hL : LR ls lsJ c.maxLocals) (hO : OKs σ ls st) (hn0 : n0 ≤ nx σ) (hs0 : s0 ≤ sl σ) (hn : nx σ ≤ nx σ') (hs : sl σ ≤ sl σ') (htg : ∀ b, b < nx σ → tg σ' b = tg σ b)
    (hrun : CallRun p l e R s m args below meth c H locs (nx σ - n0) (sl σ - s0) (nx σ' - nx σ) (sl σ' - sl σ) (F0 m pc lsJ stk) (st.map cv) (Qcm G σ' r (as.map cv).toArray) (fun q => gB G ≤ q)) (k : KW p l e R s m args below meth c Q G n0 s0 σ' ls (r ++ st) (pc + 3)) : W p l e R s m args below meth c H locs (nx σ - n0) (sl σ - s0) Q (F0 m pc lsJ stk) := by
  intro T hT X
  obtain ⟨v, st₀, t, T', L, h0, X', hL2, e1, ⟨⟨v', hv, hvl⟩, hR', hOr⟩, go⟩ := hrun T hT X
  cases hv
  have hO' : OKs σ' ls (r ++ st) := by
    have hm : ∀ b, tg σ b ≤ 20 → tg σ' b = tg σ b := fun b hb => htg b (hR.lt hb)
    have := hO.mono hm
    refine ⟨fun w hw => ?_, this.2⟩
    rcases List.mem_append.mp hw with h | h
    · exact hOr w h
    · exact this.1 w h
  rw [show nx σ - n0 + (nx σ' - nx σ) = nx σ' - n0 by omega, show sl σ - s0 + (sl σ' - sl σ) = sl σ' - s0 by omega] at X'
  obtain ⟨t2, a1, b1⟩ := k T'.heap (locs ++ L) lsJ (by rw [e1]; exact hR') (fun q hq => by
    rcases List.mem_append.mp hq with h | h
    · exact hl q h
    · exact hL2 q h) hL hO' T' rfl X'
  refine ⟨t2, go t2 ?_, b1⟩
  rw [List.map_append, ← hvl] at a1
  exact a1
theorem k_callS (C : Cx G own p s m args) {d i ix : Nat} {σ' : St} {as r : List Vl} (hd : decode c.code pc = .ok (.invokestatic ix, 3)) (hl : (own, ix, i) ∈ tML) (hst : i ∈ tSt) (hiz : i ∈ tIz) (hlen : as.length = mPn i) (hi : i < 316) (hM : MetI G l d i σ as σ' r) (hfr : d + 3 ≤ R.frames) (hlo : 64 * (d + 2) + 64 ≤ R.locals) (hmx : (mt i).1 ≤ 40) (hw : stW st ≤ 8) (hn0 : n0 ≤ nx σ) (hs0 : s0 ≤ sl σ) (hn : nx σ ≤ nx σ') (hs : sl σ ≤ sl σ') (hc : nx σ' - n0 ≤ R.cells) (hsl : sl σ' - s0 ≤ R.slots) (htg : ∀ b, b < nx σ → tg σ' b = tg σ b)
    (k : KW p l e R s m args below meth c Q G n0 s0 σ' ls (r ++ st) (pc + 3)) : KW p l e R s m args below meth c Q G n0 s0 σ ls (as.reverse ++ st) pc := by
  intro H locs lsJ hR hlo2 hL hO
  have hOst : OKs σ ls st := ⟨fun v hv => hO.1 v (List.mem_append_right _ hv), hO.2⟩
  refine k_ret (as := as) hR hlo2 hL hOst hn0 hs0 hn hs htg ?_ k
  have hp := m_par i (by omega)
  refine W.runS (As := as.map cv) (n := mPn i) ⟨C.1, rfl, rfl, C.2.1, C.2.2.1⟩ hM ⟨callB_of (mPn i) C.2.2.1 (wsM_good hi) rfl rfl rfl (C.2.2.1 _ (gt_of (tIz_in _ (List.mem_map_of_mem hiz)))) (C.2.2.1 _ (gt_of (tML_in _ (List.mem_map_of_mem hl)))) hp ⟨by show d + 2 + 1 ≤ _; omega, by show 8 + (_ + 11) + 64 * (d + 2) ≤ _; omega⟩, C.2.2.1 _ (gt_of (tSt_in _ (List.mem_map_of_mem hst)))⟩ ⟨Pcm_blind, fun U hU hW => ⟨rfl, by rw [hU]; exact hR, C.2.2.2.moved hW, by rw [hU]; exact hR.1.1⟩⟩ rfl (by rw [List.length_map]; exact hlen) hL.1 (by show List.map cv _ = _; rw [List.map_append, List.map_reverse]) (lv_room (by rw [cv_sum]; exact hw)) hd ⟨by omega, by omega⟩
theorem k_callSN (C : Cx G own p s m args) {d i ix : Nat} {σ' : St} {as r : List Vl} (hd : decode c.code pc = .ok (.invokestatic ix, 3)) (hl : (own, ix, i) ∈ tMN) (hst : i ∈ tSt) (hiz : i ∈ tIz) (hlen : as.length = mPn i) (hi : i < 316) (hM : MetI G l d i σ as σ' r) (hfr : d + 3 ≤ R.frames) (hlo : 64 * (d + 2) + 64 ≤ R.locals) (hmx : (mt i).1 ≤ 40) (hw : stW st ≤ 8) (hn0 : n0 ≤ nx σ) (hs0 : s0 ≤ sl σ) (hn : nx σ ≤ nx σ') (hs : sl σ ≤ sl σ') (hc : nx σ' - n0 ≤ R.cells) (hsl : sl σ' - s0 ≤ R.slots) (htg : ∀ b, b < nx σ → tg σ' b = tg σ b)
    (k : KW p l e R s m args below meth c Q G n0 s0 σ' ls (r ++ st) (pc + 3)) : KW p l e R s m args below meth c Q G n0 s0 σ ls (as.reverse ++ st) pc := by
  intro H locs lsJ hR hlo2 hL hO
  have hOst : OKs σ ls st := ⟨fun v hv => hO.1 v (List.mem_append_right _ hv), hO.2⟩
  refine k_ret (as := as) hR hlo2 hL hOst hn0 hs0 hn hs htg ?_ k
  have hp := m_par i (by omega)
  have hr := va_runSN (e := e) (below := below) (meth := meth) (As := as.map cv) (n := mPn i) (rest := st.map cv) (g := F0 m pc lsJ (List.map cv (as.reverse ++ st))) (H := H) (locs := locs) (cells := nx σ - n0) (slots := sl σ - s0) ⟨C.1, rfl, rfl, C.2.1, C.2.2.1⟩ hM ⟨va_cnB (mPn i) C.2.2.1 (wsM_good hi) rfl rfl rfl (C.2.2.2.2.2.2.2.1 _ (List.mem_map_of_mem hl)) (C.2.2.1 _ (gt_of (tIz_in _ (List.mem_map_of_mem hiz)))) hp ⟨by show d + 2 + 1 ≤ _; omega, by show 8 + (_ + 11) + 64 * (d + 2) ≤ _; omega⟩, C.2.2.1 _ (gt_of (tSt_in _ (List.mem_map_of_mem hst))), trivial⟩ ⟨Pcm_blind, fun U hU hW => ⟨rfl, by rw [hU]; exact hR, C.2.2.2.moved hW, by rw [hU]; exact hR.1.1⟩⟩ rfl (by rw [List.length_map]; exact hlen) hL.1 (by show List.map cv _ = _; rw [List.map_append, List.map_reverse]) (lv_room (by rw [cv_sum]; exact hw)) hd ⟨by omega, by omega⟩
  intro T hT X
  obtain ⟨v, st₀, t, T', L, h0, X', hL2, e1, -, hq, go⟩ := hr T hT X
  exact ⟨v, st₀, t, T', L, h0, X', hL2, e1, hq, go⟩
theorem k_callV (C : Cx G own p s m args) {d i ix b u : Nat} {σ' : St} {as0 r : List Vl} {as : List Vl} (has : as = vR u (some b) :: as0) (hd : decode c.code pc = .ok (.invokevirtual ix, 3)) (hl : (own, ix, i) ∈ tML) (hin : i ∈ tIn) (hse : i ∈ tSe) (hiz : i ∈ tIz) (hu : u < 13) (hcl : (mI i).1.cls = cnm u) (hlen : as0.length = mPn i) (hi : i < 316) (hM : MetI G l d i σ as σ' r) (hfr : d + 3 ≤ R.frames) (hlo : 64 * (d + 2) + 64 ≤ R.locals) (hmx : (mt i).1 ≤ 40) (hw : stW st ≤ 8) (hn0 : n0 ≤ nx σ) (hs0 : s0 ≤ sl σ) (hn : nx σ ≤ nx σ') (hs : sl σ ≤ sl σ') (hc : nx σ' - n0 ≤ R.cells) (hsl : sl σ' - s0 ≤ R.slots) (htg : ∀ b, b < nx σ → tg σ' b = tg σ b)
    (k : KW p l e R s m args below meth c Q G n0 s0 σ' ls (r ++ st) (pc + 3)) : KW p l e R s m args below meth c Q G n0 s0 σ ls (as.reverse ++ st) pc := by
  intro H locs lsJ hR hlo2 hL hO
  have hOst : OKs σ ls st := ⟨fun v hv => hO.1 v (List.mem_append_right _ hv), hO.2⟩
  have hOb : OKv σ (vR u (some b)) := hO.1 _ (List.mem_append_left _ (by rw [has]; simp))
  have htb : tg σ b = u := hOb.2
  refine k_ret (as := as) hR hlo2 hL hOst hn0 hs0 hn hs htg ?_ k
  have hp := m_par i (by omega)
  obtain ⟨hbq, cell, q1, q2, q3, -⟩ := hR.2.2.1 b (by omega)
  rw [htb] at q2
  have hfc := (C.2.2.2.1 u _ (cl_at u hu)).2.1
  subst has
  refine W.runV (As := as0.map cv) (b := b) (C := cnm u) (n := mPn i) ⟨C.1, rfl, rfl, C.2.1, C.2.2.1⟩ hM ⟨callB_of (mPn i) C.2.2.1 (wsM_good hi) rfl rfl rfl (C.2.2.1 _ (gt_of (tIz_in _ (List.mem_map_of_mem hiz)))) (C.2.2.1 _ (gt_of (tML_in _ (List.mem_map_of_mem hl)))) hp ⟨by show d + 2 + 1 ≤ _; omega, by show 8 + (_ + 11) + 64 * (d + 2) ≤ _; omega⟩, C.2.2.1 _ (gt_of (tIn_in _ (List.mem_map_of_mem hin))), ?_⟩ ⟨Pcm_blind, ⟨cell, q1, by rw [q3]; rfl, by rw [q2]; exact hfc⟩, fun U hU hW => ⟨rfl, by rw [hU]; exact hR, C.2.2.2.moved hW, by rw [hU]; exact hR.1.1⟩⟩ rfl (by rw [List.length_map]; exact hlen) hL.1 (by show List.map cv _ = _; rw [List.map_append, List.map_reverse]; simp [cv, va_rf]) (lv_room (by rw [cv_sum]; exact hw)) hd ⟨by omega, by omega⟩
  have := C.2.2.1 _ (gt_of (tSe_in _ (List.mem_map_of_mem hse)))
  rw [hcl] at this
  exact this
theorem k_callI (C : Cx G own p s m args) {d i ix b u : Nat} {σ' : St} {as0 r : List Vl} {as : List Vl} (has : as = vR u (some b) :: as0) (hd : decode c.code pc = .ok (.invokespecial ix, 3)) (hl : (own, ix, i) ∈ tML) (hin : i ∈ tIn) (hiz : i ∈ tIz) (hnm : (mI i).1.name = "<init>") (hrt : (mI i).2.2.1 = none) (hlen : as0.length = mPn i) (hi : i < 316) (hM : MetI G l d i σ as σ' r) (hfr : d + 3 ≤ R.frames) (hlo : 64 * (d + 2) + 64 ≤ R.locals) (hmx : (mt i).1 ≤ 40) (hw : stW st ≤ 8) (hn0 : n0 ≤ nx σ) (hs0 : s0 ≤ sl σ) (hn : nx σ ≤ nx σ') (hs : sl σ ≤ sl σ') (hc : nx σ' - n0 ≤ R.cells) (hsl : sl σ' - s0 ≤ R.slots) (htg : ∀ b, b < nx σ → tg σ' b = tg σ b)
    (k : KW p l e R s m args below meth c Q G n0 s0 σ' ls (r ++ st) (pc + 3)) : KW p l e R s m args below meth c Q G n0 s0 σ ls (as.reverse ++ st) pc := by
  intro H locs lsJ hR hlo2 hL hO
  have hOst : OKs σ ls st := ⟨fun v hv => hO.1 v (List.mem_append_right _ hv), hO.2⟩
  refine k_ret (as := as) hR hlo2 hL hOst hn0 hs0 hn hs htg ?_ k
  have hp := m_par i (by omega)
  subst has
  refine W.runI (As := as0.map cv) (b := b) (n := mPn i) ⟨C.1, rfl, rfl, C.2.1, C.2.2.1⟩ hM ⟨callB_of (mPn i) C.2.2.1 (wsM_good hi) (by unfold wsM; rw [hrt]) rfl rfl (C.2.2.1 _ (gt_of (tIz_in _ (List.mem_map_of_mem hiz)))) (C.2.2.1 _ (gt_of (tML_in _ (List.mem_map_of_mem hl)))) hp ⟨by show d + 2 + 1 ≤ _; omega, by show 8 + (_ + 11) + 64 * (d + 2) ≤ _; omega⟩, hnm, C.2.2.1 _ (gt_of (tIn_in _ (List.mem_map_of_mem hin)))⟩ ⟨Pcm_blind, fun U hU hW => ⟨rfl, by rw [hU]; exact hR, C.2.2.2.moved hW, by rw [hU]; exact hR.1.1⟩⟩ rfl (by rw [List.length_map]; exact hlen) hL.1 (by show List.map cv _ = _; rw [List.map_append, List.map_reverse]; simp [cv, va_rf]) (lv_room (by rw [cv_sum]; exact hw)) hd ⟨by omega, by omega⟩
end KK
