set_option maxRecDepth 100000 in
theorem m_cls : ∀ j, j < 317 → cnm (ownM j) = (mI j).1.cls := by decide +kernel
/-! THE LITTLE MACHINE'S RUN IS THE JVM'S -/
theorem mkX_nx (σ : St) (n : Nat) : nx (mkX σ n) = nx σ + 1 + n := mkN_nx (mk σ 19 n n) n
theorem mkX_sl (σ : St) (n : Nat) : sl (mkX σ n) = sl σ + n := mkN_sl (mk σ 19 n n) n
theorem mkM_nx (σ : St) : nx (mkM σ) = nx σ + 1 + 20 := mkX_nx σ 20
theorem mkM_sl (σ : St) : sl (mkM σ) = sl σ + 20 := mkX_sl σ 20
def RetOK (bytes : ByteArray) (pc : Nat) (ret : Option FieldType) (r : List Vl) : Prop :=
  (∃ v, r = [vI v] ∧ decode bytes pc = .ok (.ireturn, 1) ∧ (ret = some .int ∨ (ret = some .boolean ∧ 0 ≤ v ∧ v ≤ 1))) ∨
  (∃ v, r = [vL v] ∧ decode bytes pc = .ok (.lreturn, 1) ∧ ret = some .long) ∨
  (∃ t q rt, r = [vR t q] ∧ decode bytes pc = .ok (.areturn, 1) ∧ ret = some rt ∧ ((∃ n, rt = .object n) ∨ ∃ t, rt = .array t)) ∨
  (r = [] ∧ decode bytes pc = .ok (.return_, 1) ∧ ret = none)
theorem lEnt_len : ∀ as : List Vl, (lEnt as).length = stW as
  | [] => rfl
  | v :: as => by
    have ih := lEnt_len as
    unfold lEnt stW at ih ⊢
    rw [List.flatMap_cons, List.length_append, ih, List.map_cons, List.sum_cons]
    congr 1
    rcases v with x | x | x <;> rfl
theorem lg_len (as : List Vl) : (lg_sl (as.map cv)).length = stW as := by
  induction as with
  | nil => rfl
  | cons v as ih =>
    unfold lg_sl stW at ih ⊢
    rw [List.map_cons, List.flatMap_cons, List.length_append, ih, List.map_cons, List.sum_cons]
    congr 1
    rcases v with x | x | ⟨t, _ | x⟩ <;> rfl
theorem lEnt_mem : ∀ (as : List Vl) (k i : Nat) (v : Vl), (lEnt as)[i]? = some (some v) → (k + i, cv v) ∈ lv_args k (as.map cv)
  | [], k, i, v, h => by simp [lEnt] at h
  | w :: as, k, i, v, h => by
    have e : lEnt (w :: as) = (if cat w = 2 then [some w, none] else [some w]) ++ lEnt as := rfl
    rw [e] at h
    rw [List.map_cons, lv_args, cv_cat]
    by_cases hc : cat w = 2
    · rw [if_pos hc] at h ⊢
      match i, h with
      | 0, h =>
        simp at h
        subst h
        exact List.mem_cons_self
      | 1, h => simp at h
      | i + 2, h =>
        have h : (lEnt as)[i]? = some (some v) := h
        have := lEnt_mem as (k + 2) i v h
        rw [show k + 2 + i = k + (i + 2) by omega] at this
        exact List.mem_cons_of_mem _ this
    · rw [if_neg hc] at h ⊢
      match i, h with
      | 0, h =>
        simp at h
        subst h
        exact List.mem_cons_self
      | i + 1, h =>
        have h : (lEnt as)[i]? = some (some v) := h
        have := lEnt_mem as (k + 1) i v h
        rw [show k + 1 + i = k + (i + 1) by omega] at this
        exact List.mem_cons_of_mem _ this
theorem entL_get {as : List Vl} {n i : Nat} {v : Vl} (h : (entL as n)[i]? = some (some v)) : (lEnt as)[i]? = some (some v) := by
  unfold entL at h
  rw [List.getElem?_append] at h
  split at h
  · exact h
  · rw [List.getElem?_replicate] at h
    split at h <;> cases h
theorem ent_LR {as : List Vl} {n : Nat} (h : stW as ≤ n) : LR (entL as n) ((lg_sl (as.map cv) ++ List.replicate (n - (lg_sl (as.map cv)).length) Slot.unset).toArray) n := by
  refine LR.of (lv_entry (as.map cv) (by rw [lg_len]; exact h)) ?_ fun i v hv => ?_
  · unfold entL
    rw [List.length_append, List.length_replicate, lEnt_len]
    omega
  · have := lEnt_mem as 0 i v (entL_get hv)
    rw [Nat.zero_add] at this
    exact this
theorem lEnt_in {as : List Vl} {v : Vl} : some v ∈ lEnt as → v ∈ as := by
  intro h
  obtain ⟨w, hw, hm⟩ := List.mem_flatMap.mp h
  split at hm
  · simp at hm
    subst hm
    exact hw
  · simp at hm
    subst hm
    exact hw
theorem ent_OK {σ : St} {as : List Vl} {n : Nat} (h : ∀ v ∈ as, OKv σ v) : OKs σ (entL as n) [] := by
  refine ⟨fun v hv => by simp at hv, fun v hv => ?_⟩
  unfold entL at hv
  rcases List.mem_append.mp hv with hv | hv
  · exact h v (lEnt_in hv)
  · have := (List.mem_replicate.mp hv).2
    cases this
theorem iz_all : ∀ i, i < 316 → i ∈ tIz := by decide +kernel
/-- what is to be shown of a run of n steps -/
def SndN (G : Gc) (l : Launch) (n : Nat) : Prop := ∀ {d i : Nat} {σ : St} {cs : List LI} {ls : Ls} {st : List Vl} {σf : St} {r : List Vl}, exec mt n d (mt i).2 σ cs ls st = some (σf, r) → i < 317 →
  ∀ {p : Program} {e : Env} {R : Room} {s : State} {m : MethodId} {args : Array Value} {below : List Frame} {meth : Method} {c : Code} {Q : State → Prop} {n0 s0 pc : Nat}, Cx G (ownM i) p s m args → c.code = (mI i).2.1 → meth.name = (mI i).1.name → chkM i pc cs = true → d + 2 ≤ R.frames → 64 * (d + 2) ≤ R.locals → n0 ≤ nx σ → s0 ≤ sl σ → nx σf - n0 ≤ R.cells → sl σf - s0 ≤ R.slots →
  (∀ (ls' : Ls) (pc' : Nat), RetOK c.code pc' (mI i).2.2.1 r → KW p l e R s m args below meth c Q G n0 s0 σf ls' r pc') → KW p l e R s m args below meth c Q G n0 s0 σ ls st pc
theorem met_of {G : Gc} {l : Launch} {n d j : Nat} {σ σ1 : St} {as q : List Vl} (ih : SndN G l n) (h : exec mt n d (mt j).2 σ ((mt j).2 0) (entL as (mt j).1) [] = some (σ1, q)) (hj : j < 316) (hw : stW as ≤ (mt j).1) (hO : ∀ v ∈ as, OKv σ v) : MetI G l d j σ as σ1 q := by
  refine Met.ofW (cc := (mI j).2.1) (maxL := (mt j).1) (ret := (mI j).2.2.1) (m_plain j (by omega)) rfl ?_
  intro p e s m args below meth c s₁ B hml hv
  obtain ⟨rfl, hR, hK, hz⟩ := hv
  have hts := atoms_spec (ws := wsM j) B.pre
  have hown : s.vm.findClass (mI j).1.cls = some m.cls := findClass_of_methodNamed B.named
  have hlocks := B.notSynchronized
  have hnm : meth.name = (mI j).1.name := (name_of_methodNamed B.named B.method).1
  have hcl : cnm (ownM j) = (mI j).1.cls := by
    have := m_cls j (by omega)
    exact this
  have C : Cx G (ownM j) p s m (as.map cv).toArray := ⟨B.exec, by rw [hcl]; exact hown, fun w hw => hts w (List.mem_cons_of_mem _ hw), hK⟩
  have hok := okM_all j (by omega)
  unfold okM at hok
  rw [Bool.and_eq_true, decide_eq_true_eq, List.all_eq_true] at hok
  have hmn := exec_mn h
  rw [lg_entry_eq]
  have key := ih h (by omega) (p := p) (e := e) (R := rmD d (nx σ1 - nx σ) (sl σ1 - sl σ)) (s := s) (m := m) (args := (as.map cv).toArray) (below := below) (meth := meth) (c := c) (Q := MQ below (Qcm G σ1 q) (as.map cv).toArray s (nx σ1 - nx σ) (sl σ1 - sl σ) (fun q => gB G ≤ q)) (n0 := nx σ) (s0 := sl σ) (pc := 0) C B.bytes hnm (hok.2 0 hok.1) (Nat.le_refl _) (Nat.le_refl _) (Nat.le_refl _) (Nat.le_refl _) (Nat.le_refl _) (Nat.le_refl _) ?_ s.heap [] _ hR (fun q hq => by simp at hq) (by rw [hml]; exact ent_LR hw) (ent_OK hO)
  · rw [Nat.sub_self, Nat.sub_self] at key
    exact key
  · intro ls' pc' hret H locs lsJ hR' hlo hL hO'
    have hr := B.returns
    rcases hret with ⟨v, rfl, hd, hv⟩ | ⟨v, rfl, hd, hv⟩ | ⟨t, z, rt, rfl, hd, hv, hrt⟩ | ⟨rfl, hd, hv⟩
    · rcases hv with hv | ⟨hv, h0, h1⟩
      · rw [hv] at hr
        exact W.iret B.exec rfl hr (fun t ht hW => ⟨⟨_, rfl, rfl⟩, by rw [ht]; exact hR', hO'.1⟩) hlo hd
      · rw [hv] at hr
        exact W.zret B.exec rfl hr (nar_z ⟨h0, h1⟩) (fun t ht hW => ⟨⟨_, rfl, rfl⟩, by rw [ht]; exact hR', hO'.1⟩) hlo hd
    · rw [hv] at hr
      exact W.lret B.exec rfl hr (fun t ht hW => ⟨⟨_, rfl, rfl⟩, by rw [ht]; exact hR', hO'.1⟩) hlo hd
    · rw [hv] at hr
      have hz : cv (vR t z) = .null ∨ ∃ a, cv (vR t z) = .ref a := by
        cases z with
        | none => exact Or.inl rfl
        | some w => exact Or.inr ⟨w, rfl⟩
      exact W.aret B.exec rfl hr hrt hz (fun t ht hW => ⟨⟨_, rfl, rfl⟩, by rw [ht]; exact hR', hO'.1⟩) hlo hd
    · rw [hv] at hr
      exact W.vret B.exec rfl hr (fun t ht hW => ⟨⟨_, rfl, rfl⟩, by rw [ht]; exact hR', hO'.1⟩) hlo hd
theorem inb_of {i : Int} {n : Nat} (h : inbB i n = true) : 0 ≤ i ∧ i < (n : Int) := by
  unfold inbB at h
  simpa using h
set_option maxHeartbeats 8000000 in
set_option maxRecDepth 100000 in
theorem snd_all (G : Gc) (l : Launch) : ∀ n, SndN G l n := by
  intro n
  induction n with
  | zero =>
    intro d i σ cs ls st σf r h
    simp [exec] at h
  | succ n ih =>
    intro d i σ cs ls st σf r h hi p e R s m args below meth c Q n0 s0 pc C hcode hname hchk hfr hlo hn0 hs0 hcells hslots hret
    have hmn := exec_mn h
    rcases cs with _ | ⟨⟨op, a, b, x, z⟩, cs⟩
    · exact nomatch (show false = true from hchk)
    rw [exec] at h
    cases est : step (mt i).2 σ ((op, a, b, x, z) :: cs) ls st with
    | none => rw [est] at h; cases h
    | some out =>
    rw [est] at h
    have hok := okM_all i hi
    unfold okM at hok
    rw [Bool.and_eq_true, decide_eq_true_eq, List.all_eq_true] at hok
    have cont : ∀ {σ' : St} {cs' : List LI} {ls' : Ls} {st' : List Vl} {pc' : Nat}, out = .inl (σ', cs', ls', st') → chkM i pc' cs' = true → KW p l e R s m args below meth c Q G n0 s0 σ' ls' st' pc' := by
      intro σ' cs' ls' st' pc' ho hc
      subst ho
      have hm := step_mn est
      exact ih h hi C hcode hname hc hfr hlo (Nat.le_trans hn0 hm.1) (Nat.le_trans hs0 hm.2.1) hcells hslots hret
    have mnS : ∀ {σ' : St} {cs' : List LI} {ls' : Ls} {st' : List Vl}, out = .inl (σ', cs', ls', st') → Mn σ' σf := by
      intro σ' cs' ls' st' ho
      subst ho
      exact exec_mn h
    by_cases h0 : op = 0
    · subst h0
      have hc : (decide (a = pc) && decide (pc ∈ hdM i)) = true := hchk
      rw [Bool.and_eq_true, decide_eq_true_eq, decide_eq_true_eq] at hc
      obtain ⟨rfl, hp⟩ := hc
      have ho : some (Sum.inl (σ, (mt i).2 a, ls, st)) = some out := est
      exact cont (Option.some.inj ho).symm (hok.2 a hp)
    have hck : ∃ ins len, decode c.code pc = .ok (ins, len) ∧ okI (ownM i) pc (iniM i) (hdM i) (mt i).2 (mI i).2.2.1 (op, a, b, x, z) ins len = true ∧ (endB op = true ∨ chkM i (pc + len) cs = true) := by
      have hc : (if op = 0 then _ else match decode (mI i).2.1 pc with | .ok (ins, len) => okI (ownM i) pc (iniM i) (hdM i) (mt i).2 (mI i).2.2.1 (op, a, b, x, z) ins len && (endB op || chkM i (pc + len) cs) | .error _ => false) = true := hchk
      rw [if_neg h0] at hc
      cases hd : decode (mI i).2.1 pc with
      | error q => rw [hd] at hc; exact nomatch hc
      | ok q =>
        rw [hd] at hc
        obtain ⟨ins, len⟩ := q
        dsimp only at hc
        rw [Bool.and_eq_true, Bool.or_eq_true] at hc
        exact ⟨ins, len, by rw [hcode]; exact hd, hc.1, hc.2⟩
    obtain ⟨ins, len, hd, hoi, hnx⟩ := hck
    clear hchk
    have nxt : endB op = false → chkM i (pc + len) cs = true := fun q => by
      rcases hnx with hnx | hnx
      · rw [q] at hnx; exact nomatch hnx
      · exact hnx
    have fr1 : 1 ≤ R.frames := by omega
    have lo40 : 40 ≤ R.locals := by omega
    cases ins with
    | iload k =>
      obtain ⟨rfl, rfl, rfl⟩ := of_decide_eq_true hoi
      obtain ⟨y, hl, ho⟩ := inv_1 est
      exact k_loadI C hd hl (cont ho (nxt rfl))
    | iload_n k =>
      obtain ⟨rfl, rfl, rfl⟩ := of_decide_eq_true hoi
      obtain ⟨y, hl, ho⟩ := inv_1 est
      exact k_loadIn C hd hl (cont ho (nxt rfl))
    | lload k =>
      obtain ⟨rfl, rfl, rfl⟩ := of_decide_eq_true hoi
      obtain ⟨y, hl, ho⟩ := inv_2 est
      exact k_loadL C hd hl (cont ho (nxt rfl))
    | lload_n k =>
      obtain ⟨rfl, rfl, rfl⟩ := of_decide_eq_true hoi
      obtain ⟨y, hl, ho⟩ := inv_2 est
      exact k_loadLn C hd hl (cont ho (nxt rfl))
    | aload k =>
      obtain ⟨rfl, rfl, rfl⟩ := of_decide_eq_true hoi
      obtain ⟨t, y, hl, ho⟩ := inv_3 est
      exact k_loadA C hd hl (cont ho (nxt rfl))
    | aload_n k =>
      obtain ⟨rfl, rfl, rfl⟩ := of_decide_eq_true hoi
      obtain ⟨t, y, hl, ho⟩ := inv_3 est
      exact k_loadAn C hd hl (cont ho (nxt rfl))
    | istore k =>
      obtain ⟨rfl, rfl, rfl⟩ := of_decide_eq_true hoi
      obtain ⟨y, st, rfl, hl, ho⟩ := inv_4 est
      exact k_stoI C hd hl (cont ho (nxt rfl))
    | istore_n k =>
      obtain ⟨rfl, rfl, rfl⟩ := of_decide_eq_true hoi
      obtain ⟨y, st, rfl, hl, ho⟩ := inv_4 est
      exact k_stoIn C hd hl (cont ho (nxt rfl))
    | lstore k =>
      obtain ⟨rfl, rfl, rfl⟩ := of_decide_eq_true hoi
      obtain ⟨y, st, rfl, hl, ho⟩ := inv_5 est
      exact k_stoL C hd hl (cont ho (nxt rfl))
    | lstore_n k =>
      obtain ⟨rfl, rfl, rfl⟩ := of_decide_eq_true hoi
      obtain ⟨y, st, rfl, hl, ho⟩ := inv_5 est
      exact k_stoLn C hd hl (cont ho (nxt rfl))
    | astore k =>
      obtain ⟨rfl, rfl, rfl⟩ := of_decide_eq_true hoi
      obtain ⟨t, y, st, rfl, hl, ho⟩ := inv_6 est
      exact k_stoA C hd hl (cont ho (nxt rfl))
    | astore_n k =>
      obtain ⟨rfl, rfl, rfl⟩ := of_decide_eq_true hoi
      obtain ⟨t, y, st, rfl, hl, ho⟩ := inv_6 est
      exact k_stoAn C hd hl (cont ho (nxt rfl))
    | iconst n =>
      obtain ⟨rfl, hz, rfl⟩ := of_decide_eq_true hoi
      obtain ⟨hr, ho⟩ := inv_7 est
      exact k_iconst C hd hz hr (cont ho (nxt rfl))
    | bipush n =>
      obtain ⟨rfl, hz, rfl⟩ := of_decide_eq_true hoi
      obtain ⟨hr, ho⟩ := inv_7 est
      exact k_bipush C hd hz hr (cont ho (nxt rfl))
    | sipush n =>
      obtain ⟨rfl, hz, rfl⟩ := of_decide_eq_true hoi
      obtain ⟨hr, ho⟩ := inv_7 est
      exact k_sipush C hd hz hr (cont ho (nxt rfl))
    | ldc k =>
      obtain ⟨rfl, hz, rfl⟩ := of_decide_eq_true hoi
      obtain ⟨hr, ho⟩ := inv_7 est
      exact k_ldc C hd hz hr (cont ho (nxt rfl))
    | ldc_w k =>
      obtain ⟨rfl, hz, rfl⟩ := of_decide_eq_true hoi
      obtain ⟨hr, ho⟩ := inv_7 est
      exact k_ldcw C hd hz hr (cont ho (nxt rfl))
    | lconst n =>
      obtain ⟨rfl, hz, rfl⟩ := of_decide_eq_true hoi
      have ho : some (Sum.inl (σ, cs, ls, vL (BitVec.ofInt 64 z) :: st)) = some out := est
      exact k_lconst C hd hz (cont (Option.some.inj ho).symm (nxt rfl))
    | ldc2_w k =>
      obtain ⟨rfl, hz, rfl⟩ := of_decide_eq_true hoi
      have ho : some (Sum.inl (σ, cs, ls, vL (BitVec.ofInt 64 z) :: st)) = some out := est
      exact k_ldc2 C hd hz (cont (Option.some.inj ho).symm (nxt rfl))
    | aconst_null =>
      obtain ⟨rfl, rfl⟩ := of_decide_eq_true hoi
      have ho : some (Sum.inl (σ, cs, ls, vR a none :: st)) = some out := est
      exact k_null C hd (cont (Option.some.inj ho).symm (nxt rfl))
    | iadd =>
      obtain ⟨rfl, rfl⟩ := of_decide_eq_true hoi
      obtain ⟨v0, v1, st, rfl, hc, ho⟩ := inv_10 est
      exact k_iadd C hd ((rgB_iff _).mp hc) (cont ho (nxt rfl))
    | isub =>
      obtain ⟨rfl, rfl⟩ := of_decide_eq_true hoi
      obtain ⟨v0, v1, st, rfl, hc, ho⟩ := inv_11 est
      exact k_isub C hd ((rgB_iff _).mp hc) (cont ho (nxt rfl))
    | imul =>
      obtain ⟨rfl, rfl⟩ := of_decide_eq_true hoi
      obtain ⟨v0, v1, st, rfl, hc, ho⟩ := inv_12 est
      exact k_imul C hd ((rgB_iff _).mp hc) (cont ho (nxt rfl))
    | idiv =>
      obtain ⟨rfl, rfl⟩ := of_decide_eq_true hoi
      obtain ⟨v0, v1, st, rfl, hc, ho⟩ := inv_13 est
      exact k_idiv C hd hc (cont ho (nxt rfl))
    | irem =>
      obtain ⟨rfl, rfl⟩ := of_decide_eq_true hoi
      obtain ⟨v0, v1, st, rfl, hc, ho⟩ := inv_14 est
      exact k_irem C hd hc (cont ho (nxt rfl))
    | ishl =>
      obtain ⟨rfl, rfl⟩ := of_decide_eq_true hoi
      obtain ⟨v0, v1, st, rfl, ho⟩ := inv_16 est
      exact k_ishl C hd (cont ho (nxt rfl))
    | ishr =>
      obtain ⟨rfl, rfl⟩ := of_decide_eq_true hoi
      obtain ⟨v0, v1, st, rfl, ho⟩ := inv_17 est
      exact k_ishr C hd (cont ho (nxt rfl))
    | iushr =>
      obtain ⟨rfl, rfl⟩ := of_decide_eq_true hoi
      obtain ⟨v0, v1, st, rfl, ho⟩ := inv_18 est
      exact k_iushr C hd (cont ho (nxt rfl))
    | iand =>
      obtain ⟨rfl, rfl⟩ := of_decide_eq_true hoi
      obtain ⟨v0, v1, st, rfl, ho⟩ := inv_19 est
      exact k_iand C hd (cont ho (nxt rfl))
    | ior =>
      obtain ⟨rfl, rfl⟩ := of_decide_eq_true hoi
      obtain ⟨v0, v1, st, rfl, ho⟩ := inv_20 est
      exact k_ior C hd (cont ho (nxt rfl))
    | ixor =>
      obtain ⟨rfl, rfl⟩ := of_decide_eq_true hoi
      obtain ⟨v0, v1, st, rfl, ho⟩ := inv_21 est
      exact k_ixor C hd (cont ho (nxt rfl))
    | ladd =>
      obtain ⟨rfl, rfl⟩ := of_decide_eq_true hoi
      obtain ⟨v0, v1, st, rfl, ho⟩ := inv_22 est
      exact k_ladd C hd (cont ho (nxt rfl))
    | lsub =>
      obtain ⟨rfl, rfl⟩ := of_decide_eq_true hoi
      obtain ⟨v0, v1, st, rfl, ho⟩ := inv_23 est
      exact k_lsub C hd (cont ho (nxt rfl))
    | land =>
      obtain ⟨rfl, rfl⟩ := of_decide_eq_true hoi
      obtain ⟨v0, v1, st, rfl, ho⟩ := inv_25 est
      exact k_land C hd (cont ho (nxt rfl))
    | lor =>
      obtain ⟨rfl, rfl⟩ := of_decide_eq_true hoi
      obtain ⟨v0, v1, st, rfl, ho⟩ := inv_26 est
      exact k_lor C hd (cont ho (nxt rfl))
    | lxor =>
      obtain ⟨rfl, rfl⟩ := of_decide_eq_true hoi
      obtain ⟨v0, v1, st, rfl, ho⟩ := inv_27 est
      exact k_lxor C hd (cont ho (nxt rfl))
    | lshl =>
      obtain ⟨rfl, rfl⟩ := of_decide_eq_true hoi
      obtain ⟨v0, v1, st, rfl, ho⟩ := inv_28 est
      exact k_lshl C hd (cont ho (nxt rfl))
    | lshr =>
      obtain ⟨rfl, rfl⟩ := of_decide_eq_true hoi
      obtain ⟨v0, v1, st, rfl, ho⟩ := inv_29 est
      exact k_lshr C hd (cont ho (nxt rfl))
    | lushr =>
      obtain ⟨rfl, rfl⟩ := of_decide_eq_true hoi
      obtain ⟨v0, v1, st, rfl, ho⟩ := inv_30 est
      exact k_lushr C hd (cont ho (nxt rfl))
    | lcmp =>
      obtain ⟨rfl, rfl⟩ := of_decide_eq_true hoi
      obtain ⟨v0, v1, st, rfl, ho⟩ := inv_31 est
      exact k_lcmp C hd (cont ho (nxt rfl))
    | lneg =>
      obtain ⟨rfl, rfl⟩ := of_decide_eq_true hoi
      obtain ⟨v0, st, rfl, ho⟩ := inv_24 est
      exact k_lneg C hd (cont ho (nxt rfl))
    | i2l =>
      obtain ⟨rfl, rfl⟩ := of_decide_eq_true hoi
      obtain ⟨v0, st, rfl, ho⟩ := inv_32 est
      exact k_i2l C hd (cont ho (nxt rfl))
    | l2i =>
      obtain ⟨rfl, rfl⟩ := of_decide_eq_true hoi
      obtain ⟨v0, st, rfl, ho⟩ := inv_33 est
      exact k_l2i C hd (cont ho (nxt rfl))
    | i2b =>
      obtain ⟨rfl, rfl⟩ := of_decide_eq_true hoi
      obtain ⟨v0, st, rfl, ho⟩ := inv_34 est
      exact k_i2b C hd (cont ho (nxt rfl))
    | dup =>
      obtain ⟨rfl, rfl⟩ := of_decide_eq_true hoi
      obtain ⟨v0, st, rfl, hc, ho⟩ := inv_42 est
      exact k_dup C hd hc (cont ho (nxt rfl))
    | pop =>
      obtain ⟨rfl, rfl⟩ := of_decide_eq_true hoi
      obtain ⟨v0, st, rfl, hc, ho⟩ := inv_44 est
      exact k_pop C hd hc (cont ho (nxt rfl))
    | dup2 =>
      obtain ⟨rfl, rfl⟩ := of_decide_eq_true hoi
      obtain ⟨v0, v1, st, rfl, hc, ho⟩ := inv_43 est
      exact k_dup2 C hd hc.1 hc.2 (cont ho (nxt rfl))
    | iinc k n =>
      obtain ⟨rfl, rfl, rfl, rfl⟩ := of_decide_eq_true hoi
      obtain ⟨y, hl, hr, ho⟩ := inv_35 est
      exact k_iinc C hd hl hr (cont ho (nxt rfl))
    | if_icmp q o =>
      obtain ⟨rfl, rfl, hb, hh, rfl⟩ := of_decide_eq_true hoi
      obtain ⟨v0, v1, st, rfl, hc⟩ := inv_36 est
      cases q with
      | eq =>
        rcases hc with ⟨hc, ho⟩ | ⟨hc, ho⟩
        · have hc : v1 = v0 := by simpa [cmpB, cnN] using hc
          exact k_icmp_eq C hd hb (fun _ => cont ho (hok.2 b hh)) (fun q => absurd hc q)
        · have hc : ¬ (v1 = v0) := by simpa [cmpB, cnN] using hc
          exact k_icmp_eq C hd hb (fun q => absurd q hc) (fun _ => cont ho (nxt rfl))
      | ne =>
        rcases hc with ⟨hc, ho⟩ | ⟨hc, ho⟩
        · have hc : ¬ v1 = v0 := by simpa [cmpB, cnN] using hc
          exact k_icmp_ne C hd hb (fun _ => cont ho (hok.2 b hh)) (fun q => absurd hc q)
        · have hc : ¬ (¬ v1 = v0) := by simpa [cmpB, cnN] using hc
          exact k_icmp_ne C hd hb (fun q => absurd q hc) (fun _ => cont ho (nxt rfl))
      | lt =>
        rcases hc with ⟨hc, ho⟩ | ⟨hc, ho⟩
        · have hc : v1 < v0 := by simpa [cmpB, cnN] using hc
          exact k_icmp_lt C hd hb (fun _ => cont ho (hok.2 b hh)) (fun q => absurd hc q)
        · have hc : ¬ (v1 < v0) := by simpa [cmpB, cnN] using hc
          exact k_icmp_lt C hd hb (fun q => absurd q hc) (fun _ => cont ho (nxt rfl))
      | ge =>
        rcases hc with ⟨hc, ho⟩ | ⟨hc, ho⟩
        · have hc : v0 ≤ v1 := by simpa [cmpB, cnN] using hc
          exact k_icmp_ge C hd hb (fun _ => cont ho (hok.2 b hh)) (fun q => absurd hc q)
        · have hc : ¬ (v0 ≤ v1) := by simpa [cmpB, cnN] using hc
          exact k_icmp_ge C hd hb (fun q => absurd q hc) (fun _ => cont ho (nxt rfl))
      | gt =>
        rcases hc with ⟨hc, ho⟩ | ⟨hc, ho⟩
        · have hc : v0 < v1 := by simpa [cmpB, cnN] using hc
          exact k_icmp_gt C hd hb (fun _ => cont ho (hok.2 b hh)) (fun q => absurd hc q)
        · have hc : ¬ (v0 < v1) := by simpa [cmpB, cnN] using hc
          exact k_icmp_gt C hd hb (fun q => absurd q hc) (fun _ => cont ho (nxt rfl))
      | le =>
        rcases hc with ⟨hc, ho⟩ | ⟨hc, ho⟩
        · have hc : v1 ≤ v0 := by simpa [cmpB, cnN] using hc
          exact k_icmp_le C hd hb (fun _ => cont ho (hok.2 b hh)) (fun q => absurd hc q)
        · have hc : ¬ (v1 ≤ v0) := by simpa [cmpB, cnN] using hc
          exact k_icmp_le C hd hb (fun q => absurd q hc) (fun _ => cont ho (nxt rfl))
    | ifCond q o =>
      obtain ⟨rfl, rfl, hb, hh, rfl⟩ := of_decide_eq_true hoi
      obtain ⟨v1, st, rfl, hc⟩ := inv_37 est
      cases q with
      | eq =>
        rcases hc with ⟨hc, ho⟩ | ⟨hc, ho⟩
        · have hc : v1 = 0 := by simpa [cmpB, cnN] using hc
          exact k_if_eq C hd hb (fun _ => cont ho (hok.2 b hh)) (fun q => absurd hc q)
        · have hc : ¬ (v1 = 0) := by simpa [cmpB, cnN] using hc
          exact k_if_eq C hd hb (fun q => absurd q hc) (fun _ => cont ho (nxt rfl))
      | ne =>
        rcases hc with ⟨hc, ho⟩ | ⟨hc, ho⟩
        · have hc : ¬ v1 = 0 := by simpa [cmpB, cnN] using hc
          exact k_if_ne C hd hb (fun _ => cont ho (hok.2 b hh)) (fun q => absurd hc q)
        · have hc : ¬ (¬ v1 = 0) := by simpa [cmpB, cnN] using hc
          exact k_if_ne C hd hb (fun q => absurd q hc) (fun _ => cont ho (nxt rfl))
      | lt =>
        rcases hc with ⟨hc, ho⟩ | ⟨hc, ho⟩
        · have hc : v1 < 0 := by simpa [cmpB, cnN] using hc
          exact k_if_lt C hd hb (fun _ => cont ho (hok.2 b hh)) (fun q => absurd hc q)
        · have hc : ¬ (v1 < 0) := by simpa [cmpB, cnN] using hc
          exact k_if_lt C hd hb (fun q => absurd q hc) (fun _ => cont ho (nxt rfl))
      | ge =>
        rcases hc with ⟨hc, ho⟩ | ⟨hc, ho⟩
        · have hc : 0 ≤ v1 := by simpa [cmpB, cnN] using hc
          exact k_if_ge C hd hb (fun _ => cont ho (hok.2 b hh)) (fun q => absurd hc q)
        · have hc : ¬ (0 ≤ v1) := by simpa [cmpB, cnN] using hc
          exact k_if_ge C hd hb (fun q => absurd q hc) (fun _ => cont ho (nxt rfl))
      | gt =>
        rcases hc with ⟨hc, ho⟩ | ⟨hc, ho⟩
        · have hc : 0 < v1 := by simpa [cmpB, cnN] using hc
          exact k_if_gt C hd hb (fun _ => cont ho (hok.2 b hh)) (fun q => absurd hc q)
        · have hc : ¬ (0 < v1) := by simpa [cmpB, cnN] using hc
          exact k_if_gt C hd hb (fun q => absurd q hc) (fun _ => cont ho (nxt rfl))
      | le =>
        rcases hc with ⟨hc, ho⟩ | ⟨hc, ho⟩
        · have hc : v1 ≤ 0 := by simpa [cmpB, cnN] using hc
          exact k_if_le C hd hb (fun _ => cont ho (hok.2 b hh)) (fun q => absurd hc q)
        · have hc : ¬ (v1 ≤ 0) := by simpa [cmpB, cnN] using hc
          exact k_if_le C hd hb (fun q => absurd q hc) (fun _ => cont ho (nxt rfl))
    | ifnull o =>
      obtain ⟨rfl, hb, hh, rfl⟩ := of_decide_eq_true hoi
      obtain ⟨t, q, st, rfl, hc⟩ := inv_38 est
      rcases hc with ⟨hc, ho⟩ | ⟨hc, ho⟩
      · exact k_ifnull C hd hb (fun _ => cont ho (hok.2 b hh)) (fun a' q => by rw [hc] at q; cases q)
      · exact k_ifnull C hd hb (fun q => absurd q hc) (fun _ _ => cont ho (nxt rfl))
    | ifnonnull o =>
      obtain ⟨rfl, hb, hh, rfl⟩ := of_decide_eq_true hoi
      obtain ⟨t, q, st, rfl, hc⟩ := inv_39 est
      rcases hc with ⟨hc, ho⟩ | ⟨hc, ho⟩
      · exact k_ifnonnull C hd hb (fun a' q => by rw [hc] at q; cases q) (fun _ => cont ho (nxt rfl))
      · exact k_ifnonnull C hd hb (fun _ _ => cont ho (hok.2 b hh)) (fun q => absurd q hc)
    | goto o =>
      obtain ⟨rfl, hb, hh, rfl⟩ := of_decide_eq_true hoi
      have ho : some (Sum.inl (σ, (mt i).2 a, ls, st)) = some out := est
      exact k_goto C hd hb (cont (Option.some.inj ho).symm (hok.2 a hh))
    | tableswitch dflt lo hi offs =>
      have hoi2 : (decide (op = 41 ∧ a = offs.size ∧ lo = 0 ∧ hi + 1 = a ∧ (pc : Int) + dflt = b ∧ b ∈ hdM i) && (List.range a).all (fun j => match offs[j]? with | some o => decide ((pc : Int) + o ≥ 0 ∧ ((pc : Int) + o).toNat ∈ hdM i ∧ (mt i).2 (100000 + j) = [(0, ((pc : Int) + o).toNat, 0, 0, 0)]) | none => false)) = true := hoi
      rw [Bool.and_eq_true, decide_eq_true_eq, List.all_eq_true] at hoi2
      obtain ⟨⟨rfl, ha, rfl, hhi, hb, hh⟩, hall⟩ := hoi2
      obtain ⟨v, st, rfl, hc⟩ := inv_41 est
      rcases hc with ⟨hc, ho⟩ | ⟨hc, ho⟩
      · have hj := hall v.toNat (List.mem_range.mpr (by omega))
        cases hof : offs[v.toNat]? with
        | none => rw [hof] at hj; exact nomatch hj
        | some o =>
          rw [hof] at hj
          obtain ⟨h1, h2, h3⟩ := of_decide_eq_true hj
          rw [h3] at ho
          have hck : chkM i ((pc : Int) + o).toNat [(0, ((pc : Int) + o).toNat, 0, 0, 0)] = true := by
            show (decide (((pc : Int) + o).toNat = ((pc : Int) + o).toNat) && decide (((pc : Int) + o).toNat ∈ hdM i)) = true
            simp [h2]
          exact k_swIn C hd (by omega) (by omega) (by rw [Int.sub_zero]; exact hof) (by omega) (cont ho hck)
      · exact k_swOut C hd (by omega) hb (cont ho (hok.2 b hh))
    | getfield k =>
      obtain ⟨h1, h2, h3, rfl, h4⟩ := of_decide_eq_true hoi
      rcases h4 with ⟨rfl, h4⟩ | ⟨rfl, h4⟩ | ⟨rfl, h4⟩
      · obtain ⟨t, q, st, rfl, rfl, ho⟩ := inv_45 est
        exact k_getI C hd h1 h2 h3 h4 (cont ho (nxt rfl))
      · obtain ⟨t, q, st, rfl, rfl, ho⟩ := inv_46 est
        exact k_getL C hd h1 h2 h3 h4 (cont ho (nxt rfl))
      · obtain ⟨t, q, st, rfl, rfl, ho⟩ := inv_47 est
        exact k_getR C hd h1 h2 h3 h4 (cont ho (nxt rfl))
    | putfield k =>
      obtain ⟨h1, h2, h3, rfl, h4, h5⟩ := of_decide_eq_true hoi
      have h5 : (fTb a b).2.2.2 = false ∨ ((fTb a b).2.2.2 = true ∧ meth.name = "<init>" ∧ (fTb a b).1 = cnm (ownM i)) := by
        rcases h5 with h5 | ⟨g1, g2, g3⟩
        · exact Or.inl h5
        · refine Or.inr ⟨g1, ?_, g3⟩
          rw [hname]
          exact of_decide_eq_true g2
      rcases h4 with ⟨rfl, h4, h6⟩ | ⟨rfl, h4⟩ | ⟨rfl, h4⟩
      · obtain ⟨v, t, q, st, rfl, hc, ho⟩ := inv_48 est
        obtain ⟨rfl, hc⟩ := hc
        exact k_putI C hd h1 h2 h3 h5 h4 (by omega) (cont ho (nxt rfl))
      · obtain ⟨v, t, q, st, rfl, rfl, ho⟩ := inv_49 est
        exact k_putL C hd h1 h2 h3 h5 h4 (cont ho (nxt rfl))
      · obtain ⟨u, v, t, q, st, rfl, hc, ho⟩ := inv_50 est
        obtain ⟨rfl, rfl⟩ := hc
        exact k_putR C hd h1 h2 h3 h5 h4 (cont ho (nxt rfl))
    | getstatic k =>
      obtain ⟨rfl, rfl, h1⟩ := of_decide_eq_true hoi
      obtain ⟨q, hq, ho⟩ := inv_51 est
      rcases h1 with ⟨h1, rfl, rfl⟩ | ⟨h1, rfl, rfl⟩ | ⟨h1, rfl, rfl⟩
      · refine k_gets C hd (Or.inl ⟨rfl, rfl⟩) ?_ hq (cont ho (nxt rfl))
        rw [h1]
        exact C.2.2.1 _ (gt_of (tOd_in _ (by simp [tOd])))
      · refine k_gets C hd (Or.inr ⟨rfl, rfl⟩) ?_ hq (cont ho (nxt rfl))
        rw [h1]
        exact C.2.2.1 _ (gt_of (tOd_in _ (by simp [tOd])))
      · exact k_getsN C h1 rfl hd hq (cont ho (nxt rfl))
    | iaload =>
      obtain ⟨rfl, rfl⟩ := of_decide_eq_true hoi
      obtain ⟨v, t, q, st, rfl, hc, ho⟩ := inv_52 est
      obtain ⟨rfl | rfl, hc⟩ := hc
      · exact k_iald C hd (inb_of hc) (cont ho (nxt rfl))
      · exact k_fald C hd (inb_of hc) (cont ho (nxt rfl))
    | laload =>
      obtain ⟨rfl, rfl⟩ := of_decide_eq_true hoi
      obtain ⟨v, t, q, st, rfl, ⟨rfl, hc⟩, ho⟩ := inv_53 est
      exact k_lald C hd (inb_of hc) (cont ho (nxt rfl))
    | baload =>
      obtain ⟨rfl | rfl, rfl⟩ := of_decide_eq_true hoi
      · obtain ⟨v, t, q, st, rfl, ⟨rfl, hc⟩, ho⟩ := inv_54 est
        exact k_bald C hd (inb_of hc) (cont ho (nxt rfl))
      · obtain ⟨v, t, q, st, rfl, ⟨rfl, hc⟩, ho⟩ := inv_55 est
        exact k_zald C hd (inb_of hc) (cont ho (nxt rfl))
    | aaload =>
      obtain ⟨rfl, hat, rfl⟩ := of_decide_eq_true hoi
      obtain ⟨v, t, q, st, rfl, ⟨rfl, hc⟩, ho⟩ := inv_56 est
      exact k_aald C hd hat (inb_of hc) (cont ho (nxt rfl))
    | iastore =>
      obtain ⟨rfl, rfl⟩ := of_decide_eq_true hoi
      obtain ⟨v, w, t, q, st, rfl, ⟨rfl, hc⟩, ho⟩ := inv_57 est
      exact k_iast C hd (inb_of hc) (cont ho (nxt rfl))
    | lastore =>
      obtain ⟨rfl, rfl⟩ := of_decide_eq_true hoi
      obtain ⟨v, w, t, q, st, rfl, ⟨rfl, hc⟩, ho⟩ := inv_58 est
      exact k_last C hd (inb_of hc) (cont ho (nxt rfl))
    | bastore =>
      obtain ⟨rfl | rfl, rfl⟩ := of_decide_eq_true hoi
      · obtain ⟨v, w, t, q, st, rfl, ⟨rfl, hc, hv⟩, ho⟩ := inv_59 est
        exact k_bast C hd (inb_of hc) hv (cont ho (nxt rfl))
      · obtain ⟨v, w, t, q, st, rfl, ⟨rfl, hc, hv⟩, ho⟩ := inv_60 est
        exact k_zast C hd (inb_of hc) hv (cont ho (nxt rfl))
    | aastore =>
      obtain ⟨rfl, hat, rfl⟩ := of_decide_eq_true hoi
      obtain ⟨u, v, w, t, q, st, rfl, ⟨rfl, rfl, hc⟩, ho⟩ := inv_61 est
      exact k_aast C hd hat (inb_of hc) (cont ho (nxt rfl))
    | arraylength =>
      obtain ⟨rfl, rfl⟩ := of_decide_eq_true hoi
      obtain ⟨t, q, st, rfl, ⟨ht, hc⟩, ho⟩ := inv_62 est
      exact k_alen C hd ht hc (cont ho (nxt rfl))
    | newarray y =>
      obtain ⟨rfl, rfl, ht⟩ := of_decide_eq_true hoi
      obtain ⟨v, st, rfl, hc, ho⟩ := inv_63 est
      have hm := mnS ho
      have e1 : nx (mk σ a v.toNat v.toNat) = nx σ + 1 := rfl
      have e2 : sl (mk σ a v.toNat v.toNat) = sl σ + v.toNat := rfl
      have := hm.1
      have := hm.2.1
      exact k_newa C hd ht hc hn0 hs0 (by omega) (by omega) (cont ho (nxt rfl))
    | anewarray k =>
      obtain ⟨rfl, rfl, ht⟩ := of_decide_eq_true hoi
      obtain ⟨v, st, rfl, hc, ho⟩ := inv_64 est
      have hm := mnS ho
      have e1 : nx (mk σ a v.toNat v.toNat) = nx σ + 1 := rfl
      have e2 : sl (mk σ a v.toNat v.toNat) = sl σ + v.toNat := rfl
      have := hm.1
      have := hm.2.1
      rcases ht with ⟨h1, rfl⟩ | ⟨h1, rfl⟩
      · exact k_anew C hd h1 (Or.inl ⟨rfl, rfl⟩) hc hn0 hs0 (by omega) (by omega) (cont ho (nxt rfl))
      · exact k_anew C hd h1 (Or.inr ⟨rfl, rfl⟩) hc hn0 hs0 (by omega) (by omega) (cont ho (nxt rfl))
    | multianewarray k n =>
      obtain ⟨rfl, rfl, ho4, rfl, rfl⟩ := of_decide_eq_true hoi
      obtain ⟨v, w, st, rfl, ⟨rfl, rfl⟩, ho⟩ := inv_65 est
      have hm := mnS ho
      have e1 : nx (mkM σ) = nx σ + 1 + 20 := mkM_nx σ
      have e2 : sl (mkM σ) = sl σ + 20 := mkM_sl σ
      have := hm.1
      have := hm.2.1
      exact k_multi C hd ho4 hn0 hs0 (by omega) (by omega) (cont ho (nxt rfl))
    | new k =>
      obtain ⟨rfl, rfl, h1, h2, rfl⟩ := of_decide_eq_true hoi
      have ho := inv_66 est
      have hm := mnS ho
      have e1 : nx (mk σ a 0 (nFl a)) = nx σ + 1 := rfl
      have e2 : sl (mk σ a 0 (nFl a)) = sl σ + nFl a := rfl
      have := hm.1
      have := hm.2.1
      exact k_new C hd h1 h2 hn0 hs0 (by omega) (by omega) (cont ho (nxt rfl))
    | invokestatic k =>
      obtain ⟨rfl, hcs⟩ := of_decide_eq_true hoi
      rcases hcs with ⟨rfl, hz, hl, hst, ha, rfl, hmx, hzl⟩ | ⟨h69, hl⟩ | ⟨rfl, hl⟩ | ⟨rfl, hl⟩
      · obtain ⟨as, st, rfl, hlen, hw, hwa, ho, hrec⟩ := inv_67 est
        subst ho
        dsimp only at h
        cases d with
        | zero => cases h
        | succ d1 =>
          dsimp only at h
          cases e2 : exec mt n d1 (mt a).2 σ ((mt a).2 0) (entL as (mt a).1) [] with
          | none => rw [e2] at h; cases h
          | some q =>
            rw [e2] at h
            obtain ⟨σ1, r1⟩ := q
            dsimp only at h
            have hmc := exec_mn e2
            have hmf := exec_mn h
            have := hmc.1
            have := hmc.2.1
            have := hmf.1
            have := hmf.2.1
            have hnx2 : chkM i (pc + 3) cs = true := nxt rfl
            intro H locs lsJ hR hl2 hL hO
            have hM : MetI G l d1 a σ as σ1 r1 := met_of ih e2 ha (by omega) (fun v hv => hO.1 v (List.mem_append_left _ (List.mem_reverse.mpr hv)))
            have kk : KW p l e R s m args below meth c Q G n0 s0 σ1 ls (r1 ++ st) (pc + 3) := ih h hi C hcode hname hnx2 hfr hlo (by omega) (by omega) hcells hslots hret
            rcases hl with hl | hl
            · exact k_callS C hd hl hst (iz_all a ha) hlen ha hM (by omega) (by omega) hmx hw hn0 hs0 (by omega) (by omega) (by omega) (by omega) hmc.2.2 kk H locs lsJ hR hl2 hL hO
            · exact k_callSN C hd hl hst (iz_all a ha) hlen ha hM (by omega) (by omega) hmx hw hn0 hs0 (by omega) (by omega) (by omega) (by omega) hmc.2.2 kk H locs lsJ hR hl2 hL hO
      · rcases h69 with rfl | rfl
        · obtain ⟨n', dp, sp, d', q, st, rfl, hh, hw, ho⟩ := inv_69 est
          exact k_cpyI C hd hl hh hw fr1 lo40 (cont ho (nxt rfl))
        · obtain ⟨n', dp, sp, d', q, st, rfl, hh, hw, ho⟩ := inv_70 est
          exact k_cpyL C hd hl hh hw fr1 lo40 (cont ho (nxt rfl))
      · obtain ⟨v0, v1, st, rfl, hw, ho⟩ := inv_75 est
        have := hmn.1
        have := hmn.2.1
        exact k_max C hd hl hw fr1 lo40 (by omega) (by omega) (cont ho (nxt rfl))
      · obtain ⟨v0, v1, st, rfl, hw, ho⟩ := inv_76 est
        have := hmn.1
        have := hmn.2.1
        exact k_min C hd hl hw fr1 lo40 (by omega) (by omega) (cont ho (nxt rfl))
    | invokevirtual k =>
      obtain ⟨rfl, rfl, hz, hl, hin, hse, ha, hu, hcl, hb, hmx, hzl⟩ := of_decide_eq_true hoi
      obtain ⟨as, st, rfl, hlen, hw, hwa, ho, hrec⟩ := inv_67 est
      subst ho
      dsimp only at h
      cases d with
      | zero => cases h
      | succ d1 =>
        dsimp only at h
        cases e2 : exec mt n d1 (mt a).2 σ ((mt a).2 0) (entL as (mt a).1) [] with
        | none => rw [e2] at h; cases h
        | some q =>
          rw [e2] at h
          obtain ⟨σ1, r1⟩ := q
          dsimp only at h
          have hmc := exec_mn e2
          have hmf := exec_mn h
          have := hmc.1
          have := hmc.2.1
          have := hmf.1
          have := hmf.2.1
          have hnx2 : chkM i (pc + 3) cs = true := nxt rfl
          intro H locs lsJ hR hl2 hL hO
          have hM : MetI G l d1 a σ as σ1 r1 := met_of ih e2 ha (by omega) (fun v hv => hO.1 v (List.mem_append_left _ (List.mem_reverse.mpr hv)))
          have kk : KW p l e R s m args below meth c Q G n0 s0 σ1 ls (r1 ++ st) (pc + 3) := ih h hi C hcode hname hnx2 hfr hlo (by omega) (by omega) hcells hslots hret
          rcases hrec with hrec | ⟨q, as0, rfl⟩
          · exact absurd hrec hz
          · exact k_callV C rfl hd hl hin hse (iz_all a ha) hu hcl (by rw [hb] at hlen; simpa using hlen) ha hM (by omega) (by omega) hmx hw hn0 hs0 (by omega) (by omega) (by omega) (by omega) hmc.2.2 kk H locs lsJ hR hl2 hL hO
    | invokespecial k =>
      obtain ⟨rfl, hcs⟩ := of_decide_eq_true hoi
      rcases hcs with ⟨rfl, hl⟩ | ⟨rfl, hz, hl, hin, ha, hnm, hrt, hb, hmx, hzl⟩
      · obtain ⟨t, q, st, rfl, hw, ho⟩ := inv_68 est
        exact k_oinit C hd hl hw fr1 (by omega) (cont ho (nxt rfl))
      · obtain ⟨as, st, rfl, hlen, hw, hwa, ho, hrec⟩ := inv_67 est
        subst ho
        dsimp only at h
        cases d with
        | zero => cases h
        | succ d1 =>
          dsimp only at h
          cases e2 : exec mt n d1 (mt a).2 σ ((mt a).2 0) (entL as (mt a).1) [] with
          | none => rw [e2] at h; cases h
          | some q =>
            rw [e2] at h
            obtain ⟨σ1, r1⟩ := q
            dsimp only at h
            have hmc := exec_mn e2
            have hmf := exec_mn h
            have := hmc.1
            have := hmc.2.1
            have := hmf.1
            have := hmf.2.1
            have hnx2 : chkM i (pc + 3) cs = true := nxt rfl
            intro H locs lsJ hR hl2 hL hO
            have hM : MetI G l d1 a σ as σ1 r1 := met_of ih e2 ha (by omega) (fun v hv => hO.1 v (List.mem_append_left _ (List.mem_reverse.mpr hv)))
            have kk : KW p l e R s m args below meth c Q G n0 s0 σ1 ls (r1 ++ st) (pc + 3) := ih h hi C hcode hname hnx2 hfr hlo (by omega) (by omega) hcells hslots hret
            rcases hrec with hrec | ⟨q, as0, rfl⟩
            · exact absurd hrec hz
            · exact k_callI C rfl hd hl hin (iz_all a ha) hnm hrt (by rw [hb] at hlen; simpa using hlen) ha hM (by omega) (by omega) hmx hw hn0 hs0 (by omega) (by omega) (by omega) (by omega) hmc.2.2 kk H locs lsJ hR hl2 hL hO
    | ireturn =>
      obtain ⟨rfl, rfl, h1⟩ := of_decide_eq_true hoi
      obtain ⟨v, rfl, hv, ho⟩ := inv_71 est
      subst ho
      cases h
      refine hret ls pc (Or.inl ⟨v, rfl, hd, ?_⟩)
      rcases h1 with ⟨rfl, h1⟩ | ⟨rfl, h1⟩
      · exact Or.inl h1
      · exact Or.inr ⟨h1, by omega⟩
    | lreturn =>
      obtain ⟨rfl, rfl, h1⟩ := of_decide_eq_true hoi
      obtain ⟨v, rfl, ho⟩ := inv_72 est
      subst ho
      cases h
      exact hret ls pc (Or.inr (Or.inl ⟨v, rfl, hd, h1⟩))
    | areturn =>
      have hoi2 : (decide (op = 73 ∧ len = 1) && (match (mI i).2.2.1 with | some (.object _) => true | some (.array _) => true | _ => false)) = true := hoi
      rw [Bool.and_eq_true, decide_eq_true_eq] at hoi2
      obtain ⟨⟨rfl, rfl⟩, h1⟩ := hoi2
      obtain ⟨t, v, rfl, ho⟩ := inv_73 est
      subst ho
      cases h
      refine hret ls pc (Or.inr (Or.inr (Or.inl ?_)))
      cases e3 : (mI i).2.2.1 with
      | none => rw [e3] at h1; exact nomatch h1
      | some rt =>
        rw [e3] at h1
        refine ⟨t, v, rt, rfl, hd, rfl, ?_⟩
        cases rt <;> first | exact Or.inl ⟨_, rfl⟩ | exact Or.inr ⟨_, rfl⟩ | exact nomatch h1
    | return_ =>
      obtain ⟨rfl, rfl, h1⟩ := of_decide_eq_true hoi
      obtain ⟨rfl, ho⟩ := inv_74 est
      subst ho
      cases h
      exact hret ls pc (Or.inr (Or.inr (Or.inr ⟨rfl, hd, h1⟩)))
    | _ => exact nomatch (show false = true from hoi)
