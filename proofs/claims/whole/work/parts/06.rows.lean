theorem rg_idiv {x y : Int} (hx : Rg x) (hy : Rg y) (h : 0 ≤ x ∧ 0 < y) : Int32.ofInt x / Int32.ofInt y = Int32.ofInt (x / y) ∧ Rg (x / y) := by
  obtain ⟨a, rfl⟩ := Int.eq_ofNat_of_zero_le h.1
  obtain ⟨b, rfl⟩ := Int.eq_ofNat_of_zero_le (Int.le_of_lt h.2)
  obtain ⟨-, ha⟩ := hx
  obtain ⟨-, hb⟩ := hy
  have e := pk_div (a := a) (d := b) (by omega) (by omega) (by omega)
  have hq : a / b ≤ a := Nat.div_le_self a b
  refine ⟨?_, ?_⟩
  · rw [← Int.natCast_ediv]
    exact e
  · rw [← Int.natCast_ediv]
    generalize a / b = t at hq
    exact ⟨by omega, by omega⟩
theorem rg_irem {x y : Int} (hx : Rg x) (hy : Rg y) (h : 0 ≤ x ∧ 0 < y) : Int32.ofInt x - Int32.ofInt x / Int32.ofInt y * Int32.ofInt y = Int32.ofInt (x % y) ∧ Rg (x % y) := by
  obtain ⟨a, rfl⟩ := Int.eq_ofNat_of_zero_le h.1
  obtain ⟨b, rfl⟩ := Int.eq_ofNat_of_zero_le (Int.le_of_lt h.2)
  obtain ⟨-, ha⟩ := hx
  obtain ⟨-, hb⟩ := hy
  have e := pk_rem (a := a) (d := b) (by omega) (by omega) (by omega)
  have hq : a % b ≤ a := Nat.mod_le a b
  refine ⟨?_, ?_⟩
  · rw [← Int.natCast_emod]
    exact e
  · rw [← Int.natCast_emod]
    exact ⟨by omega, by omega⟩
theorem lcmp_of (x y : BitVec 64) : lg_cmp (Int64.ofBitVec x) (Int64.ofBitVec y) = Int32.ofInt (lCmp x y) := by
  unfold lg_cmp lCmp
  simp only [gt_iff_lt, Int64.lt_iff_toInt_lt, ← Int64.toInt_inj, Int64.toInt_ofBitVec]
  split
  · rfl
  · split <;> rfl
theorem lcmp_rg (x y : BitVec 64) : Rg (lCmp x y) := by
  unfold lCmp
  split
  · exact ⟨by decide, by decide⟩
  · split
    · exact ⟨by decide, by decide⟩
    · exact ⟨by decide, by decide⟩
theorem i2l_of {x : Int} (h : Rg x) : (Int32.ofInt x).toInt64 = Int64.ofBitVec (BitVec.ofInt 64 x) := by
  rw [← Int64.toInt_inj, Int32.toInt_toInt64, rg_toInt h, Int64.toInt_ofBitVec, BitVec.toInt_ofInt]
  obtain ⟨h1, h2⟩ := h
  rw [Int.bmod_eq_of_le_mul_two] <;> omega
/-! THE MACHINE'S ROWS, each as a row of the JVM -/
def gt : List Cond := lw_tbl.filter goodWord
theorem gt_of {w : Cond} (h : w ∈ lw_tbl ∧ ((w.onTables && w.keeps) = true ∨ ∃ ty, w = .arrayClass ty)) : w ∈ gt := by
  refine List.mem_filter.mpr ⟨h.1, ?_⟩
  rcases h.2 with h | ⟨ty, rfl⟩
  · cases w <;> first | rfl | exact h
  · rfl
theorem gt_good {w : Cond} (h : w ∈ gt) : (w.onTables && w.keeps) = true ∨ ∃ ty, w = .arrayClass ty := good_of_word (List.mem_filter.mp h).2
def Cx (G : Gc) (own : Nat) (p : Program) (s : State) (m : MethodId) (args : Array Value) : Prop := p.tables.exec = Jvm.exec ∧ s.vm.findClass (cnm own) = some m.cls ∧ (∀ w ∈ gt, w.before args s = true) ∧ KN G s
def KW (p : Program) (l : Launch) (e : Env) (R : Room) (s : State) (m : MethodId) (args : Array Value) (below : List Frame) (meth : Method) (c : Code) (Q : State → Prop) (G : Gc) (n0 s0 : Nat) (σ : St) (ls : Ls) (st : List Vl) (pc : Nat) : Prop :=
  ∀ (H : Heap) (locs : List Loc) (lsJ : Array Slot), Rel G σ H → (∀ q ∈ locs, gB G ≤ q.base) → LR ls lsJ c.maxLocals → OKs σ ls st → W p l e R s m args below meth c H locs (nx σ - n0) (sl σ - s0) Q (F0 m pc lsJ (st.map cv))
section KR
variable {p : Program} {l : Launch} {e : Env} {R : Room} {s : State} {m : MethodId} {args : Array Value} {below : List Frame} {meth : Method} {c : Code} {Q : State → Prop} {G : Gc} {n0 s0 own : Nat} {σ : St} {ls : Ls} {st : List Vl} {pc : Nat}

theorem k_loadI (C : Cx G own p s m args) {i : Nat} {x : Int} (hd : decode c.code pc = .ok (.iload i, 2)) (h : ls[i]? = some (some (vI x))) (k : KW p l e R s m args below meth c Q G n0 s0 σ ls (vI x :: st) (pc + 2)) : KW p l e R s m args below meth c Q G n0 s0 σ ls st pc := by
  intro H locs lsJ hR hl hL hO
  exact lv_iload C.1 rfl hd (hL.2.2.2 i _ h) (k H locs lsJ hR hl hL (hO.push (hO.loc h)))

theorem k_loadIn (C : Cx G own p s m args) {i : Fin 4} {x : Int} (hd : decode c.code pc = .ok (.iload_n i, 1)) (h : ls[i.val]? = some (some (vI x))) (k : KW p l e R s m args below meth c Q G n0 s0 σ ls (vI x :: st) (pc + 1)) : KW p l e R s m args below meth c Q G n0 s0 σ ls st pc := by
  intro H locs lsJ hR hl hL hO
  exact lv_iload_n C.1 rfl hd rfl (hL.2.2.2 i.val _ h) (k H locs lsJ hR hl hL (hO.push (hO.loc h)))

theorem k_loadL (C : Cx G own p s m args) {i : Nat} {x : BitVec 64} (hd : decode c.code pc = .ok (.lload i, 2)) (h : ls[i]? = some (some (vL x))) (k : KW p l e R s m args below meth c Q G n0 s0 σ ls (vL x :: st) (pc + 2)) : KW p l e R s m args below meth c Q G n0 s0 σ ls st pc := by
  intro H locs lsJ hR hl hL hO
  exact lv_lload C.1 rfl hd (hL.2.2.2 i _ h) (k H locs lsJ hR hl hL (hO.push (hO.loc h)))

theorem k_loadLn (C : Cx G own p s m args) {i : Fin 4} {x : BitVec 64} (hd : decode c.code pc = .ok (.lload_n i, 1)) (h : ls[i.val]? = some (some (vL x))) (k : KW p l e R s m args below meth c Q G n0 s0 σ ls (vL x :: st) (pc + 1)) : KW p l e R s m args below meth c Q G n0 s0 σ ls st pc := by
  intro H locs lsJ hR hl hL hO
  exact lv_lload_n C.1 rfl hd rfl (hL.2.2.2 i.val _ h) (k H locs lsJ hR hl hL (hO.push (hO.loc h)))

theorem k_loadA (C : Cx G own p s m args) {i t : Nat} {q : Option Nat} (hd : decode c.code pc = .ok (.aload i, 2)) (h : ls[i]? = some (some (vR t q))) (k : KW p l e R s m args below meth c Q G n0 s0 σ ls (vR t q :: st) (pc + 2)) : KW p l e R s m args below meth c Q G n0 s0 σ ls st pc := by
  intro H locs lsJ hR hl hL hO
  have hj := hL.2.2.2 i _ h
  have k := k H locs lsJ hR hl hL (hO.push (hO.loc h))
  cases q with
  | none => exact lv_aloadN C.1 rfl hd hj k
  | some q => exact lv_aload C.1 rfl hd hj k

theorem k_loadAn (C : Cx G own p s m args) {i : Fin 4} {t : Nat} {q : Option Nat} (hd : decode c.code pc = .ok (.aload_n i, 1)) (h : ls[i.val]? = some (some (vR t q))) (k : KW p l e R s m args below meth c Q G n0 s0 σ ls (vR t q :: st) (pc + 1)) : KW p l e R s m args below meth c Q G n0 s0 σ ls st pc := by
  intro H locs lsJ hR hl hL hO
  have hj := hL.2.2.2 i.val _ h
  have k := k H locs lsJ hR hl hL (hO.push (hO.loc h))
  cases q with
  | none => exact lv_aload_nN C.1 rfl hd rfl hj k
  | some q => exact lv_aload_n C.1 rfl hd rfl hj k

theorem k_stoI (C : Cx G own p s m args) {i : Nat} {x : Int} (hd : decode c.code pc = .ok (.istore i, 2)) (h : i < ls.length) (k : KW p l e R s m args below meth c Q G n0 s0 σ (lSet1 ls i (vI x)) st (pc + 2)) : KW p l e R s m args below meth c Q G n0 s0 σ ls (vI x :: st) pc := by
  intro H locs lsJ hR hl hL hO
  refine lv_istore C.1 rfl hd hL.has (by rw [← hL.2.2.1]; exact h) rfl fun lsJ' h' => ?_
  exact k H locs lsJ' hR hl (hL.set1 (w := vI x) h') hO.set1

theorem k_stoIn (C : Cx G own p s m args) {i : Fin 4} {x : Int} (hd : decode c.code pc = .ok (.istore_n i, 1)) (h : i.val < ls.length) (k : KW p l e R s m args below meth c Q G n0 s0 σ (lSet1 ls i.val (vI x)) st (pc + 1)) : KW p l e R s m args below meth c Q G n0 s0 σ ls (vI x :: st) pc := by
  intro H locs lsJ hR hl hL hO
  refine lv_istore_n C.1 rfl hd rfl hL.has (by rw [← hL.2.2.1]; exact h) rfl fun lsJ' h' => ?_
  exact k H locs lsJ' hR hl (hL.set1 (w := vI x) h') hO.set1

theorem k_stoL (C : Cx G own p s m args) {i : Nat} {x : BitVec 64} (hd : decode c.code pc = .ok (.lstore i, 2)) (h : i + 1 < ls.length) (k : KW p l e R s m args below meth c Q G n0 s0 σ (lSet2 ls i (vL x)) st (pc + 2)) : KW p l e R s m args below meth c Q G n0 s0 σ ls (vL x :: st) pc := by
  intro H locs lsJ hR hl hL hO
  refine lv_lstore C.1 rfl hd hL.has (by rw [← hL.2.2.1]; exact h) rfl fun lsJ' h' => ?_
  exact k H locs lsJ' hR hl (hL.set2 (w := vL x) h') hO.set2

theorem k_stoLn (C : Cx G own p s m args) {i : Fin 4} {x : BitVec 64} (hd : decode c.code pc = .ok (.lstore_n i, 1)) (h : i.val + 1 < ls.length) (k : KW p l e R s m args below meth c Q G n0 s0 σ (lSet2 ls i.val (vL x)) st (pc + 1)) : KW p l e R s m args below meth c Q G n0 s0 σ ls (vL x :: st) pc := by
  intro H locs lsJ hR hl hL hO
  refine lv_lstore_n C.1 rfl hd rfl hL.has (by rw [← hL.2.2.1]; exact h) rfl fun lsJ' h' => ?_
  exact k H locs lsJ' hR hl (hL.set2 (w := vL x) h') hO.set2

theorem k_stoA (C : Cx G own p s m args) {i : Nat} {t : Nat} {q : Option Nat} (hd : decode c.code pc = .ok (.astore i, 2)) (h : i < ls.length) (k : KW p l e R s m args below meth c Q G n0 s0 σ (lSet1 ls i (vR t q)) st (pc + 2)) : KW p l e R s m args below meth c Q G n0 s0 σ ls (vR t q :: st) pc := by
  intro H locs lsJ hR hl hL hO
  have hn : i < c.maxLocals := by rw [← hL.2.2.1]; exact h
  cases q with
  | none =>
    refine lv_astoreN C.1 rfl hd hL.has hn rfl fun lsJ' h' => ?_
    exact k H locs lsJ' hR hl (hL.set1 (w := vR t none) h') hO.set1
  | some q =>
    refine lv_astore C.1 rfl hd hL.has hn rfl fun lsJ' h' => ?_
    exact k H locs lsJ' hR hl (hL.set1 (w := vR t (some q)) h') hO.set1

theorem k_stoAn (C : Cx G own p s m args) {i : Fin 4} {t : Nat} {q : Option Nat} (hd : decode c.code pc = .ok (.astore_n i, 1)) (h : i.val < ls.length) (k : KW p l e R s m args below meth c Q G n0 s0 σ (lSet1 ls i.val (vR t q)) st (pc + 1)) : KW p l e R s m args below meth c Q G n0 s0 σ ls (vR t q :: st) pc := by
  intro H locs lsJ hR hl hL hO
  have hn : i.val < c.maxLocals := by rw [← hL.2.2.1]; exact h
  cases q with
  | none =>
    refine lv_astore_nN C.1 rfl hd rfl hL.has hn rfl fun lsJ' h' => ?_
    exact k H locs lsJ' hR hl (hL.set1 (w := vR t none) h') hO.set1
  | some q =>
    refine lv_astore_n C.1 rfl hd rfl hL.has hn rfl fun lsJ' h' => ?_
    exact k H locs lsJ' hR hl (hL.set1 (w := vR t (some q)) h') hO.set1

theorem k_iconst (C : Cx G own p s m args) {n z : Int} (hd : decode c.code pc = .ok (.iconst n, 1)) (h : n = z) (hz : Rg z) (k : KW p l e R s m args below meth c Q G n0 s0 σ ls (vI z :: st) (pc + 1)) : KW p l e R s m args below meth c Q G n0 s0 σ ls st pc := by
  intro H locs lsJ hR hl hL hO
  subst h
  exact lv_iconst C.1 rfl hd rfl (k H locs lsJ hR hl hL (hO.push hz))

theorem k_bipush (C : Cx G own p s m args) {n z : Int} (hd : decode c.code pc = .ok (.bipush n, 2)) (h : (Int8.ofInt n).toInt32 = Int32.ofInt z) (hz : Rg z) (k : KW p l e R s m args below meth c Q G n0 s0 σ ls (vI z :: st) (pc + 2)) : KW p l e R s m args below meth c Q G n0 s0 σ ls st pc := by
  intro H locs lsJ hR hl hL hO
  exact lv_bipush C.1 rfl hd h (k H locs lsJ hR hl hL (hO.push hz))

theorem k_sipush (C : Cx G own p s m args) {n z : Int} (hd : decode c.code pc = .ok (.sipush n, 3)) (h : (Int16.ofInt n).toInt32 = Int32.ofInt z) (hz : Rg z) (k : KW p l e R s m args below meth c Q G n0 s0 σ ls (vI z :: st) (pc + 3)) : KW p l e R s m args below meth c Q G n0 s0 σ ls st pc := by
  intro H locs lsJ hR hl hL hO
  exact lv_sipush C.1 rfl hd h (k H locs lsJ hR hl hL (hO.push hz))

theorem k_ldc (C : Cx G own p s m args) {i : Nat} {z : Int} (hd : decode c.code pc = .ok (.ldc i, 2)) (h : (own, i, z) ∈ tKI) (hz : Rg z) (k : KW p l e R s m args below meth c Q G n0 s0 σ ls (vI z :: st) (pc + 2)) : KW p l e R s m args below meth c Q G n0 s0 σ ls st pc := by
  intro H locs lsJ hR hl hL hO
  exact lv_ldc C.1 rfl C.2.1 (C.2.2.1 _ (gt_of (tKI_in _ (List.mem_map_of_mem h)))) hd (k H locs lsJ hR hl hL (hO.push hz))

theorem k_ldcw (C : Cx G own p s m args) {i : Nat} {z : Int} (hd : decode c.code pc = .ok (.ldc_w i, 3)) (h : (own, i, z) ∈ tKI) (hz : Rg z) (k : KW p l e R s m args below meth c Q G n0 s0 σ ls (vI z :: st) (pc + 3)) : KW p l e R s m args below meth c Q G n0 s0 σ ls st pc := by
  intro H locs lsJ hR hl hL hO
  exact lv_ldcw C.1 rfl C.2.1 (C.2.2.1 _ (gt_of (tKI_in _ (List.mem_map_of_mem h)))) hd (k H locs lsJ hR hl hL (hO.push hz))

theorem k_ldc2 (C : Cx G own p s m args) {i : Nat} {z : Int} (hd : decode c.code pc = .ok (.ldc2_w i, 3)) (h : (own, i, z) ∈ tKL) (k : KW p l e R s m args below meth c Q G n0 s0 σ ls (vL (BitVec.ofInt 64 z) :: st) (pc + 3)) : KW p l e R s m args below meth c Q G n0 s0 σ ls st pc := by
  intro H locs lsJ hR hl hL hO
  exact lv_ldc2 C.1 rfl C.2.1 (C.2.2.1 _ (gt_of (tKL_in _ (List.mem_map_of_mem h)))) hd (k H locs lsJ hR hl hL (hO.push (v := vL _) trivial))

theorem k_lconst (C : Cx G own p s m args) {n : Fin 2} {z : Int} (hd : decode c.code pc = .ok (.lconst n, 1)) (h : Int64.ofNat n.val = Int64.ofBitVec (BitVec.ofInt 64 z)) (k : KW p l e R s m args below meth c Q G n0 s0 σ ls (vL (BitVec.ofInt 64 z) :: st) (pc + 1)) : KW p l e R s m args below meth c Q G n0 s0 σ ls st pc := by
  intro H locs lsJ hR hl hL hO
  exact lv_lconst C.1 rfl hd h (k H locs lsJ hR hl hL (hO.push (v := vL _) trivial))

theorem k_null (C : Cx G own p s m args) {t : Nat} (hd : decode c.code pc = .ok (.aconst_null, 1)) (k : KW p l e R s m args below meth c Q G n0 s0 σ ls (vR t none :: st) (pc + 1)) : KW p l e R s m args below meth c Q G n0 s0 σ ls st pc := by
  intro H locs lsJ hR hl hL hO
  exact lv_null C.1 rfl hd (k H locs lsJ hR hl hL (hO.push (v := vR t none) trivial))

theorem k_iadd (C : Cx G own p s m args) {x y : Int} (hd : decode c.code pc = .ok (.iadd, 1)) (h : Rg (x + y)) (k : KW p l e R s m args below meth c Q G n0 s0 σ ls (vI (x + y) :: st) (pc + 1)) : KW p l e R s m args below meth c Q G n0 s0 σ ls (vI y :: vI x :: st) pc := by
  intro H locs lsJ hR hl hL hO
  refine lv_iadd C.1 rfl hd ?_
  rw [← Int32.ofInt_add]
  exact k H locs lsJ hR hl hL (hO.pop.pop.push h)

theorem k_isub (C : Cx G own p s m args) {x y : Int} (hd : decode c.code pc = .ok (.isub, 1)) (h : Rg (x - y)) (k : KW p l e R s m args below meth c Q G n0 s0 σ ls (vI (x - y) :: st) (pc + 1)) : KW p l e R s m args below meth c Q G n0 s0 σ ls (vI y :: vI x :: st) pc := by
  intro H locs lsJ hR hl hL hO
  refine lv_isub C.1 rfl hd ?_
  rw [← Int32.ofInt_sub]
  exact k H locs lsJ hR hl hL (hO.pop.pop.push h)

theorem k_imul (C : Cx G own p s m args) {x y : Int} (hd : decode c.code pc = .ok (.imul, 1)) (h : Rg (x * y)) (k : KW p l e R s m args below meth c Q G n0 s0 σ ls (vI (x * y) :: st) (pc + 1)) : KW p l e R s m args below meth c Q G n0 s0 σ ls (vI y :: vI x :: st) pc := by
  intro H locs lsJ hR hl hL hO
  refine lv_imul C.1 rfl hd ?_
  rw [← Int32.ofInt_mul]
  exact k H locs lsJ hR hl hL (hO.pop.pop.push h)

theorem k_idiv (C : Cx G own p s m args) {x y : Int} (hd : decode c.code pc = .ok (.idiv, 1)) (h : 0 ≤ x ∧ 0 < y) (k : KW p l e R s m args below meth c Q G n0 s0 σ ls (vI (x / y) :: st) (pc + 1)) : KW p l e R s m args below meth c Q G n0 s0 σ ls (vI y :: vI x :: st) pc := by
  intro H locs lsJ hR hl hL hO
  have hx := hO.pop.top
  have hy := hO.top
  have e := rg_idiv hx hy h
  refine lv_idiv C.1 rfl hd (fun q => by rw [show (0 : Int32) = Int32.ofInt 0 from rfl, rg_eq hy rg_0] at q; omega) ?_
  rw [e.1]
  exact k H locs lsJ hR hl hL (hO.pop.pop.push e.2)

theorem k_irem (C : Cx G own p s m args) {x y : Int} (hd : decode c.code pc = .ok (.irem, 1)) (h : 0 ≤ x ∧ 0 < y) (k : KW p l e R s m args below meth c Q G n0 s0 σ ls (vI (x % y) :: st) (pc + 1)) : KW p l e R s m args below meth c Q G n0 s0 σ ls (vI y :: vI x :: st) pc := by
  intro H locs lsJ hR hl hL hO
  have hx := hO.pop.top
  have hy := hO.top
  have e := rg_irem hx hy h
  refine lv_irem C.1 rfl hd (fun q => by rw [show (0 : Int32) = Int32.ofInt 0 from rfl, rg_eq hy rg_0] at q; omega) ?_
  rw [e.1]
  exact k H locs lsJ hR hl hL (hO.pop.pop.push e.2)

theorem k_ishl (C : Cx G own p s m args) {x y : Int} (hd : decode c.code pc = .ok (.ishl, 1)) (k : KW p l e R s m args below meth c Q G n0 s0 σ ls (vI (iShl x y) :: st) (pc + 1)) : KW p l e R s m args below meth c Q G n0 s0 σ ls (vI y :: vI x :: st) pc := by
  intro H locs lsJ hR hl hL hO
  refine lv_ishl C.1 rfl hd ?_
  rw [← ofInt_toInt (Int32.ofInt x <<< (Int32.ofInt y &&& 31))]
  exact k H locs lsJ hR hl hL (hO.pop.pop.push (rg_of _))

theorem k_ishr (C : Cx G own p s m args) {x y : Int} (hd : decode c.code pc = .ok (.ishr, 1)) (k : KW p l e R s m args below meth c Q G n0 s0 σ ls (vI (iShr x y) :: st) (pc + 1)) : KW p l e R s m args below meth c Q G n0 s0 σ ls (vI y :: vI x :: st) pc := by
  intro H locs lsJ hR hl hL hO
  refine lv_ishr C.1 rfl hd ?_
  rw [← ofInt_toInt (Int32.ofInt x >>> (Int32.ofInt y &&& 31))]
  exact k H locs lsJ hR hl hL (hO.pop.pop.push (rg_of _))

theorem k_iand (C : Cx G own p s m args) {x y : Int} (hd : decode c.code pc = .ok (.iand, 1)) (k : KW p l e R s m args below meth c Q G n0 s0 σ ls (vI (iAnd x y) :: st) (pc + 1)) : KW p l e R s m args below meth c Q G n0 s0 σ ls (vI y :: vI x :: st) pc := by
  intro H locs lsJ hR hl hL hO
  refine lv_iand C.1 rfl hd ?_
  rw [← ofInt_toInt (Int32.ofInt x &&& Int32.ofInt y)]
  exact k H locs lsJ hR hl hL (hO.pop.pop.push (rg_of _))

theorem k_ior (C : Cx G own p s m args) {x y : Int} (hd : decode c.code pc = .ok (.ior, 1)) (k : KW p l e R s m args below meth c Q G n0 s0 σ ls (vI (iOr x y) :: st) (pc + 1)) : KW p l e R s m args below meth c Q G n0 s0 σ ls (vI y :: vI x :: st) pc := by
  intro H locs lsJ hR hl hL hO
  refine lv_ior C.1 rfl hd ?_
  rw [← ofInt_toInt (Int32.ofInt x ||| Int32.ofInt y)]
  exact k H locs lsJ hR hl hL (hO.pop.pop.push (rg_of _))

theorem k_ixor (C : Cx G own p s m args) {x y : Int} (hd : decode c.code pc = .ok (.ixor, 1)) (k : KW p l e R s m args below meth c Q G n0 s0 σ ls (vI (iXor x y) :: st) (pc + 1)) : KW p l e R s m args below meth c Q G n0 s0 σ ls (vI y :: vI x :: st) pc := by
  intro H locs lsJ hR hl hL hO
  refine lv_ixor C.1 rfl hd ?_
  rw [← ofInt_toInt (Int32.ofInt x ^^^ Int32.ofInt y)]
  exact k H locs lsJ hR hl hL (hO.pop.pop.push (rg_of _))

theorem k_iushr (C : Cx G own p s m args) {x y : Int} (hd : decode c.code pc = .ok (.iushr, 1)) (k : KW p l e R s m args below meth c Q G n0 s0 σ ls (vI (iUshr x y) :: st) (pc + 1)) : KW p l e R s m args below meth c Q G n0 s0 σ ls (vI y :: vI x :: st) pc := by
  intro H locs lsJ hR hl hL hO
  refine lv_iushr C.1 rfl hd (ofInt_toInt _).symm ?_
  exact k H locs lsJ hR hl hL (hO.pop.pop.push (rg_of _))

theorem k_ladd (C : Cx G own p s m args) {x y : BitVec 64} (hd : decode c.code pc = .ok (.ladd, 1)) (k : KW p l e R s m args below meth c Q G n0 s0 σ ls (vL (x + y) :: st) (pc + 1)) : KW p l e R s m args below meth c Q G n0 s0 σ ls (vL y :: vL x :: st) pc := by
  intro H locs lsJ hR hl hL hO
  refine lv_ladd C.1 rfl hd ?_
  rw [← Int64.ofBitVec_add]
  exact k H locs lsJ hR hl hL (hO.pop.pop.push (v := vL _) trivial)

theorem k_lsub (C : Cx G own p s m args) {x y : BitVec 64} (hd : decode c.code pc = .ok (.lsub, 1)) (k : KW p l e R s m args below meth c Q G n0 s0 σ ls (vL (x - y) :: st) (pc + 1)) : KW p l e R s m args below meth c Q G n0 s0 σ ls (vL y :: vL x :: st) pc := by
  intro H locs lsJ hR hl hL hO
  refine lv_lsub C.1 rfl hd ?_
  rw [← Int64.ofBitVec_sub]
  exact k H locs lsJ hR hl hL (hO.pop.pop.push (v := vL _) trivial)

theorem k_land (C : Cx G own p s m args) {x y : BitVec 64} (hd : decode c.code pc = .ok (.land, 1)) (k : KW p l e R s m args below meth c Q G n0 s0 σ ls (vL (x &&& y) :: st) (pc + 1)) : KW p l e R s m args below meth c Q G n0 s0 σ ls (vL y :: vL x :: st) pc := by
  intro H locs lsJ hR hl hL hO
  refine lv_land C.1 rfl hd ?_
  rw [← Int64.ofBitVec_and]
  exact k H locs lsJ hR hl hL (hO.pop.pop.push (v := vL _) trivial)

theorem k_lor (C : Cx G own p s m args) {x y : BitVec 64} (hd : decode c.code pc = .ok (.lor, 1)) (k : KW p l e R s m args below meth c Q G n0 s0 σ ls (vL (x ||| y) :: st) (pc + 1)) : KW p l e R s m args below meth c Q G n0 s0 σ ls (vL y :: vL x :: st) pc := by
  intro H locs lsJ hR hl hL hO
  refine lv_lor C.1 rfl hd ?_
  rw [← Int64.ofBitVec_or]
  exact k H locs lsJ hR hl hL (hO.pop.pop.push (v := vL _) trivial)

theorem k_lxor (C : Cx G own p s m args) {x y : BitVec 64} (hd : decode c.code pc = .ok (.lxor, 1)) (k : KW p l e R s m args below meth c Q G n0 s0 σ ls (vL (x ^^^ y) :: st) (pc + 1)) : KW p l e R s m args below meth c Q G n0 s0 σ ls (vL y :: vL x :: st) pc := by
  intro H locs lsJ hR hl hL hO
  refine lv_lxor C.1 rfl hd ?_
  rw [← Int64.ofBitVec_xor]
  exact k H locs lsJ hR hl hL (hO.pop.pop.push (v := vL _) trivial)

theorem k_lneg (C : Cx G own p s m args) {x : BitVec 64} (hd : decode c.code pc = .ok (.lneg, 1)) (k : KW p l e R s m args below meth c Q G n0 s0 σ ls (vL (-x) :: st) (pc + 1)) : KW p l e R s m args below meth c Q G n0 s0 σ ls (vL x :: st) pc := by
  intro H locs lsJ hR hl hL hO
  refine lv_lneg C.1 rfl hd ?_
  rw [← Int64.ofBitVec_neg]
  exact k H locs lsJ hR hl hL (hO.pop.push (v := vL _) trivial)

theorem k_lshl (C : Cx G own p s m args) {x : BitVec 64} {y : Int} (hd : decode c.code pc = .ok (.lshl, 1)) (k : KW p l e R s m args below meth c Q G n0 s0 σ ls (vL (lShl x y) :: st) (pc + 1)) : KW p l e R s m args below meth c Q G n0 s0 σ ls (vI y :: vL x :: st) pc := by
  intro H locs lsJ hR hl hL hO
  refine lv_lshl C.1 rfl hd (Int64.ofBitVec_toBitVec _).symm ?_
  exact k H locs lsJ hR hl hL (hO.pop.pop.push (v := vL _) trivial)

theorem k_lshr (C : Cx G own p s m args) {x : BitVec 64} {y : Int} (hd : decode c.code pc = .ok (.lshr, 1)) (k : KW p l e R s m args below meth c Q G n0 s0 σ ls (vL (lShr x y) :: st) (pc + 1)) : KW p l e R s m args below meth c Q G n0 s0 σ ls (vI y :: vL x :: st) pc := by
  intro H locs lsJ hR hl hL hO
  refine lv_lshr C.1 rfl hd (Int64.ofBitVec_toBitVec _).symm ?_
  exact k H locs lsJ hR hl hL (hO.pop.pop.push (v := vL _) trivial)

theorem k_lushr (C : Cx G own p s m args) {x : BitVec 64} {y : Int} (hd : decode c.code pc = .ok (.lushr, 1)) (k : KW p l e R s m args below meth c Q G n0 s0 σ ls (vL (lUshr x y) :: st) (pc + 1)) : KW p l e R s m args below meth c Q G n0 s0 σ ls (vI y :: vL x :: st) pc := by
  intro H locs lsJ hR hl hL hO
  refine lv_lushr C.1 rfl hd (Int64.ofBitVec_toBitVec _).symm ?_
  exact k H locs lsJ hR hl hL (hO.pop.pop.push (v := vL _) trivial)

theorem k_lcmp (C : Cx G own p s m args) {x y : BitVec 64} (hd : decode c.code pc = .ok (.lcmp, 1)) (k : KW p l e R s m args below meth c Q G n0 s0 σ ls (vI (lCmp x y) :: st) (pc + 1)) : KW p l e R s m args below meth c Q G n0 s0 σ ls (vL y :: vL x :: st) pc := by
  intro H locs lsJ hR hl hL hO
  refine W.lcmp C.1 rfl hd ?_
  rw [lcmp_of]
  exact k H locs lsJ hR hl hL (hO.pop.pop.push (lcmp_rg x y))

theorem k_i2l (C : Cx G own p s m args) {x : Int} (hd : decode c.code pc = .ok (.i2l, 1)) (k : KW p l e R s m args below meth c Q G n0 s0 σ ls (vL (BitVec.ofInt 64 x) :: st) (pc + 1)) : KW p l e R s m args below meth c Q G n0 s0 σ ls (vI x :: st) pc := by
  intro H locs lsJ hR hl hL hO
  exact lv_i2l C.1 rfl hd (i2l_of hO.top) (k H locs lsJ hR hl hL (hO.pop.push (v := vL _) trivial))

theorem k_l2i (C : Cx G own p s m args) {x : BitVec 64} (hd : decode c.code pc = .ok (.l2i, 1)) (k : KW p l e R s m args below meth c Q G n0 s0 σ ls (vI (l2i x) :: st) (pc + 1)) : KW p l e R s m args below meth c Q G n0 s0 σ ls (vL x :: st) pc := by
  intro H locs lsJ hR hl hL hO
  exact lv_l2i C.1 rfl hd (ofInt_toInt _).symm (k H locs lsJ hR hl hL (hO.pop.push (v := vI _) (rg_of _)))

theorem k_i2b (C : Cx G own p s m args) {x : Int} (hd : decode c.code pc = .ok (.i2b, 1)) (k : KW p l e R s m args below meth c Q G n0 s0 σ ls (vI (i2b x) :: st) (pc + 1)) : KW p l e R s m args below meth c Q G n0 s0 σ ls (vI x :: st) pc := by
  intro H locs lsJ hR hl hL hO
  exact lv_i2b C.1 rfl hd (ofInt_toInt _).symm (k H locs lsJ hR hl hL (hO.pop.push (v := vI _) (rg_of _)))

theorem k_iinc (C : Cx G own p s m args) {i : Nat} {x z : Int} (hd : decode c.code pc = .ok (.iinc i z, 3)) (h : ls[i]? = some (some (vI x))) (hr : Rg (x + z)) (k : KW p l e R s m args below meth c Q G n0 s0 σ (lSet1 ls i (vI (x + z))) st (pc + 3)) : KW p l e R s m args below meth c Q G n0 s0 σ ls st pc := by
  intro H locs lsJ hR hl hL hO
  obtain ⟨j, hj⟩ := List.getElem?_of_mem (enL_mem.mpr ⟨_, h, rfl⟩)
  have hi : i < ls.length := by
    rcases Nat.lt_or_ge i ls.length with q | q
    · exact q
    · rw [List.getElem?_eq_none q] at h; cases h
  refine lv_iinc C.1 rfl hd hL.has hj (Int32.ofInt_add x z).symm (by rw [← hL.2.2.1]; exact hi) rfl fun lsJ' h' => ?_
  exact k H locs lsJ' hR hl (hL.set1 (w := vI (x + z)) h') (OKs.set1 (hO.push hr))

theorem k_dup (C : Cx G own p s m args) {v : Vl} (hd : decode c.code pc = .ok (.dup, 1)) (h : cat v = 1) (k : KW p l e R s m args below meth c Q G n0 s0 σ ls (v :: v :: st) (pc + 1)) : KW p l e R s m args below meth c Q G n0 s0 σ ls (v :: st) pc := by
  intro H locs lsJ hR hl hL hO
  exact lv_dup C.1 rfl hd ((cv_cat v).trans h) (k H locs lsJ hR hl hL (hO.push hO.top))

theorem k_dup2 (C : Cx G own p s m args) {v w : Vl} (hd : decode c.code pc = .ok (.dup2, 1)) (h : cat v = 1) (h2 : cat w = 1) (k : KW p l e R s m args below meth c Q G n0 s0 σ ls (v :: w :: v :: w :: st) (pc + 1)) : KW p l e R s m args below meth c Q G n0 s0 σ ls (v :: w :: st) pc := by
  intro H locs lsJ hR hl hL hO
  exact lv_dup2_11 C.1 rfl hd ((cv_cat v).trans h) ((cv_cat w).trans h2) (k H locs lsJ hR hl hL ((hO.push hO.pop.top).push hO.top))

theorem k_pop (C : Cx G own p s m args) {v : Vl} (hd : decode c.code pc = .ok (.pop, 1)) (h : cat v = 1) (k : KW p l e R s m args below meth c Q G n0 s0 σ ls st (pc + 1)) : KW p l e R s m args below meth c Q G n0 s0 σ ls (v :: st) pc := by
  intro H locs lsJ hR hl hL hO
  exact lv_pop C.1 rfl hd ((cv_cat v).trans h) (k H locs lsJ hR hl hL hO.pop)

theorem k_goto (C : Cx G own p s m args) {o : Int} {t : Nat} (hd : decode c.code pc = .ok (.goto o, 3)) (h : (pc : Int) + o = t) (k : KW p l e R s m args below meth c Q G n0 s0 σ ls st t) : KW p l e R s m args below meth c Q G n0 s0 σ ls st pc := by
  intro H locs lsJ hR hl hL hO
  exact lv_goto C.1 rfl hd h (k H locs lsJ hR hl hL hO)

theorem k_icmp_eq (C : Cx G own p s m args) {x y o : Int} {t : Nat} (hd : decode c.code pc = .ok (.if_icmp .eq o, 3)) (h : (pc : Int) + o = t) (kt : x = y → KW p l e R s m args below meth c Q G n0 s0 σ ls st t) (kf : ¬ (x = y) → KW p l e R s m args below meth c Q G n0 s0 σ ls st (pc + 3)) : KW p l e R s m args below meth c Q G n0 s0 σ ls (vI y :: vI x :: st) pc := by
  intro H locs lsJ hR hl hL hO
  have hx := hO.pop.top
  have hy := hO.top
  have e := rg_eq hx hy
  exact lv_icmp_eq C.1 rfl hd h (fun q => kt (e.mp q) H locs lsJ hR hl hL hO.pop.pop) (fun q => kf (fun z => q (e.mpr z)) H locs lsJ hR hl hL hO.pop.pop)

theorem k_if_eq (C : Cx G own p s m args) {x o : Int} {t : Nat} (hd : decode c.code pc = .ok (.ifCond .eq o, 3)) (h : (pc : Int) + o = t) (kt : x = 0 → KW p l e R s m args below meth c Q G n0 s0 σ ls st t) (kf : ¬ (x = 0) → KW p l e R s m args below meth c Q G n0 s0 σ ls st (pc + 3)) : KW p l e R s m args below meth c Q G n0 s0 σ ls (vI x :: st) pc := by
  intro H locs lsJ hR hl hL hO
  have hx := hO.top
  have e := rg_eq hx rg_0
  exact lv_if_eq C.1 rfl hd h (fun q => kt (e.mp q) H locs lsJ hR hl hL hO.pop) (fun q => kf (fun z => q (e.mpr z)) H locs lsJ hR hl hL hO.pop)

theorem k_icmp_ne (C : Cx G own p s m args) {x y o : Int} {t : Nat} (hd : decode c.code pc = .ok (.if_icmp .ne o, 3)) (h : (pc : Int) + o = t) (kt : ¬ x = y → KW p l e R s m args below meth c Q G n0 s0 σ ls st t) (kf : ¬ (¬ x = y) → KW p l e R s m args below meth c Q G n0 s0 σ ls st (pc + 3)) : KW p l e R s m args below meth c Q G n0 s0 σ ls (vI y :: vI x :: st) pc := by
  intro H locs lsJ hR hl hL hO
  have hx := hO.pop.top
  have hy := hO.top
  have e := not_congr (rg_eq hx hy)
  exact lv_icmp_ne C.1 rfl hd h (fun q => kt (e.mp q) H locs lsJ hR hl hL hO.pop.pop) (fun q => kf (fun z => (e.mpr z) q) H locs lsJ hR hl hL hO.pop.pop)

theorem k_if_ne (C : Cx G own p s m args) {x o : Int} {t : Nat} (hd : decode c.code pc = .ok (.ifCond .ne o, 3)) (h : (pc : Int) + o = t) (kt : ¬ x = 0 → KW p l e R s m args below meth c Q G n0 s0 σ ls st t) (kf : ¬ (¬ x = 0) → KW p l e R s m args below meth c Q G n0 s0 σ ls st (pc + 3)) : KW p l e R s m args below meth c Q G n0 s0 σ ls (vI x :: st) pc := by
  intro H locs lsJ hR hl hL hO
  have hx := hO.top
  have e := not_congr (rg_eq hx rg_0)
  exact lv_if_ne C.1 rfl hd h (fun q => kt (e.mp q) H locs lsJ hR hl hL hO.pop) (fun q => kf (fun z => (e.mpr z) q) H locs lsJ hR hl hL hO.pop)

theorem k_icmp_lt (C : Cx G own p s m args) {x y o : Int} {t : Nat} (hd : decode c.code pc = .ok (.if_icmp .lt o, 3)) (h : (pc : Int) + o = t) (kt : x < y → KW p l e R s m args below meth c Q G n0 s0 σ ls st t) (kf : ¬ (x < y) → KW p l e R s m args below meth c Q G n0 s0 σ ls st (pc + 3)) : KW p l e R s m args below meth c Q G n0 s0 σ ls (vI y :: vI x :: st) pc := by
  intro H locs lsJ hR hl hL hO
  have hx := hO.pop.top
  have hy := hO.top
  have e := rg_lt hx hy
  exact lv_icmp_lt C.1 rfl hd h (fun q => kt (e.mp q) H locs lsJ hR hl hL hO.pop.pop) (fun q => kf (fun z => q (e.mpr z)) H locs lsJ hR hl hL hO.pop.pop)

theorem k_if_lt (C : Cx G own p s m args) {x o : Int} {t : Nat} (hd : decode c.code pc = .ok (.ifCond .lt o, 3)) (h : (pc : Int) + o = t) (kt : x < 0 → KW p l e R s m args below meth c Q G n0 s0 σ ls st t) (kf : ¬ (x < 0) → KW p l e R s m args below meth c Q G n0 s0 σ ls st (pc + 3)) : KW p l e R s m args below meth c Q G n0 s0 σ ls (vI x :: st) pc := by
  intro H locs lsJ hR hl hL hO
  have hx := hO.top
  have e := rg_lt hx rg_0
  exact lv_if_lt C.1 rfl hd h (fun q => kt (e.mp q) H locs lsJ hR hl hL hO.pop) (fun q => kf (fun z => q (e.mpr z)) H locs lsJ hR hl hL hO.pop)

theorem k_icmp_ge (C : Cx G own p s m args) {x y o : Int} {t : Nat} (hd : decode c.code pc = .ok (.if_icmp .ge o, 3)) (h : (pc : Int) + o = t) (kt : y ≤ x → KW p l e R s m args below meth c Q G n0 s0 σ ls st t) (kf : ¬ (y ≤ x) → KW p l e R s m args below meth c Q G n0 s0 σ ls st (pc + 3)) : KW p l e R s m args below meth c Q G n0 s0 σ ls (vI y :: vI x :: st) pc := by
  intro H locs lsJ hR hl hL hO
  have hx := hO.pop.top
  have hy := hO.top
  have e := rg_le hy hx
  exact lv_icmp_ge C.1 rfl hd h (fun q => kt (e.mp q) H locs lsJ hR hl hL hO.pop.pop) (fun q => kf (fun z => q (e.mpr z)) H locs lsJ hR hl hL hO.pop.pop)

theorem k_if_ge (C : Cx G own p s m args) {x o : Int} {t : Nat} (hd : decode c.code pc = .ok (.ifCond .ge o, 3)) (h : (pc : Int) + o = t) (kt : 0 ≤ x → KW p l e R s m args below meth c Q G n0 s0 σ ls st t) (kf : ¬ (0 ≤ x) → KW p l e R s m args below meth c Q G n0 s0 σ ls st (pc + 3)) : KW p l e R s m args below meth c Q G n0 s0 σ ls (vI x :: st) pc := by
  intro H locs lsJ hR hl hL hO
  have hx := hO.top
  have e := rg_le rg_0 hx
  exact lv_if_ge C.1 rfl hd h (fun q => kt (e.mp q) H locs lsJ hR hl hL hO.pop) (fun q => kf (fun z => q (e.mpr z)) H locs lsJ hR hl hL hO.pop)

theorem k_icmp_gt (C : Cx G own p s m args) {x y o : Int} {t : Nat} (hd : decode c.code pc = .ok (.if_icmp .gt o, 3)) (h : (pc : Int) + o = t) (kt : y < x → KW p l e R s m args below meth c Q G n0 s0 σ ls st t) (kf : ¬ (y < x) → KW p l e R s m args below meth c Q G n0 s0 σ ls st (pc + 3)) : KW p l e R s m args below meth c Q G n0 s0 σ ls (vI y :: vI x :: st) pc := by
  intro H locs lsJ hR hl hL hO
  have hx := hO.pop.top
  have hy := hO.top
  have e := rg_lt hy hx
  exact lv_icmp_gt C.1 rfl hd h (fun q => kt (e.mp q) H locs lsJ hR hl hL hO.pop.pop) (fun q => kf (fun z => q (e.mpr z)) H locs lsJ hR hl hL hO.pop.pop)

theorem k_if_gt (C : Cx G own p s m args) {x o : Int} {t : Nat} (hd : decode c.code pc = .ok (.ifCond .gt o, 3)) (h : (pc : Int) + o = t) (kt : 0 < x → KW p l e R s m args below meth c Q G n0 s0 σ ls st t) (kf : ¬ (0 < x) → KW p l e R s m args below meth c Q G n0 s0 σ ls st (pc + 3)) : KW p l e R s m args below meth c Q G n0 s0 σ ls (vI x :: st) pc := by
  intro H locs lsJ hR hl hL hO
  have hx := hO.top
  have e := rg_lt rg_0 hx
  exact lv_if_gt C.1 rfl hd h (fun q => kt (e.mp q) H locs lsJ hR hl hL hO.pop) (fun q => kf (fun z => q (e.mpr z)) H locs lsJ hR hl hL hO.pop)

theorem k_icmp_le (C : Cx G own p s m args) {x y o : Int} {t : Nat} (hd : decode c.code pc = .ok (.if_icmp .le o, 3)) (h : (pc : Int) + o = t) (kt : x ≤ y → KW p l e R s m args below meth c Q G n0 s0 σ ls st t) (kf : ¬ (x ≤ y) → KW p l e R s m args below meth c Q G n0 s0 σ ls st (pc + 3)) : KW p l e R s m args below meth c Q G n0 s0 σ ls (vI y :: vI x :: st) pc := by
  intro H locs lsJ hR hl hL hO
  have hx := hO.pop.top
  have hy := hO.top
  have e := rg_le hx hy
  exact lv_icmp_le C.1 rfl hd h (fun q => kt (e.mp q) H locs lsJ hR hl hL hO.pop.pop) (fun q => kf (fun z => q (e.mpr z)) H locs lsJ hR hl hL hO.pop.pop)

theorem k_if_le (C : Cx G own p s m args) {x o : Int} {t : Nat} (hd : decode c.code pc = .ok (.ifCond .le o, 3)) (h : (pc : Int) + o = t) (kt : x ≤ 0 → KW p l e R s m args below meth c Q G n0 s0 σ ls st t) (kf : ¬ (x ≤ 0) → KW p l e R s m args below meth c Q G n0 s0 σ ls st (pc + 3)) : KW p l e R s m args below meth c Q G n0 s0 σ ls (vI x :: st) pc := by
  intro H locs lsJ hR hl hL hO
  have hx := hO.top
  have e := rg_le hx rg_0
  exact lv_if_le C.1 rfl hd h (fun q => kt (e.mp q) H locs lsJ hR hl hL hO.pop) (fun q => kf (fun z => q (e.mpr z)) H locs lsJ hR hl hL hO.pop)

theorem k_ifnull (C : Cx G own p s m args) {o : Int} {t u : Nat} {q : Option Nat} (hd : decode c.code pc = .ok (.ifnull o, 3)) (h : (pc : Int) + o = t) (kt : q = none → KW p l e R s m args below meth c Q G n0 s0 σ ls st t) (kf : ∀ a, q = some a → KW p l e R s m args below meth c Q G n0 s0 σ ls st (pc + 3)) : KW p l e R s m args below meth c Q G n0 s0 σ ls (vR u q :: st) pc := by
  intro H locs lsJ hR hl hL hO
  cases q with
  | none => exact lv_ifnullN C.1 rfl hd h (kt rfl H locs lsJ hR hl hL hO.pop)
  | some a => exact lv_ifnull C.1 rfl hd (kf a rfl H locs lsJ hR hl hL hO.pop)
theorem k_ifnonnull (C : Cx G own p s m args) {o : Int} {t u : Nat} {q : Option Nat} (hd : decode c.code pc = .ok (.ifnonnull o, 3)) (h : (pc : Int) + o = t) (kt : ∀ a, q = some a → KW p l e R s m args below meth c Q G n0 s0 σ ls st t) (kf : q = none → KW p l e R s m args below meth c Q G n0 s0 σ ls st (pc + 3)) : KW p l e R s m args below meth c Q G n0 s0 σ ls (vR u q :: st) pc := by
  intro H locs lsJ hR hl hL hO
  cases q with
  | none => exact lv_ifnonnullN C.1 rfl hd (kf rfl H locs lsJ hR hl hL hO.pop)
  | some a => exact lv_ifnonnull C.1 rfl hd h (kt a rfl H locs lsJ hR hl hL hO.pop)
theorem k_swIn (C : Cx G own p s m args) {dflt lo hi o x : Int} {offs : Array Int} {len t : Nat} (hd : decode c.code pc = .ok (.tableswitch dflt lo hi offs, len)) (h1 : lo ≤ x) (h2 : x ≤ hi) (ho : offs[(x - lo).toNat]? = some o) (h : (pc : Int) + o = t) (k : KW p l e R s m args below meth c Q G n0 s0 σ ls st t) : KW p l e R s m args below meth c Q G n0 s0 σ ls (vI x :: st) pc := by
  intro H locs lsJ hR hl hL hO
  have e := rg_toInt hO.top
  exact lv_tableIn C.1 rfl hd (by rw [e]; omega) (by rw [e]; omega) (by rw [e]; exact ho) h (k H locs lsJ hR hl hL hO.pop)
theorem k_swOut (C : Cx G own p s m args) {dflt lo hi x : Int} {offs : Array Int} {len t : Nat} (hd : decode c.code pc = .ok (.tableswitch dflt lo hi offs, len)) (h1 : x < lo ∨ hi < x) (h : (pc : Int) + dflt = t) (k : KW p l e R s m args below meth c Q G n0 s0 σ ls st t) : KW p l e R s m args below meth c Q G n0 s0 σ ls (vI x :: st) pc := by
  intro H locs lsJ hR hl hL hO
  have e := rg_toInt hO.top
  exact lv_tableOut C.1 rfl hd (by rw [e]; exact h1) h (k H locs lsJ hR hl hL hO.pop)
end KR
