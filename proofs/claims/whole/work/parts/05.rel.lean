/-! THE LITTLE MACHINE AND THE JVM: what a state of the one says of the other's heap -/
def cv (v : Vl) : Value := match v with
  | .inl x => .int (Int32.ofInt x)
  | .inr (.inl x) => .long (Int64.ofBitVec x)
  | .inr (.inr (_, r)) => va_rf r
theorem cv_cat (v : Vl) : (cv v).category = cat v := by
  rcases v with x | x | ⟨t, _ | x⟩ <;> rfl
theorem cv_sum (st : List Vl) : ((st.map cv).map fun v => v.category).sum = stW st := by
  unfold stW
  rw [List.map_map]
  congr 1
  exact List.map_congr_left fun v _ => cv_cat v
def aTy : Nat → FieldType := fun t => if t = 13 then .byte else if t = 14 then .int else if t = 15 then .long else if t = 16 then .boolean else if t = 17 then .object RX7 else if t = 18 then .object RX10 else .array .long
def fV (σ : St) (c a k : Nat) : Value := match fKd c k with
  | 0 => .int (Int32.ofInt (gI σ a k))
  | 1 => .int (Int32.ofInt (gI σ a k))
  | 2 => .long (Int64.ofBitVec (gL σ a k))
  | _ => va_rf (gR σ a k)
def aV (σ : St) (t a k : Nat) : Value := if t = 15 then .long (Int64.ofBitVec (gL σ a k)) else if t ≤ 16 then .int (Int32.ofInt (gI σ a k)) else va_rf (gR σ a k)
def rTag (t k : Nat) : Option Nat := if t < 13 then (if 3 ≤ fKd t k then some (fKd t k - 3) else none) else if t = 17 then some 7 else if t = 18 then some 10 else if t = 19 then some 15 else none
/-- the law's first new address, its heap, the classes, their slots, the classes of arrays, the rows that nobody writes, the two static rows -/
abbrev Gc : Type := Nat × Heap × (Nat → ClassId) × (Nat → Nat → Nat) × (Nat → ClassId) × (Nat → Prop) × (Nat → Nat)
def gB (G : Gc) : Nat := G.1
def gH (G : Gc) : Heap := G.2.1
def gC (G : Gc) : Nat → ClassId := G.2.2.1
def gD (G : Gc) : Nat → Nat → Nat := G.2.2.2.1
def gA (G : Gc) : Nat → ClassId := G.2.2.2.2.1
def gZ (G : Gc) : Nat → Prop := G.2.2.2.2.2.1
def gS (G : Gc) : Nat → Nat := G.2.2.2.2.2.2
def Rel (G : Gc) (σ : St) (H : Heap) : Prop :=
  (H.size = nx σ ∧ gB G ≤ nx σ ∧ 0 < gB G) ∧
  (∀ q, q < gB G → H[q]? = (gH G)[q]?) ∧
  (∀ a, tg σ a < 13 → gB G ≤ a ∧ t_OB a (gC G (tg σ a)) (nFl (tg σ a)) (gD G (tg σ a)) H (fV σ (tg σ a) a)) ∧
  (∀ a, 13 ≤ tg σ a → tg σ a < 20 → gB G ≤ a ∧ ln σ a < 2147483648 ∧ H[a]? = some (arrV (gA G (tg σ a)) (ln σ a) (aV σ (tg σ a) a))) ∧
  (∀ a, tg σ a = 20 → a < gB G ∧ gZ G a ∧ ln σ a < 2147483648 ∧ ∃ cell : Cell, (gH G)[a]? = some cell ∧ cell.vm ≠ .unknown ∧ (ln σ a ≤ cell.slots.size ∧ cell.slots.size.toInt32 = Int32.ofNat (ln σ a)) ∧ ∀ j, j < ln σ a → cell.slots[j]? = some (.int (Int32.ofInt (gI σ a j)))) ∧
  (∀ a k, Rg (gI σ a k)) ∧
  (∀ a k t, rTag (tg σ a) k = some t → ∀ b, gR σ a k = some b → tg σ b = t) ∧
  (∀ i, i < 2 → ∀ q, gR σ 0 (1000 + i) = some q → q = gS G i ∧ tg σ q = 20)
def KN (G : Gc) (U : State) : Prop :=
  (∀ (c : Nat) (q : vw_C), vwCl[c]? = some q → u_Kn U q.1 q.2.1 q.2.2 (gC G c) (gD G c)) ∧
  (∀ t, 13 ≤ t → t < 20 → ArrOfT U (gA G t) (aTy t) ∧ va_RA U (gA G t) (aTy t)) ∧
  (∃ kA : Class, U.vm.classes[gA G 19]? = some kA ∧ kA.kind = .array (gA G 15) (.array .long)) ∧
  (va_AO RX7 U ∧ va_AO RX10 U ∧ (Cond.arrayOver (.array .long)).before #[] U = true) ∧
  (∀ w ∈ tMN_w, va_Nw w U) ∧ va_Nw (.fieldLinkNest (cnm 4) 121 "WishWays" "GREATEST" "[I" "WishWays") U ∧
  (va_Z "WishWays" "SHIFT" "[I" (.ref (gS G 0)) (fun q => gB G ≤ q) U (gH G) ∧ va_Z "WishWays" "GREATEST" "[I" (.ref (gS G 1)) (fun q => gB G ≤ q) U (gH G)) ∧
  (∀ (a : Nat) (cell : Cell), gZ G a → (gH G)[a]? = some cell → U.isArrayOf cell .int)
def OKv (σ : St) (v : Vl) : Prop := match v with
  | .inl x => Rg x
  | .inr (.inl _) => True
  | .inr (.inr (_, none)) => True
  | .inr (.inr (t, some b)) => t ≤ 20 ∧ tg σ b = t
def OKs (σ : St) (ls : Ls) (st : List Vl) : Prop := (∀ v ∈ st, OKv σ v) ∧ ∀ v, some v ∈ ls → OKv σ v
def LR (ls : Ls) (lsJ : Array Slot) (n : Nat) : Prop := lsJ.size = n ∧ lv_wf lsJ ∧ ls.length = n ∧ ∀ (i : Nat) (v : Vl), ls[i]? = some (some v) → lsJ[i]? = some (.val (cv v))
/-- the locals as the kit lists them -/
def enL (ls : Ls) : List (Nat × Value) := (List.range ls.length).filterMap fun i => match ls[i]? with
  | some (some v) => some (i, cv v)
  | _ => none
theorem enL_mem {ls : Ls} {i : Nat} {w : Value} : (i, w) ∈ enL ls ↔ ∃ v, ls[i]? = some (some v) ∧ w = cv v := by
  unfold enL
  rw [List.mem_filterMap]
  constructor
  · rintro ⟨j, hj, h⟩
    split at h
    · rename_i v hv
      cases h
      exact ⟨v, hv, rfl⟩
    · cases h
  · rintro ⟨v, hv, rfl⟩
    refine ⟨i, List.mem_range.mpr ?_, ?_⟩
    · rcases Nat.lt_or_ge i ls.length with q | q
      · exact q
      · rw [List.getElem?_eq_none q] at hv
        cases hv
    · rw [hv]
theorem LR.has {ls : Ls} {lsJ : Array Slot} {n : Nat} (h : LR ls lsJ n) : lv_has lsJ n (enL ls) := by
  refine ⟨h.1, h.2.1, fun q hq => ?_⟩
  obtain ⟨v, hv, e⟩ := enL_mem.mp (show (q.1, q.2) ∈ enL ls from hq)
  rw [e]
  exact h.2.2.2 _ _ hv
theorem LR.of {ls : Ls} {lsJ : Array Slot} {n : Nat} {l : List (Nat × Value)} (h : lv_has lsJ n l) (hl : ls.length = n) (hm : ∀ i v, ls[i]? = some (some v) → (i, cv v) ∈ l) : LR ls lsJ n :=
  ⟨h.1, h.2.1, hl, fun i v hv => h.2.2 (i, cv v) (hm i v hv)⟩
theorem lInv_len (ls : Ls) (i : Nat) : (lInv ls i).length = ls.length := by
  unfold lInv
  cases i with
  | zero => rfl
  | succ j => dsimp only; split <;> simp
theorem lInv_get {ls : Ls} {i j : Nat} {v : Vl} (h : (lInv ls i)[j]? = some (some v)) : ls[j]? = some (some v) ∧ ¬ (j + 1 = i ∧ cat v = 2) := by
  unfold lInv at h
  cases i with
  | zero => exact ⟨h, fun q => by omega⟩
  | succ k =>
    dsimp only at h
    split at h
    · rename_i x hx
      by_cases e : j = k
      · subst e
        rw [List.getElem?_set] at h
        simp at h
      · rw [List.getElem?_set_ne (fun q => e q.symm)] at h
        exact ⟨h, fun q => e (by omega)⟩
    · rename_i hx
      refine ⟨h, fun q => ?_⟩
      have e : j = k := by omega
      subst e
      rcases v with x | x | x
      · simp [cat] at q
      · exact hx x h
      · simp [cat] at q
theorem lSet1_get {ls : Ls} {i j : Nat} {w v : Vl} (h : (lSet1 ls i w)[j]? = some (some v)) : (j = i ∧ v = w) ∨ (j ≠ i ∧ ls[j]? = some (some v) ∧ ¬ (j + 1 = i ∧ cat v = 2)) := by
  unfold lSet1 at h
  by_cases e : j = i
  · subst e
    rw [List.getElem?_set] at h
    simp at h
    exact Or.inl ⟨rfl, h.2.symm⟩
  · rw [List.getElem?_set_ne (fun q => e q.symm)] at h
    exact Or.inr ⟨e, lInv_get h⟩
theorem lSet2_get {ls : Ls} {i j : Nat} {w v : Vl} (h : (lSet2 ls i w)[j]? = some (some v)) : (j = i ∧ v = w) ∨ (j ≠ i ∧ j ≠ i + 1 ∧ ls[j]? = some (some v) ∧ ¬ (j + 1 = i ∧ cat v = 2)) := by
  unfold lSet2 at h
  by_cases e : j = i + 1
  · subst e
    rw [List.getElem?_set] at h
    simp at h
  · rw [List.getElem?_set_ne (fun q => e q.symm)] at h
    by_cases e2 : j = i
    · subst e2
      rw [List.getElem?_set] at h
      simp at h
      exact Or.inl ⟨rfl, h.2.symm⟩
    · rw [List.getElem?_set_ne (fun q => e2 q.symm)] at h
      exact Or.inr ⟨e2, e, lInv_get h⟩
theorem lSet1_len (ls : Ls) (i : Nat) (w : Vl) : (lSet1 ls i w).length = ls.length := by simp [lSet1, lInv_len]
theorem lSet2_len (ls : Ls) (i : Nat) (w : Vl) : (lSet2 ls i w).length = ls.length := by simp [lSet2, lInv_len]
theorem LR.set1 {ls : Ls} {lsJ lsJ' : Array Slot} {n i : Nat} {w : Vl} (h : LR ls lsJ n) (h' : lv_has lsJ' n ((i, cv w) :: (enL ls).filter (fun q => !(q.1 == i) && !(q.1 + 1 == i && q.2.category == 2)))) : LR (lSet1 ls i w) lsJ' n := by
  refine LR.of h' (by rw [lSet1_len]; exact h.2.2.1) fun j v hv => ?_
  rcases lSet1_get hv with ⟨rfl, rfl⟩ | ⟨e, hv, hc⟩
  · exact List.mem_cons_self
  · refine List.mem_cons_of_mem _ (List.mem_filter.mpr ⟨enL_mem.mpr ⟨v, hv, rfl⟩, ?_⟩)
    rw [show (cv v).category = cat v from cv_cat v]
    by_cases e1 : j + 1 = i
    · have : ¬ cat v = 2 := fun q => hc ⟨e1, q⟩
      simp [e, this]
    · simp [e, e1]
theorem LR.set2 {ls : Ls} {lsJ lsJ' : Array Slot} {n i : Nat} {w : Vl} (h : LR ls lsJ n) (h' : lv_has lsJ' n ((i, cv w) :: (enL ls).filter (fun q => !(q.1 == i) && (!(q.1 == i + 1) && !(q.1 + 1 == i && q.2.category == 2))))) : LR (lSet2 ls i w) lsJ' n := by
  refine LR.of h' (by rw [lSet2_len]; exact h.2.2.1) fun j v hv => ?_
  rcases lSet2_get hv with ⟨rfl, rfl⟩ | ⟨e, e2, hv, hc⟩
  · exact List.mem_cons_self
  · refine List.mem_cons_of_mem _ (List.mem_filter.mpr ⟨enL_mem.mpr ⟨v, hv, rfl⟩, ?_⟩)
    rw [show (cv v).category = cat v from cv_cat v]
    by_cases e1 : j + 1 = i
    · have : ¬ cat v = 2 := fun q => hc ⟨e1, q⟩
      simp [e, e2, this]
    · simp [e, e1, e2]
theorem OKs.set1 {σ : St} {ls : Ls} {st : List Vl} {i : Nat} {w : Vl} (h : OKs σ ls (w :: st)) : OKs σ (lSet1 ls i w) st := by
  refine ⟨fun v hv => h.1 v (List.mem_cons_of_mem _ hv), fun v hv => ?_⟩
  obtain ⟨j, hj⟩ := List.getElem?_of_mem hv
  rcases lSet1_get hj with ⟨-, rfl⟩ | ⟨-, hv, -⟩
  · exact h.1 _ List.mem_cons_self
  · exact h.2 v (List.mem_of_getElem? hv)
theorem OKs.set2 {σ : St} {ls : Ls} {st : List Vl} {i : Nat} {w : Vl} (h : OKs σ ls (w :: st)) : OKs σ (lSet2 ls i w) st := by
  refine ⟨fun v hv => h.1 v (List.mem_cons_of_mem _ hv), fun v hv => ?_⟩
  obtain ⟨j, hj⟩ := List.getElem?_of_mem hv
  rcases lSet2_get hj with ⟨-, rfl⟩ | ⟨-, -, hv, -⟩
  · exact h.1 _ List.mem_cons_self
  · exact h.2 v (List.mem_of_getElem? hv)
theorem OKs.push {σ : St} {ls : Ls} {st : List Vl} {v : Vl} (h : OKs σ ls st) (hv : OKv σ v) : OKs σ ls (v :: st) := ⟨fun w hw => by
  rcases List.mem_cons.mp hw with rfl | hw
  · exact hv
  · exact h.1 w hw, h.2⟩
theorem OKs.pop {σ : St} {ls : Ls} {st : List Vl} {v : Vl} (h : OKs σ ls (v :: st)) : OKs σ ls st := ⟨fun w hw => h.1 w (List.mem_cons_of_mem _ hw), h.2⟩
theorem OKs.top {σ : St} {ls : Ls} {st : List Vl} {v : Vl} (h : OKs σ ls (v :: st)) : OKv σ v := h.1 v List.mem_cons_self
theorem OKs.loc {σ : St} {ls : Ls} {st : List Vl} {i : Nat} {v : Vl} (h : OKs σ ls st) (hv : ls[i]? = some (some v)) : OKv σ v := h.2 v (List.mem_of_getElem? hv)
theorem OKv.mono {σ σ' : St} {v : Vl} (h : OKv σ v) (ht : ∀ b, tg σ b ≤ 20 → tg σ' b = tg σ b) : OKv σ' v := by
  rcases v with x | x | ⟨t, _ | b⟩
  · exact h
  · trivial
  · trivial
  · refine ⟨h.1, ?_⟩
    rw [ht b (by rw [h.2]; exact h.1)]
    exact h.2
theorem OKs.mono {σ σ' : St} {ls : Ls} {st : List Vl} (h : OKs σ ls st) (ht : ∀ b, tg σ b ≤ 20 → tg σ' b = tg σ b) : OKs σ' ls st := ⟨fun v hv => (h.1 v hv).mono ht, fun v hv => (h.2 v hv).mono ht⟩
/-! numbers -/
theorem rg_toInt {x : Int} (h : Rg x) : (Int32.ofInt x).toInt = x := by
  rw [Int32.toInt_ofInt]
  obtain ⟨h1, h2⟩ := h
  simp only [Int32.size] 
  rw [Int.bmod_eq_of_le_mul_two] <;> omega
theorem rg_of (x : Int32) : Rg x.toInt := ⟨Int32.le_toInt x, by have := Int32.toInt_lt x; omega⟩
theorem ofInt_toInt (x : Int32) : Int32.ofInt x.toInt = x := Int32.ofInt_toInt x
theorem rg_eq {x y : Int} (hx : Rg x) (hy : Rg y) : Int32.ofInt x = Int32.ofInt y ↔ x = y := by
  rw [← Int32.toInt_inj, rg_toInt hx, rg_toInt hy]
theorem rg_le {x y : Int} (hx : Rg x) (hy : Rg y) : Int32.ofInt x ≤ Int32.ofInt y ↔ x ≤ y := by
  rw [Int32.le_iff_toInt_le, rg_toInt hx, rg_toInt hy]
theorem rg_lt {x y : Int} (hx : Rg x) (hy : Rg y) : Int32.ofInt x < Int32.ofInt y ↔ x < y := by
  rw [Int32.lt_iff_toInt_lt, rg_toInt hx, rg_toInt hy]
theorem rg_0 : Rg 0 := ⟨by decide, by decide⟩
theorem rg_clamp {x : Int} (hx : Rg x) : (Int32.ofInt x).toNatClampNeg = x.toNat := by
  rw [Int32.toNatClampNeg, rg_toInt hx]
theorem rg_inb {x : Int} {n : Nat} (hx : Rg x) (h : 0 ≤ x ∧ x < (n : Int)) : ¬ (Int32.ofInt x < 0 ∨ n ≤ (Int32.ofInt x).toNatClampNeg) := by
  rw [rg_clamp hx, show (0 : Int32) = Int32.ofInt 0 from rfl, rg_lt hx rg_0]
  omega
