/-! the start: what the tables and the statement give -/
theorem st_ao {U : State} {A : Array Value} {t : FieldType} (h : (Cond.arrayOver (.array t)).before A U = true) : ∃ comp c k, U.vm.findClass (FieldType.array t).toString = some comp ∧ U.vm.classes[c]? = some k ∧ k.kind = .array comp (.array t) ∧ U.vm.findClass ("[" ++ (FieldType.array t).toString) = some c := by
  simp only [Cond.before, Cond.holds, Cond.value, beq_iff_eq] at h
  cases hc : U.vm.findClass (FieldType.array t).toString with
  | none => simp [hc] at h
  | some comp =>
    simp only [hc, Option.bind_some, Option.bind_eq_some_iff, Option.map_eq_some_iff] at h
    obtain ⟨c, hi, k, hk, hb⟩ := h
    obtain ⟨hlt, hp, -⟩ := Array.findIdx?_eq_some_iff_getElem.mp hi
    have hkk : U.vm.classes[c] = k := (Array.getElem?_eq_some_iff.mp hk).2
    rw [hkk] at hp
    cases hkind : k.kind with
    | array component ty =>
      rw [hkind] at hp hb
      simp at hp hb
      refine ⟨comp, c, k, rfl, hk, ?_, hb.2⟩
      rw [hkind, hp, hb.1]
    | _ => rw [hkind] at hp; simp at hp
theorem st_cls {args : Array Value} {s : State} (hts : ∀ w ∈ lw_tbl, w.before args s = true) : ∃ (gc : Nat → ClassId) (gd : Nat → Nat → Nat), ∀ (c : Nat) (q : vw_C), vwCl[c]? = some q → u_Kn s q.1 q.2.1 q.2.2 (gc c) (gd c) := by
  have hi : ∀ c, c < 13 → (Cond.instantiable (cnm c) (nFl c)).before args s = true := fun c hc => hts _ (tLy_in _ (List.mem_map.mpr ⟨c, by
    have e : c = 0 ∨ c = 1 ∨ c = 2 ∨ c = 3 ∨ c = 4 ∨ c = 5 ∨ c = 6 ∨ c = 7 ∨ c = 8 ∨ c = 9 ∨ c = 10 ∨ c = 11 ∨ c = 12 := by omega
    rcases e with rfl | rfl | rfl | rfl | rfl | rfl | rfl | rfl | rfl | rfl | rfl | rfl | rfl <;> decide, rfl⟩)).1
  have hu : ∀ c, c < 13 → ∀ w ∈ u_ws (cnm c) (fTb c) (nFl c), w ∈ lw_tbl := fun c hc => by
    have e : c = 0 ∨ c = 1 ∨ c = 2 ∨ c = 3 ∨ c = 4 ∨ c = 5 ∨ c = 6 ∨ c = 7 ∨ c = 8 ∨ c = 9 ∨ c = 10 ∨ c = 11 ∨ c = 12 := by omega
    rcases e with rfl | rfl | rfl | rfl | rfl | rfl | rfl | rfl | rfl | rfl | rfl | rfl | rfl
    · exact fun w hw => (inX0 w hw).1
    · exact fun w hw => (inX1 w hw).1
    · exact fun w hw => (inX2 w hw).1
    · exact fun w hw => (inX3 w hw).1
    · exact fun w hw => (inX4 w hw).1
    · exact fun w hw => (inX5 w hw).1
    · exact fun w hw => (inX6 w hw).1
    · exact fun w hw => (inX7 w hw).1
    · exact fun w hw => (inX8 w hw).1
    · exact fun w hw => (inX9 w hw).1
    · exact fun w hw => (inX10 w hw).1
    · exact fun w hw => (inX11 w hw).1
    · exact fun w hw => (inX12 w hw).1
  have one : ∀ c : Nat, ∃ (cC : ClassId) (iS : Nat → Nat), ∀ q : vw_C, vwCl[c]? = some q → u_Kn s q.1 q.2.1 q.2.2 cC iS := fun c => by
    by_cases hc : c < 13
    · obtain ⟨cC, iS, h⟩ := u_known hts (hu c hc) (hi c hc)
      refine ⟨cC, iS, fun q hq => ?_⟩
      rw [cl_at c hc] at hq
      cases hq
      exact h
    · obtain ⟨cC, iS, h⟩ := u_known hts (hu 0 (by omega)) (hi 0 (by omega))
      refine ⟨cC, iS, fun q hq => ?_⟩
      have l : c < vwCl.length := (List.getElem?_eq_some_iff.mp hq).1
      have l2 : vwCl.length = 13 := rfl
      omega
  exact ⟨fun c => Classical.choose (one c), fun c => Classical.choose (Classical.choose_spec (one c)), fun c q hq => Classical.choose_spec (Classical.choose_spec (one c)) q hq⟩
theorem st_arr {args : Array Value} {s : State} (hts : ∀ w ∈ lw_tbl, w.before args s = true) : ∃ ga : Nat → ClassId, (∀ t, 13 ≤ t → t < 20 → ArrOfT s (ga t) (aTy t) ∧ va_RA s (ga t) (aTy t)) ∧ ∃ kA : Class, s.vm.classes[ga 19]? = some kA ∧ kA.kind = .array (ga 15) (.array .long) := by
  obtain ⟨c13, k13, p13, a1, a2, a3⟩ := Cond.arrayClass_spec (hts (.arrayClass .byte) (tOd_in _ (List.mem_of_getElem? (i := 2) rfl)).1)
  obtain ⟨c14, k14, p14, b1, b2, b3⟩ := Cond.arrayClass_spec (hts (.arrayClass .int) (tOd_in _ (List.mem_of_getElem? (i := 0) rfl)).1)
  obtain ⟨c15, k15, p15, d1, d2, d3⟩ := Cond.arrayClass_spec (hts (.arrayClass .long) (tOd_in _ (List.mem_of_getElem? (i := 1) rfl)).1)
  obtain ⟨c16, k16, p16, e1, e2, e3⟩ := Cond.arrayClass_spec (hts (.arrayClass .boolean) (tOd_in _ (List.mem_of_getElem? (i := 3) rfl)).1)
  obtain ⟨p17, c17, k17, f1, f2, f3, f4, f5⟩ := Cond.arrayOver_spec (hts (.arrayOver (.object RX7)) (tNg_in _ (List.mem_of_getElem? (i := 0) rfl)))
  obtain ⟨p18, c18, k18, g1, g2, g3, g4, g5⟩ := Cond.arrayOver_spec (hts (.arrayOver (.object RX10)) (tNg_in _ (List.mem_of_getElem? (i := 1) rfl)))
  obtain ⟨p19, c19, k19, h1, h2, h3, h4⟩ := st_ao (hts (.arrayOver (.array .long)) (tNg_in _ (List.mem_of_getElem? (i := 2) rfl)))
  refine ⟨fun t => if t = 13 then c13 else if t = 14 then c14 else if t = 15 then c15 else if t = 16 then c16 else if t = 17 then c17 else if t = 18 then c18 else c19, fun t h0 h9 => ?_, k19, h2, ?_⟩
  · have e : t = 13 ∨ t = 14 ∨ t = 15 ∨ t = 16 ∨ t = 17 ∨ t = 18 ∨ t = 19 := by omega
    rcases e with rfl | rfl | rfl | rfl | rfl | rfl | rfl
    · exact ⟨fun n z => ⟨fun k h => (by cases h), k13, a2, p13, a3⟩, a1⟩
    · exact ⟨fun n z => ⟨fun k h => (by cases h), k14, b2, p14, b3⟩, b1⟩
    · exact ⟨fun n z => ⟨fun k h => (by cases h), k15, d2, p15, d3⟩, d1⟩
    · exact ⟨fun n z => ⟨fun k h => (by cases h), k16, e2, p16, e3⟩, e1⟩
    · exact ⟨fun n z => ⟨fun k h => (by cases h), k17, f3, p17, f4⟩, k17, p17, f3, f4, f1, f5⟩
    · exact ⟨fun n z => ⟨fun k h => (by cases h), k18, g3, p18, g4⟩, k18, p18, g3, g4, g1, g5⟩
    · exact ⟨fun n z => ⟨fun k h => (by cases h), k19, h2, p19, h3⟩, h4⟩
  · have e : some p19 = some c15 := h1.symm.trans d1
    cases e
    exact h3
def shf (j : Nat) : Int := if j = 0 then 4 else if j = 1 then 2 else if j = 2 then 0 else 6
def grt (j : Nat) : Int := if j = 3 then 7 else 3
/-- the state of the little machine at the law's start -/
def st_s (b t0 t1 L n : Nat) : St := (fun a => if a = b ∨ a = t0 ∨ a = t1 then 20 else 21, fun a => if a = b then L else 4, fun _ _ => 0, fun _ _ => 0, fun a k => if a = 0 ∧ k = 1000 then some t0 else if a = 0 ∧ k = 1001 then some t1 else none, n, 0)
def st_f (b t0 : Nat) (X : Nat → Int) : FI := fun a j => if a = b then X j else if a = t0 then shf j else grt j
theorem st_rel {s : State} {b t0 t1 L : Nat} {X : Nat → Int} {gc : Nat → ClassId} {gd : Nat → Nat → Nat} {ga : Nat → ClassId} {cb c0 c1 : Cell} (hb : b < s.heap.size) (h0 : t0 < s.heap.size) (h1 : t1 < s.heap.size) (hL : L < 2147483648) (hX : ∀ j, Rg (X j)) (hbt0 : t0 ≠ b) (hbt1 : t1 ≠ b) (h01 : t1 ≠ t0) (eb : s.heap[b]? = some cb ∧ cb.vm ≠ .unknown ∧ (L ≤ cb.slots.size ∧ cb.slots.size.toInt32 = Int32.ofNat L) ∧ ∀ j, j < L → cb.slots[j]? = some (.int (Int32.ofInt (X j)))) (e0 : s.heap[t0]? = some c0 ∧ c0.vm ≠ .unknown ∧ (4 ≤ c0.slots.size ∧ c0.slots.size.toInt32 = Int32.ofNat 4) ∧ ∀ j, j < 4 → c0.slots[j]? = some (.int (Int32.ofInt (shf j)))) (e1 : s.heap[t1]? = some c1 ∧ c1.vm ≠ .unknown ∧ (4 ≤ c1.slots.size ∧ c1.slots.size.toInt32 = Int32.ofNat 4) ∧ ∀ j, j < 4 → c1.slots[j]? = some (.int (Int32.ofInt (grt j)))) : Rel (s.heap.size, s.heap, gc, gd, ga, (fun a => a = b ∨ a = t0 ∨ a = t1), fun i => if i = 0 then t0 else t1) (il (st_s b t0 t1 L s.heap.size) (st_f b t0 X) (fun _ _ => 0)) s.heap := by
  have tgE : ∀ a, tg (il (st_s b t0 t1 L s.heap.size) (st_f b t0 X) (fun _ _ => 0)) a = if a = b ∨ a = t0 ∨ a = t1 then 20 else 21 := fun _ => rfl
  have lnE : ∀ a, ln (il (st_s b t0 t1 L s.heap.size) (st_f b t0 X) (fun _ _ => 0)) a = if a = b then L else 4 := fun _ => rfl
  have gE : ∀ a j, gI (il (st_s b t0 t1 L s.heap.size) (st_f b t0 X) (fun _ _ => 0)) a j = st_f b t0 X a j := fun _ _ => rfl
  have rE : ∀ a k, gR (il (st_s b t0 t1 L s.heap.size) (st_f b t0 X) (fun _ _ => 0)) a k = if a = 0 ∧ k = 1000 then some t0 else if a = 0 ∧ k = 1001 then some t1 else none := fun _ _ => rfl
  have t20 : ∀ a, 20 ≤ tg (il (st_s b t0 t1 L s.heap.size) (st_f b t0 X) (fun _ _ => 0)) a := fun a => by
    rw [tgE]
    split <;> omega
  refine ⟨⟨rfl, Nat.le_refl _, Nat.lt_of_le_of_lt (Nat.zero_le _) hb⟩, fun q _ => rfl, fun a h => ?_, fun a h h2 => ?_, fun a h => ?_, fun a k => ?_, fun a k t h => ?_, fun i hi q hq => ?_⟩
  · have := t20 a
    omega
  · have := t20 a
    omega
  · rw [tgE] at h
    have ha : a = b ∨ a = t0 ∨ a = t1 := by
      by_cases z : a = b ∨ a = t0 ∨ a = t1
      · exact z
      · rw [if_neg z] at h
        omega
    rw [lnE]
    refine ⟨by show a < s.heap.size; omega, ha, by split <;> omega, ?_⟩
    rcases ha with e | e | e
    · rw [e, if_pos rfl]
      refine ⟨cb, eb.1, eb.2.1, eb.2.2.1, fun j hj => ?_⟩
      rw [gE]
      unfold st_f
      rw [if_pos rfl]
      exact eb.2.2.2 j hj
    · rw [e, if_neg hbt0]
      refine ⟨c0, e0.1, e0.2.1, e0.2.2.1, fun j hj => ?_⟩
      rw [gE]
      unfold st_f
      rw [if_neg hbt0, if_pos rfl]
      exact e0.2.2.2 j hj
    · rw [e, if_neg hbt1]
      refine ⟨c1, e1.1, e1.2.1, e1.2.2.1, fun j hj => ?_⟩
      rw [gE]
      unfold st_f
      rw [if_neg hbt1, if_neg h01]
      exact e1.2.2.2 j hj
  · rw [gE]
    unfold st_f shf grt
    split
    · exact hX k
    · repeat' split
      all_goals (constructor <;> omega)
  · have := t20 a
    unfold rTag at h
    rw [if_neg (by omega), if_neg (by omega), if_neg (by omega), if_neg (by omega)] at h
    cases h
  · rw [rE] at hq
    have e : i = 0 ∨ i = 1 := by omega
    rcases e with rfl | rfl
    · rw [if_pos ⟨rfl, rfl⟩] at hq
      cases hq
      exact ⟨rfl, by rw [tgE, if_pos (Or.inr (Or.inl rfl))]⟩
    · rw [if_neg (by omega), if_pos ⟨rfl, rfl⟩] at hq
      cases hq
      exact ⟨rfl, by rw [tgE, if_pos (Or.inr (Or.inr rfl))]⟩
theorem st_stat {b t0 t1 L n : Nat} {X : Nat → Int} (hbt0 : t0 ≠ b) (hbt1 : t1 ≠ b) (h01 : t1 ≠ t0) (h0 : t0 < n) (h1 : t1 < n) : Stat (st_s b t0 t1 L n) (st_f b t0 X) ∧ Lo (st_s b t0 t1 L n) n := by
  have eS : stS (st_s b t0 t1 L n) = t0 := rfl
  have eG : stG (st_s b t0 t1 L n) = t1 := rfl
  have lnE : ∀ a, ln (st_s b t0 t1 L n) a = if a = b then L else 4 := fun _ => rfl
  unfold Stat Lo
  rw [eS, eG, lnE, lnE, if_neg hbt0, if_neg hbt1]
  unfold st_f
  rw [if_neg hbt0, if_neg hbt0, if_neg hbt0, if_neg hbt0, if_neg hbt1, if_neg hbt1, if_neg hbt1, if_neg hbt1, if_pos rfl, if_pos rfl, if_pos rfl, if_pos rfl, if_neg h01, if_neg h01, if_neg h01, if_neg h01]
  exact ⟨⟨rfl, rfl, rfl, rfl, ⟨rfl, rfl, rfl, rfl⟩, rfl, rfl, rfl, rfl⟩, h0, h1⟩
