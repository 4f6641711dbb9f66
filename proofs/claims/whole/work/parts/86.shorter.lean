/-! shorter trees have no longer texts -/
def Nd (k l r : Int) (n : Nat) : Prop := ((k = 0 ∨ k = 1) ∧ l = 0 ∧ r = 0) ∨ ((2 ≤ k ∧ k ≤ 4) ∧ (0 ≤ l ∧ l ≤ 3) ∧ (0 ≤ r ∧ r ≤ 7 ∧ (l = 3 ∨ r < 4))) ∨ (k = 5 ∧ (0 ≤ l ∧ l < n) ∧ r = 0) ∨ ((k = 6 ∨ k = 7) ∧ (0 ≤ l ∧ l < n) ∧ (0 ≤ r ∧ r < n))
theorem Nd.up {K L R : FN} {n : Nat} {k l r : Int} (h : Nd k l r n) : Wf1 (upN K n k) (upN L n l) (upN R n r) n := by
  unfold Wf1
  rw [show upN K n k n = k from if_pos rfl, show upN L n l n = l from if_pos rfl, show upN R n r n = r from if_pos rfl]
  exact h
theorem fa_sp {z : TS} {k l r : Int} (hw : WfZ z) (hn : Nd k l r z.1) : Mre z (fa z k l r).1 ∧ WfZ (fa z k l r).1 ∧ (fa z k l r).2 < (fa z k l r).1.1 ∧ (fa z k l r).1.2.1 (fa z k l r).2 = k ∧ (fa z k l r).1.2.2.1 (fa z k l r).2 = l ∧ (fa z k l r).1.2.2.2 (fa z k l r).2 = r := fa_spec hw hn.up
theorem bnd_rg (k : Int) : 0 ≤ bnd k ∧ bnd k ≤ 2 := by
  unfold bnd
  split
  · omega
  · split <;> omega
theorem tZ_0 {K L R : FN} {k : Nat} : tx K L R 0 k = bT K L R k := by
  unfold tx brk
  rw [if_neg (by have := bnd_rg (K k); omega)]
theorem tx_ne {K L R : FN} {a : Int} {k : Nat} (h : ¬ bnd (K k) < a) : tx K L R a k = bT K L R k := if_neg h
theorem bnd_2 {k : Int} (h7 : ¬ k = 7) (h6 : ¬ k = 6) : bnd k = 2 := by
  unfold bnd
  rw [if_neg h7, if_neg h6]
/-- what is made of a node of the old rows -/
def Bd (K L R : FN) (i : Nat) (z : TS) (v : Nat) : Prop := v < z.1 ∧ (∀ a : Int, 0 ≤ a → a ≤ 2 → (tZ z a v).length ≤ (tx K L R a i).length) ∧ lZ z v ≤ lv K L R i
theorem Bd.more {K L R : FN} {i : Nat} {z z' : TS} {v : Nat} (h : Bd K L R i z v) (hw : WfZ z) (m : Mre z z') : Bd K L R i z' v := ⟨Nat.lt_of_lt_of_le h.1 m.1, fun a h1 h2 => by rw [(m.tx hw h.1 a).1]; exact h.2.1 a h1 h2, by rw [(m.tx hw h.1 0).2]; exact h.2.2⟩
/-- what is said of a node that comes of one of the old ones -/
def Out3 (K L R : FN) (i : Nat) (z : TS) (p : TS × Nat) : Prop := Mre z p.1 ∧ WfZ p.1 ∧ Bd K L R i p.1 p.2
theorem out_atom {K L R : FN} {i : Nat} {z : TS} {k l r : Int} (hw : WfZ z) (hn : Nd k l r z.1) (hk : k ≤ 4) (hl : (aTx k l r).length ≤ (bT K L R i).length) (h1 : 1 ≤ lv K L R i) : Out3 K L R i z (fa z k l r) := by
  obtain ⟨a1, a2, a3, a4, a5, a6⟩ := fa_sp hw hn
  refine ⟨a1, a2, a3, fun a _ ha => ?_, ?_⟩
  · unfold tZ
    rw [tx_ne (by rw [a4, bnd_2 (by omega) (by omega)]; omega), (bT_a (by rw [a4]; exact hk)).1, a4, a5, a6]
    exact Nat.le_trans hl (tx_len K L R a i).1
  · unfold lZ
    rw [(bT_a (by rw [a4]; exact hk)).2]
    exact h1
/-- one of the joined nodes instead of both -/
theorem out_old {K L R : FN} {i : Nat} {z : TS} {v : Nat} (hw : WfZ z) (hv : v < z.1) (c : Int) (hl : (tZ z c v).length + 2 ≤ (bT K L R i).length) (h1 : lZ z v ≤ lv K L R i) : Out3 K L R i z (z, v) := by
  refine ⟨Mre.rfl', hw, hv, fun a _ _ => ?_, h1⟩
  have a1 := (tx_len z.2.1 z.2.2.1 z.2.2.2 a v).2
  have a2 := (tx_len z.2.1 z.2.2.1 z.2.2.2 c v).1
  have a3 := (tx_len K L R a i).1
  show (tx z.2.1 z.2.2.1 z.2.2.2 a v).length ≤ _
  have a4 : (tx z.2.1 z.2.2.1 z.2.2.2 c v).length + 2 ≤ (bT K L R i).length := hl
  omega
theorem out_star {K L R : FN} {N i l : Nat} {z : TS} {s : Nat} (h : Wf K L R N) (hi : i < N) (e : K i = 5) (el : (L i).toNat = l) (hw : WfZ z) (hs : Bd K L R l z s) : Out3 K L R i z (tStar true z s) := by
  obtain ⟨t1, t2, t3⟩ := bT_5 h hi e
  rw [el] at t1 t2
  have hl := bT_pos h l (by omega)
  have len : (bT K L R i).length = (tx K L R 2 l).length + 1 := by rw [t1]; simp
  have b2 := hs.2.1 2 (by omega) (by omega)
  unfold tStar
  by_cases c1 : z.2.1 s = 0 ∨ z.2.1 s = 1
  · rw [if_pos ⟨rfl, c1⟩]
    exact out_atom hw (Or.inl ⟨Or.inr rfl, rfl, rfl⟩) (by decide) (by rw [len]; show 1 ≤ _; omega) (by rw [t2]; exact hl.2)
  · rw [if_neg (fun q => c1 q.2)]
    by_cases c2 : z.2.1 s = 5
    · rw [if_pos ⟨rfl, c2⟩]
      refine ⟨Mre.rfl', hw, hs.1, fun a _ ha => ?_, by rw [t2]; exact hs.2.2⟩
      have e1 : tZ z a s = tZ z 2 s := by
        unfold tZ
        rw [tx_ne (by rw [c2]; show ¬ (2 : Int) < a; omega), tx_ne (by rw [c2]; decide)]
      rw [e1]
      have := (tx_len K L R a i).1
      omega
    · rw [if_neg (fun q => c2 q.2)]
      obtain ⟨a1, a2, a3, a4, a5, a6⟩ := fa_sp (z := z) (k := 5) (l := (s : Int)) (r := 0) hw (Or.inr (Or.inr (Or.inl ⟨rfl, by have := hs.1; omega, rfl⟩)))
      obtain ⟨u1, u2, u3⟩ := bT_5 a2 a3 a4
      rw [a5, show ((s : Int)).toNat = s from rfl] at u1 u2
      refine ⟨a1, a2, a3, fun a _ ha => ?_, ?_⟩
      · unfold tZ
        rw [tx_ne (by rw [a4]; show ¬ (2 : Int) < a; omega), u1]
        have m := (a1.tx hw hs.1 2).1
        unfold tZ at m
        rw [List.length_append, m]
        have := (tx_len K L R a i).1
        have b3 : (tx z.2.1 z.2.2.1 z.2.2.2 2 s).length ≤ (tx K L R 2 l).length := b2
        simp
        omega
      · unfold lZ
        rw [u2, t2]
        have m := (a1.tx hw hs.1 0).2
        unfold lZ at m
        rw [m]
        exact hs.2.2
theorem brk_mono {k a : Int} {s s' : List Int} (h : s.length ≤ s'.length) : (brk k a s).length ≤ (brk k a s').length := by
  unfold brk
  split
  · simp
    omega
  · exact h
theorem out_either {K L R : FN} {N i l r : Nat} {z : TS} {s t : Nat} (h : Wf K L R N) (hi : i < N) (e : K i = 7) (el : (L i).toNat = l) (er : (R i).toNat = r) (hw : WfZ z) (hs : Bd K L R l z s) (ht : Bd K L R r z t) : Out3 K L R i z (tEither true z s t) := by
  obtain ⟨t1, t2, t3, t4⟩ := bT_7 h hi e
  rw [el, er] at t1 t2
  have hl := bT_pos h l (by omega)
  have hr := bT_pos h r (by omega)
  have r1 := (tx_len K L R 1 r).1
  have len : (bT K L R i).length = (bT K L R l).length + 1 + (tx K L R 1 r).length := by rw [t1]; simp; omega
  have b0 := hs.2.1 0 (by omega) (by omega)
  rw [tZ_0] at b0
  have b1 := ht.2.1 1 (by omega) (by omega)
  unfold tEither
  by_cases c1 : s = t ∨ z.2.1 t = 0
  · rw [if_pos ⟨rfl, c1⟩]
    exact out_old hw hs.1 0 (by omega) (by have := hs.2.2; omega)
  · rw [if_neg (fun q => c1 q.2)]
    by_cases c2 : z.2.1 s = 0
    · rw [if_pos ⟨rfl, c2⟩]
      exact out_old hw ht.1 1 (by omega) (by have := ht.2.2; omega)
    · rw [if_neg (fun q => c2 q.2)]
      obtain ⟨a1, a2, a3, a4, a5, a6⟩ := fa_sp (z := z) (k := 7) (l := (s : Int)) (r := (t : Int)) hw (Or.inr (Or.inr (Or.inr ⟨Or.inr rfl, by have := hs.1; omega, by have := ht.1; omega⟩)))
      obtain ⟨u1, u2, u3, u4⟩ := bT_7 a2 a3 a4
      rw [a5, a6, show ((s : Int)).toNat = s from rfl, show ((t : Int)).toNat = t from rfl] at u1 u2
      refine ⟨a1, a2, a3, fun a _ ha => ?_, ?_⟩
      · unfold tZ tx
        rw [a4, e]
        refine brk_mono ?_
        have m := (a1.tx hw hs.1 0).1
        have m2 := (a1.tx hw ht.1 1).1
        unfold tZ at m m2
        rw [tZ_0, tZ_0] at m
        rw [u1, m, m2, len]
        have q1 : (tx z.2.1 z.2.2.1 z.2.2.2 0 s).length ≤ (bT K L R l).length := b0
        rw [tZ_0] at q1
        have q2 : (tx z.2.1 z.2.2.1 z.2.2.2 1 t).length ≤ (tx K L R 1 r).length := b1
        simp
        omega
      · unfold lZ
        have m := (a1.tx hw hs.1 0).2
        have m2 := (a1.tx hw ht.1 0).2
        unfold lZ at m m2
        rw [u2, t2, m, m2]
        have := hs.2.2
        have := ht.2.2
        unfold lZ at *
        omega
theorem out_then {K L R : FN} {N i l r : Nat} {z : TS} {s t : Nat} (h : Wf K L R N) (hi : i < N) (e : K i = 6) (el : (L i).toNat = l) (er : (R i).toNat = r) (hw : WfZ z) (hs : Bd K L R l z s) (ht : Bd K L R r z t) : Out3 K L R i z (tThen true z s t) := by
  obtain ⟨t1, t2, t3, t4⟩ := bT_6 h hi e
  rw [el, er] at t1 t2
  have hl := bT_pos h l (by omega)
  have hr := bT_pos h r (by omega)
  have l1 := (tx_len K L R 1 l).1
  have r1 := (tx_len K L R 2 r).1
  have len : (bT K L R i).length = (tx K L R 1 l).length + 1 + (tx K L R 2 r).length := by rw [t1]; simp; omega
  have b0 := hs.2.1 1 (by omega) (by omega)
  have b1 := ht.2.1 2 (by omega) (by omega)
  have oS : Out3 K L R i z (z, s) := out_old hw hs.1 1 (by omega) (by have := hs.2.2; omega)
  have oT : Out3 K L R i z (z, t) := out_old hw ht.1 2 (by omega) (by have := ht.2.2; omega)
  have o0 : Out3 K L R i z (fa z 0 0 0) := out_atom hw (Or.inl ⟨Or.inl rfl, rfl, rfl⟩) (by decide) (by rw [len]; show 1 ≤ _; omega) (by omega)
  have oN : Out3 K L R i z (fa z 6 s t) := by
    obtain ⟨a1, a2, a3, a4, a5, a6⟩ := fa_sp (z := z) (k := 6) (l := (s : Int)) (r := (t : Int)) hw (Or.inr (Or.inr (Or.inr ⟨Or.inl rfl, by have := hs.1; omega, by have := ht.1; omega⟩)))
    obtain ⟨u1, u2, u3, u4⟩ := bT_6 a2 a3 a4
    rw [a5, a6, show ((s : Int)).toNat = s from rfl, show ((t : Int)).toNat = t from rfl] at u1 u2
    refine ⟨a1, a2, a3, fun a _ ha => ?_, ?_⟩
    · unfold tZ tx
      rw [a4, e]
      refine brk_mono ?_
      have m := (a1.tx hw hs.1 1).1
      have m2 := (a1.tx hw ht.1 2).1
      unfold tZ at m m2
      rw [u1, m, m2, len]
      have q1 : (tx z.2.1 z.2.2.1 z.2.2.2 1 s).length ≤ (tx K L R 1 l).length := b0
      have q2 : (tx z.2.1 z.2.2.1 z.2.2.2 2 t).length ≤ (tx K L R 2 r).length := b1
      simp
      omega
    · unfold lZ
      have m := (a1.tx hw hs.1 0).2
      have m2 := (a1.tx hw ht.1 0).2
      unfold lZ at m m2
      rw [u2, t2, m, m2]
      have := hs.2.2
      have := ht.2.2
      unfold lZ at *
      omega
  unfold tThen
  rw [if_neg (by decide)]
  split
  · exact oS
  · split
    · exact oT
    · split
      · split
        · split
          · exact oS
          · exact o0
        · split
          · exact oT
          · split
            · exact oS
            · exact oN
      · exact oN
theorem tRun_s (b : Bool) (K L R : FN) (i : Nat) : tRun b K L R (i + 1) = ((tNode b (tRun b K L R i).1 (tRun b K L R i).2 (K i) (L i) (R i)).1, fun j => if j = i then (tNode b (tRun b K L R i).1 (tRun b K L R i).2 (K i) (L i) (R i)).2 else (tRun b K L R i).2 j) := rfl
/-- the whole run of shortening -/
theorem tRun_bd {K L R : FN} {N : Nat} (h : Wf K L R N) : ∀ i, i ≤ N → WfZ (tRun true K L R i).1 ∧ (tRun true K L R i).1.1 ≤ i ∧ ∀ j, j < i → Bd K L R j (tRun true K L R i).1 ((tRun true K L R i).2 j)
  | 0, _ => ⟨fun k hk => absurd hk (Nat.not_lt_zero k), Nat.le_refl _, fun j hj => absurd hj (Nat.not_lt_zero j)⟩
  | i + 1, hi => by
    obtain ⟨w, n, b⟩ := tRun_bd h i (by omega)
    have out : Out3 K L R i (tRun true K L R i).1 (tNode true (tRun true K L R i).1 (tRun true K L R i).2 (K i) (L i) (R i)) := by
      have wi := h i (by omega)
      unfold Wf1 at wi
      unfold tNode
      by_cases h5 : K i = 5
      · rw [if_pos h5]
        exact out_star h (by omega) h5 rfl w (b _ (by omega))
      · rw [if_neg h5]
        by_cases h7 : K i = 7
        · rw [if_pos h7]
          exact out_either h (by omega) h7 rfl rfl w (b _ (by omega)) (b _ (by omega))
        · rw [if_neg h7]
          by_cases h6 : K i = 6
          · rw [if_pos h6]
            exact out_then h (by omega) h6 rfl rfl w (b _ (by omega)) (b _ (by omega))
          · rw [if_neg h6]
            obtain ⟨t1, t2⟩ := bT_a (K := K) (L := L) (R := R) (k := i) (by omega)
            exact out_atom w (by unfold Nd; omega) (by omega) (by rw [t1]; exact Nat.le_refl _) (by omega)
    obtain ⟨o1, o2, o3⟩ := out
    rw [tRun_s]
    refine ⟨o2, Nat.le_trans o1.2.1 (Nat.succ_le_succ n), fun j hj => ?_⟩
    show Bd K L R j _ (if j = i then _ else _)
    by_cases z : j = i
    · subst z
      rw [if_pos rfl]
      exact o3
    · rw [if_neg z]
      exact (b j (by omega)).more w o1
/-- rows that are only laid together keep their texts -/
theorem tRun_eq {K L R : FN} {N : Nat} (h : Wf K L R N) : ∀ i, i ≤ N → WfZ (tRun false K L R i).1 ∧ (tRun false K L R i).1.1 ≤ i ∧ ∀ j, j < i → (tRun false K L R i).2 j < (tRun false K L R i).1.1 ∧ (tRun false K L R i).1.2.1 ((tRun false K L R i).2 j) = K j ∧ bT (tRun false K L R i).1.2.1 (tRun false K L R i).1.2.2.1 (tRun false K L R i).1.2.2.2 ((tRun false K L R i).2 j) = bT K L R j
  | 0, _ => ⟨fun k hk => absurd hk (Nat.not_lt_zero k), Nat.le_refl _, fun j hj => absurd hj (Nat.not_lt_zero j)⟩
  | i + 1, hi => by
    obtain ⟨w, n, b⟩ := tRun_eq h i (by omega)
    generalize hz : (tRun false K L R i).1 = z at w n b
    generalize hm : (tRun false K L R i).2 = m at b
    have fin : ∀ p : TS × Nat, Mre z p.1 → WfZ p.1 → (p.2 < p.1.1 ∧ p.1.2.1 p.2 = K i ∧ bT p.1.2.1 p.1.2.2.1 p.1.2.2.2 p.2 = bT K L R i) → tNode false z m (K i) (L i) (R i) = p → WfZ (tRun false K L R (i + 1)).1 ∧ (tRun false K L R (i + 1)).1.1 ≤ i + 1 ∧ ∀ j, j < i + 1 → (tRun false K L R (i + 1)).2 j < (tRun false K L R (i + 1)).1.1 ∧ (tRun false K L R (i + 1)).1.2.1 ((tRun false K L R (i + 1)).2 j) = K j ∧ bT (tRun false K L R (i + 1)).1.2.1 (tRun false K L R (i + 1)).1.2.2.1 (tRun false K L R (i + 1)).1.2.2.2 ((tRun false K L R (i + 1)).2 j) = bT K L R j := fun p m1 m2 m3 e => by
      rw [tRun_s, hz, hm, e]
      refine ⟨m2, by have := m1.2.1; show p.1.1 ≤ i + 1; omega, fun j hj => ?_⟩
      show (if j = i then p.2 else m j) < p.1.1 ∧ p.1.2.1 (if j = i then p.2 else m j) = K j ∧ bT p.1.2.1 p.1.2.2.1 p.1.2.2.2 (if j = i then p.2 else m j) = bT K L R j
      by_cases y : j = i
      · subst y
        rw [if_pos rfl]
        exact m3
      · rw [if_neg y]
        obtain ⟨b1, b2, b3⟩ := b j (by omega)
        have t := (m1.tx w b1 0).1
        unfold tZ at t
        rw [tZ_0, tZ_0] at t
        exact ⟨Nat.lt_of_lt_of_le b1 m1.1, by rw [(m1.2.2 _ b1).1]; exact b2, by rw [t]; exact b3⟩
    have wi := h i (by omega)
    unfold Wf1 at wi
    have sub : ∀ {z' : TS}, Mre z z' → ∀ (c : Int) (a : Int), 0 ≤ c → c < i → tx z'.2.1 z'.2.2.1 z'.2.2.2 a (m c.toNat) = tx K L R a c.toNat := fun {z'} mm c a h1 h2 => by
      obtain ⟨b1, b2, b3⟩ := b c.toNat (by omega)
      have t := (mm.tx w b1 a).1
      unfold tZ at t
      rw [t]
      unfold tx
      rw [b2, b3]
    by_cases h5 : K i = 5
    · have hl := (b (L i).toNat (by omega)).1
      obtain ⟨a1, a2, a3, a4, a5, a6⟩ := fa_sp (z := z) (k := 5) (l := ((m (L i).toNat : Nat) : Int)) (r := 0) w (Or.inr (Or.inr (Or.inl ⟨rfl, by omega, rfl⟩)))
      refine fin _ a1 a2 ⟨a3, by rw [a4, h5], ?_⟩ (by
        unfold tNode tStar
        rw [if_pos h5, if_neg (fun q => absurd q.1 (by decide)), if_neg (fun q => absurd q.1 (by decide))])
      rw [(bT_5 a2 a3 a4).1, a5, (bT_5 h (by omega) h5).1]
      show tx _ _ _ 2 (m (L i).toNat) ++ [42] = _
      rw [sub a1 (L i) 2 (by omega) (by omega)]
    · by_cases h7 : K i = 7
      · have hl := (b (L i).toNat (by omega)).1
        have hr := (b (R i).toNat (by omega)).1
        obtain ⟨a1, a2, a3, a4, a5, a6⟩ := fa_sp (z := z) (k := 7) (l := ((m (L i).toNat : Nat) : Int)) (r := ((m (R i).toNat : Nat) : Int)) w (Or.inr (Or.inr (Or.inr ⟨Or.inr rfl, by omega, by omega⟩)))
        refine fin _ a1 a2 ⟨a3, by rw [a4, h7], ?_⟩ (by
          unfold tNode tEither
          rw [if_neg h5, if_pos h7, if_neg (fun q => absurd q.1 (by decide)), if_neg (fun q => absurd q.1 (by decide))])
        rw [(bT_7 a2 a3 a4).1, a5, a6, (bT_7 h (by omega) h7).1]
        show bT _ _ _ (m (L i).toNat) ++ ([43] ++ tx _ _ _ 1 (m (R i).toNat)) = _
        have q := sub a1 (L i) 0 (by omega) (by omega)
        rw [tZ_0, tZ_0] at q
        rw [q, sub a1 (R i) 1 (by omega) (by omega)]
      · by_cases h6 : K i = 6
        · have hl := (b (L i).toNat (by omega)).1
          have hr := (b (R i).toNat (by omega)).1
          obtain ⟨a1, a2, a3, a4, a5, a6⟩ := fa_sp (z := z) (k := 6) (l := ((m (L i).toNat : Nat) : Int)) (r := ((m (R i).toNat : Nat) : Int)) w (Or.inr (Or.inr (Or.inr ⟨Or.inl rfl, by omega, by omega⟩)))
          refine fin _ a1 a2 ⟨a3, by rw [a4, h6], ?_⟩ (by
            unfold tNode tThen
            rw [if_neg h5, if_neg h7, if_pos h6, if_pos rfl])
          rw [(bT_6 a2 a3 a4).1, a5, a6, (bT_6 h (by omega) h6).1]
          show tx _ _ _ 1 (m (L i).toNat) ++ ([59] ++ tx _ _ _ 2 (m (R i).toNat)) = _
          rw [sub a1 (L i) 1 (by omega) (by omega), sub a1 (R i) 2 (by omega) (by omega)]
        · obtain ⟨a1, a2, a3, a4, a5, a6⟩ := fa_sp (z := z) (k := K i) (l := L i) (r := R i) w (by unfold Nd; omega)
          refine fin _ a1 a2 ⟨a3, a4, ?_⟩ (by
            unfold tNode
            rw [if_neg h5, if_neg h7, if_neg h6])
          rw [(bT_a (by rw [a4]; omega)).1, a4, a5, a6, (bT_a (by omega)).1]
