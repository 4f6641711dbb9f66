/-! what holds of the signs and the operands that wait -/
def nsg (s : Nat → Int) : Nat → Nat
  | 0 => 0
  | k + 1 => nsg s k + (if s k = 40 then 0 else 1)
def nop (s : Nat → Int) : Nat → Nat
  | 0 => 0
  | k + 1 => nop s k + (if s k = 40 then 1 else 0)
theorem nsg_y {s : Nat → Int} {k : Nat} (h : s k = 40) : nsg s (k + 1) = nsg s k ∧ nop s (k + 1) = nop s k + 1 := by
  rw [nsg, nop, if_pos h, if_pos h]
  exact ⟨rfl, rfl⟩
theorem nsg_n {s : Nat → Int} {k : Nat} (h : ¬ s k = 40) : nsg s (k + 1) = nsg s k + 1 ∧ nop s (k + 1) = nop s k := by
  rw [nsg, nop, if_neg h, if_neg h]
  exact ⟨rfl, rfl⟩
theorem nsg_cg {s s' : Nat → Int} : ∀ {k : Nat}, (∀ i, i < k → s i = s' i) → nsg s k = nsg s' k ∧ nop s k = nop s' k
  | 0, _ => ⟨rfl, rfl⟩
  | k + 1, h => by
    have ih := nsg_cg (s := s) (s' := s') (k := k) (fun i hi => h i (by omega))
    rw [nsg, nsg, nop, nop, ih.1, ih.2, h k (by omega)]
    exact ⟨rfl, rfl⟩
theorem nsg_up {s : Nat → Int} {k : Nat} {x : Int} : nsg (upS s k x) k = nsg s k ∧ nop (upS s k x) k = nop s k := nsg_cg fun i hi => upS_ne (by omega)
theorem nsg_add (s : Nat → Int) : ∀ k, nsg s k + nop s k = k
  | 0 => rfl
  | k + 1 => by
    have ih := nsg_add s k
    by_cases h : s k = 40
    · have := nsg_y h
      omega
    · have := nsg_n h
      omega
theorem nsg_mono {s : Nat → Int} {j : Nat} : ∀ {k : Nat}, j ≤ k → nsg s j ≤ nsg s k
  | 0, h => by
    obtain rfl : j = 0 := by omega
    exact Nat.le_refl _
  | k + 1, h => by
    by_cases e : j = k + 1
    · rw [e]
      exact Nat.le_refl _
    · have := nsg_mono (s := s) (j := j) (k := k) (by omega)
      rw [nsg]
      omega
theorem nsg_lt {s : Nat → Int} {j k : Nat} (h : j < k) (h2 : ¬ s j = 40) : nsg s j < nsg s k := by
  have a := nsg_mono (s := s) (j := j + 1) (k := k) h
  have b := nsg_n h2
  omega
/-- how signs may stand one behind the other -/
def SOK (s : Nat → Int) (k : Nat) : Prop := ∀ i, i < k → (s i = 40 ∨ s i = 43 ∨ s i = 59) ∧ (i + 1 < k → (s i = 59 → s (i + 1) = 40) ∧ (s i = 43 → s (i + 1) = 40 ∨ s (i + 1) = 59))
theorem SOK.less {s : Nat → Int} {k k' : Nat} (h : SOK s k) (hk : k' ≤ k) : SOK s k' := fun i hi => ⟨(h i (by omega)).1, fun z => (h i (by omega)).2 (by omega)⟩
theorem SOK.bd {s : Nat → Int} : ∀ {k : Nat}, SOK s k → (k = 0 ∨ (s (k - 1) = 40 ∧ nsg s k ≤ 2 * nop s k) ∨ (s (k - 1) = 43 ∧ nsg s k ≤ 2 * nop s k + 1) ∨ (s (k - 1) = 59 ∧ nsg s k ≤ 2 * nop s k + 2))
  | 0, _ => Or.inl rfl
  | k + 1, h => by
    have ih := SOK.bd (h.less (Nat.le_succ k))
    have h1 := (h k (by omega)).1
    have z0 : k = 0 → nsg s k = 0 := fun z => by rw [z]; rfl
    have pr : ∀ j, j + 1 = k → (s j = 59 → s k = 40) ∧ (s j = 43 → s k = 40 ∨ s k = 59) := fun j hj => by
      have := (h j (by omega)).2 (by omega)
      rw [hj] at this
      exact this
    have pk : 0 < k → (s (k - 1) = 59 → s k = 40) ∧ (s (k - 1) = 43 → s k = 40 ∨ s k = 59) := fun hk => pr (k - 1) (by omega)
    rw [show k + 1 - 1 = k by omega]
    rcases h1 with e | e | e
    · have := nsg_y e
      omega
    · have := nsg_n (s := s) (k := k) (by omega)
      omega
    · have := nsg_n (s := s) (k := k) (by omega)
      omega
theorem SOK.bd2 {s : Nat → Int} {k : Nat} (h : SOK s k) : nsg s k ≤ 2 * nop s k + 2 := by
  have := h.bd
  have z0 : k = 0 → nsg s k = 0 := fun z => by rw [z]; rfl
  omega
theorem SOK.push {s : Nat → Int} {k : Nat} {x : Int} (h : SOK s k) (hx : x = 40 ∨ x = 43 ∨ x = 59) (ht : ∀ j, j + 1 = k → (s j = 59 → x = 40) ∧ (s j = 43 → x = 40 ∨ x = 59)) : SOK (upS s k x) (k + 1) := fun i hi => by
  by_cases e : i = k
  · rw [e, upS_at]
    exact ⟨hx, fun z => absurd z (by omega)⟩
  · rw [upS_ne e]
    refine ⟨(h i (by omega)).1, fun z => ?_⟩
    by_cases e2 : i + 1 = k
    · rw [e2, upS_at]
      exact ht i e2
    · rw [upS_ne e2]
      exact (h i (by omega)).2 (by omega)
def smw (w : Nat → Nat) : Nat → Nat
  | 0 => 0
  | m + 1 => smw w m + w m
theorem smw_cg {w w' : Nat → Nat} : ∀ {m : Nat}, (∀ i, i < m → w i = w' i) → smw w m = smw w' m
  | 0, _ => rfl
  | m + 1, h => by rw [smw, smw, smw_cg (fun i hi => h i (by omega)), h m (by omega)]
theorem smw_le {w : Nat → Nat} {j m : Nat} (h : j < m) : w j ≤ smw w m := by
  induction m with
  | zero => omega
  | succ m ih =>
    rw [smw]
    by_cases e : j = m
    · rw [e]
      omega
    · have := ih (by omega)
      omega
theorem ext1 {K L R : FN} {N : Nat} {x l r : Int} (hw : Wf K L R N) (hn : Wf1 (upF K N x) (upF L N l) (upF R N r) N) : Wf (upF K N x) (upF L N l) (upF R N r) (N + 1) ∧ ∀ k, k < N → ∀ a, tx (upF K N x) (upF L N l) (upF R N r) a k = tx K L R a k ∧ lv (upF K N x) (upF L N l) (upF R N r) k = lv K L R k := by
  have mre : Mre (N, K, L, R) (N + 1, upF K N x, upF L N l, upF R N r) := ⟨by show N ≤ N + 1; omega, Nat.le_refl _, fun j hj => ⟨upF_ne (Nat.ne_of_lt hj), upF_ne (Nat.ne_of_lt hj), upF_ne (Nat.ne_of_lt hj)⟩⟩
  refine ⟨fun k hk => ?_, fun k hk a => mre.tx hw hk a⟩
  by_cases e : k = N
  · rw [e]
    exact hn
  · have := hw k (by omega)
    unfold Wf1 at this ⊢
    rw [upF_ne e, upF_ne e, upF_ne e]
    exact this
theorem ev_ext {K L R : FN} {N : Nat} {x l r : Int} : ∀ i, i ≤ N → ev (upF K N x) (upF L N l) (upF R N r) i = ev K L R i
  | 0, _ => rfl
  | i + 1, h => by
    have ih := ev_ext (K := K) (L := L) (R := R) (N := N) (x := x) (l := l) (r := r) i (by omega)
    rw [ev, ev, ih, upF_ne (by omega), upF_ne (by omega), upF_ne (by omega)]
/-- what waits -/
def Base (p a k m N : Nat) (s : Nat → Int) (o : Nat → Nat) (K L R : FN) (w : Nat → Nat) : Prop := SOK s k ∧ (Wf K L R N ∧ Pf K L R N ∧ (ev K L R N).1 = m) ∧ (∀ i, i < m → o i < N) ∧ N + nsg s k ≤ p ∧ smw w m + k ≤ p ∧ (∀ i, i < m → (bT K L R (o i)).length ≤ w i) ∧ (∀ j, j < k → s j = 59 → (tx K L R 1 (o (nsg s j))).length ≤ w (nsg s j)) ∧ smw (fun i => lv K L R (o i)) m ≤ a
theorem Base.add {p p' a a' k k0 m m' N : Nat} {s : Nat → Int} {o : Nat → Nat} {K L R : FN} {w : Nat → Nat} {x l r : Int} {W : Nat} (h : Base p a k0 m' N s o K L R w) (hk : k ≤ k0) (hm : m ≤ m') (hms : m = nsg s k) (hn : Wf1 (upF K N x) (upF L N l) (upF R N r) N) (hx : (x ≤ 4 → m' < 20 ∧ m = m') ∧ (x = 5 → m' = m + 1 ∧ 1 ≤ N ∧ l = ((N - 1 : Nat) : Int)) ∧ (x = 6 ∨ x = 7 → m' = m + 2)) (hc : N + 1 + nsg s k ≤ p') (hs : smw w m + W + k ≤ p') (hb : (bT (upF K N x) (upF L N l) (upF R N r) N).length ≤ W) (hl : smw (fun i => lv K L R (o i)) m + lv (upF K N x) (upF L N l) (upF R N r) N ≤ a') : Base p' a' k (m + 1) (N + 1) s (ups o m N) (upF K N x) (upF L N l) (upF R N r) (ups w m W) := by
  obtain ⟨h1, ⟨h2, h3, h4⟩, h5, h6, h7, h8, h9, h10⟩ := h
  obtain ⟨e1, e2⟩ := ext1 h2 hn
  have eN := ev_ext (K := K) (L := L) (R := R) (N := N) (x := x) (l := l) (r := r)
  have kN : upF K N x N = x := upF_at
  have xr : 0 ≤ x ∧ x ≤ 7 := by
    unfold Wf1 at hn
    rw [kN] at hn
    omega
  refine ⟨h1.less hk, ⟨e1, fun i hi => ?_, ?_⟩, fun i hi => ?_, hc, ?_, fun i hi => ?_, fun j hj hj59 => ?_, ?_⟩
  · by_cases e : i = N
    · rw [e, kN, eN N (Nat.le_refl _), h4, upF_at]
      refine ⟨fun z => (hx.1 z).1, fun z => ?_, fun z => ?_⟩
      · have := hx.2.1 z
        exact ⟨by omega, this.2.1, this.2.2⟩
      · have := hx.2.2 z
        omega
    · rw [upF_ne e, upF_ne e, eN i (by omega)]
      exact h3 i (by omega)
  · by_cases x5 : x = 5
    · rw [ev_5 (kN.trans x5)]
      show (ev _ _ _ N).1 = _
      rw [eN N (Nat.le_refl _), h4]
      exact (hx.2.1 x5).1
    · by_cases x6 : x = 6
      · rw [ev_6 (kN.trans x6)]
        show (ev _ _ _ N).1 - 1 = _
        rw [eN N (Nat.le_refl _), h4]
        have := hx.2.2 (Or.inl x6)
        omega
      · by_cases x7 : x = 7
        · rw [ev_7 (kN.trans x7)]
          show (ev _ _ _ N).1 - 1 = _
          rw [eN N (Nat.le_refl _), h4]
          have := hx.2.2 (Or.inr x7)
          omega
        · rw [ev_a (by rw [kN]; omega)]
          show (ev _ _ _ N).1 + 1 = _
          rw [eN N (Nat.le_refl _), h4]
          have := hx.1 (by omega)
          omega
  · by_cases e : i = m
    · rw [e, ups_at]
      omega
    · rw [ups_ne e]
      have := h5 i (by omega)
      omega
  · rw [smw, ups_at, smw_cg (w' := w) (fun i hi => ups_ne (by omega))]
    omega
  · by_cases e : i = m
    · rw [e, ups_at, ups_at]
      exact hb
    · rw [ups_ne e, ups_ne e, ← tZ_0, (e2 _ (h5 i (by omega)) 0).1, tZ_0]
      exact h8 i (by omega)
  · have lt := nsg_lt (s := s) hj (by omega)
    rw [ups_ne (by omega), ups_ne (by omega), (e2 _ (h5 _ (by omega)) 1).1]
    exact h9 j (by omega) hj59
  · rw [smw, ups_at, smw_cg (w' := fun i => lv K L R (o i)) (fun i hi => by rw [ups_ne (by omega), (e2 _ (h5 i (by omega)) 0).2])]
    exact hl
/-- an atom is wanted -/
def PA (p a k m N : Nat) (s : Nat → Int) (o : Nat → Nat) (K L R : FN) (w : Nat → Nat) : Prop := Base p a k m N s o K L R w ∧ m = nsg s k
/-- an operand is there -/
def PQ (p a k m N : Nat) (s : Nat → Int) (o : Nat → Nat) (K L R : FN) (w : Nat → Nat) (tl : Int) : Prop := Base p a k (m + 1) N s o K L R w ∧ m = nsg s k ∧ o m + 1 = N ∧ (tx K L R tl (o m)).length ≤ w m
theorem Base.p {p p' a k m N : Nat} {s : Nat → Int} {o : Nat → Nat} {K L R : FN} {w : Nat → Nat} (h : Base p a k m N s o K L R w) (hp : p ≤ p') : Base p' a k m N s o K L R w := by
  obtain ⟨h1, h2, h5, h6, h7, h8, h9, h10⟩ := h
  exact ⟨h1, h2, h5, by omega, by omega, h8, h9, h10⟩
theorem PA.atom {p q a k m N : Nat} {s : Nat → Int} {o : Nat → Nat} {K L R : FN} {w : Nat → Nat} {x l r : Int} (h : PA p a k m N s o K L R w) (h20 : m < 20) (hpq : p < q) (hx : ((x = 0 ∨ x = 1) ∧ l = 0 ∧ r = 0) ∨ ((2 ≤ x ∧ x ≤ 4) ∧ (0 ≤ l ∧ l ≤ 3) ∧ (0 ≤ r ∧ r ≤ 7 ∧ (l = 3 ∨ r < 4)))) (ht : (aTx x l r).length ≤ q - p) : PQ q (a + 1) k m (N + 1) s (ups o m N) (upF K N x) (upF L N l) (upF R N r) (ups w m (q - p)) 2 := by
  obtain ⟨hB, hm⟩ := h
  have kN : upF K N x N = x := upF_at
  have lN : upF L N l N = l := upF_at
  have rN : upF R N r N = r := upF_at
  have hn : Wf1 (upF K N x) (upF L N l) (upF R N r) N := by
    unfold Wf1
    rw [kN, lN, rN]
    omega
  have x4 : upF K N x N ≤ 4 := by rw [kN]; omega
  have ba := bT_a (L := upF L N l) (R := upF R N r) x4
  rw [kN, lN, rN] at ba
  obtain ⟨h1, h2, h5, h6, h7, h8, h9, h10⟩ := hB
  refine ⟨Base.add ⟨h1, h2, h5, h6, h7, h8, h9, h10⟩ (Nat.le_refl _) (Nat.le_refl _) hm hn ⟨fun _ => ⟨h20, rfl⟩, fun y => absurd y (by omega), fun y => absurd y (by omega)⟩ (by omega) (by omega) (by rw [ba.1]; exact ht) (by rw [ba.2]; omega), hm, by rw [ups_at], ?_⟩
  rw [ups_at, ups_at, tx_ne (by rw [kN, bnd_2 (by omega) (by omega)]; omega), ba.1]
  exact ht
theorem PA.brk0 {p e a k m N : Nat} {s : Nat → Int} {o : Nat → Nat} {K L R : FN} {w : Nat → Nat} (h : PA p a k m N s o K L R w) (hpe : p ≤ e) : PA (e + 1) a (k + 1) m N (upS s k 40) o K L R w := by
  obtain ⟨⟨h1, h2, h5, h6, h7, h8, h9, h10⟩, hm⟩ := h
  have u := nsg_up (s := s) (k := k) (x := 40)
  have y := nsg_y (s := upS s k 40) (k := k) upS_at
  refine ⟨⟨h1.push (Or.inl rfl) (fun _ _ => ⟨fun _ => rfl, fun _ => Or.inl rfl⟩), h2, h5, by omega, by omega, h8, fun j hj h59 => ?_, h10⟩, by omega⟩
  by_cases e : j = k
  · rw [e, upS_at] at h59
    exact absurd h59 (by decide)
  · rw [upS_ne e] at h59
    rw [(nsg_cg (s := upS s k 40) (s' := s) (k := j) (fun i hi => upS_ne (by omega))).1]
    exact h9 j (by omega) h59
theorem PQ.star {p a k m N : Nat} {s : Nat → Int} {o : Nat → Nat} {K L R : FN} {w : Nat → Nat} (h : PQ p a k m N s o K L R w 2) : PQ (p + 1) a k m (N + 1) s (ups o m N) (upF K N 5) (upF L N (o m : Int)) (upF R N 0) (ups w m (w m + 1)) 2 := by
  obtain ⟨hB, hm, ho, ht⟩ := h
  have kN : upF K N 5 N = 5 := upF_at
  have lN : upF L N (o m : Int) N = (o m : Int) := upF_at
  have rN : upF R N 0 N = 0 := upF_at
  have hn : Wf1 (upF K N 5) (upF L N (o m : Int)) (upF R N 0) N := by
    unfold Wf1
    rw [kN, lN, rN]
    omega
  have hB' := hB
  obtain ⟨h1, h2, h5, h6, h7, h8, h9, h10⟩ := hB
  obtain ⟨e1, e2⟩ := ext1 h2.1 hn
  obtain ⟨b1, b2, b3⟩ := bT_5 e1 (Nat.lt_succ_self N) kN
  rw [lN, show ((o m : Int)).toNat = o m from rfl, (e2 (o m) (by omega) 2).1] at b1
  rw [lN, show ((o m : Int)).toNat = o m from rfl, (e2 (o m) (by omega) 2).2] at b2
  rw [smw] at h7 h10
  have hb : (bT (upF K N 5) (upF L N (o m : Int)) (upF R N 0) N).length ≤ w m + 1 := by
    rw [b1, List.length_append, List.length_singleton]
    omega
  refine ⟨hB'.add (Nat.le_refl _) (by omega) hm hn ⟨fun y => absurd y (by decide), fun _ => ⟨rfl, by omega, by omega⟩, fun y => absurd y (by decide)⟩ (by omega) (by omega) hb (by rw [b2]; exact h10), hm, by rw [ups_at], ?_⟩
  rw [ups_at, ups_at, tx_ne (by rw [kN]; decide)]
  exact hb
theorem PQ.then {p a k m N : Nat} {s : Nat → Int} {o : Nat → Nat} {K L R : FN} {w : Nat → Nat} (h : PQ p a (k + 1) (m + 1) N s o K L R w 2) (hs : s k = 59) : PQ p a k m (N + 1) s (ups o m N) (upF K N 6) (upF L N (o m : Int)) (upF R N (o (m + 1) : Int)) (ups w m (w m + 1 + w (m + 1))) 1 := by
  obtain ⟨hB, hm, ho, ht⟩ := h
  have kN : upF K N 6 N = 6 := upF_at
  have lN : upF L N (o m : Int) N = (o m : Int) := upF_at
  have rN : upF R N (o (m + 1) : Int) N = (o (m + 1) : Int) := upF_at
  have hB' := hB
  obtain ⟨h1, h2, h5, h6, h7, h8, h9, h10⟩ := hB
  have o0 := h5 m (by omega)
  have hn : Wf1 (upF K N 6) (upF L N (o m : Int)) (upF R N (o (m + 1) : Int)) N := by
    unfold Wf1
    rw [kN, lN, rN]
    omega
  obtain ⟨e1, e2⟩ := ext1 h2.1 hn
  obtain ⟨b1, b2, b3⟩ := bT_6 e1 (Nat.lt_succ_self N) kN
  rw [lN, rN, show ((o m : Int)).toNat = o m from rfl, show ((o (m + 1) : Int)).toNat = o (m + 1) from rfl, (e2 (o m) (by omega) 1).1, (e2 (o (m + 1)) (by omega) 2).1] at b1
  rw [lN, rN, show ((o m : Int)).toNat = o m from rfl, show ((o (m + 1) : Int)).toNat = o (m + 1) from rfl, (e2 (o m) (by omega) 1).2, (e2 (o (m + 1)) (by omega) 2).2] at b2
  rw [smw, smw] at h7 h10
  have ms := nsg_n (s := s) (k := k) (by omega)
  have mk : m = nsg s k := by omega
  have l1 := h9 k (by omega) hs
  rw [← mk] at l1
  have hb : (bT (upF K N 6) (upF L N (o m : Int)) (upF R N (o (m + 1) : Int)) N).length ≤ w m + 1 + w (m + 1) := by
    rw [b1, List.length_append, List.length_append, List.length_singleton]
    omega
  refine ⟨hB'.add (by omega) (by omega) mk hn ⟨fun y => absurd y (by decide), fun y => absurd y (by decide), fun _ => rfl⟩ (by omega) (by omega) hb (by rw [b2]; show _ + (lv K L R (o m) + lv K L R (o (m + 1))) ≤ a; have : smw (fun i => lv K L R (o i)) m + lv K L R (o m) + lv K L R (o (m + 1)) ≤ a := h10; omega), mk, by rw [ups_at], ?_⟩
  rw [ups_at, ups_at, tx_ne (by rw [kN]; decide)]
  exact hb
theorem PQ.either {p a k m N : Nat} {s : Nat → Int} {o : Nat → Nat} {K L R : FN} {w : Nat → Nat} {tl : Int} (h : PQ p a (k + 1) (m + 1) N s o K L R w tl) (htl : tl = 1 ∨ tl = 2) (hs : s k = 43) : PQ p a k m (N + 1) s (ups o m N) (upF K N 7) (upF L N (o m : Int)) (upF R N (o (m + 1) : Int)) (ups w m (w m + 1 + w (m + 1))) 0 := by
  obtain ⟨hB, hm, ho, ht⟩ := h
  have kN : upF K N 7 N = 7 := upF_at
  have lN : upF L N (o m : Int) N = (o m : Int) := upF_at
  have rN : upF R N (o (m + 1) : Int) N = (o (m + 1) : Int) := upF_at
  have hB' := hB
  obtain ⟨h1, h2, h5, h6, h7, h8, h9, h10⟩ := hB
  have o0 := h5 m (by omega)
  have hn : Wf1 (upF K N 7) (upF L N (o m : Int)) (upF R N (o (m + 1) : Int)) N := by
    unfold Wf1
    rw [kN, lN, rN]
    omega
  obtain ⟨e1, e2⟩ := ext1 h2.1 hn
  obtain ⟨b1, b2, b3⟩ := bT_7 e1 (Nat.lt_succ_self N) kN
  have bl : bT (upF K N 7) (upF L N (o m : Int)) (upF R N (o (m + 1) : Int)) (o m) = bT K L R (o m) := by rw [← tZ_0, (e2 (o m) (by omega) 0).1, tZ_0]
  rw [lN, rN, show ((o m : Int)).toNat = o m from rfl, show ((o (m + 1) : Int)).toNat = o (m + 1) from rfl, bl, (e2 (o (m + 1)) (by omega) 1).1] at b1
  rw [lN, rN, show ((o m : Int)).toNat = o m from rfl, show ((o (m + 1) : Int)).toNat = o (m + 1) from rfl, (e2 (o m) (by omega) 1).2, (e2 (o (m + 1)) (by omega) 2).2] at b2
  rw [smw, smw] at h7 h10
  have ms := nsg_n (s := s) (k := k) (by omega)
  have mk : m = nsg s k := by omega
  have l0 := h8 m (by omega)
  have l1 : (tx K L R 1 (o (m + 1))).length ≤ w (m + 1) := by
    rcases htl with e | e
    · rw [e] at ht
      exact ht
    · rw [e] at ht
      by_cases z : bnd (K (o (m + 1))) < 1
      · have : tx K L R 1 (o (m + 1)) = tx K L R 2 (o (m + 1)) := by
          unfold tx brk
          rw [if_pos z, if_pos (by omega)]
        rw [this]
        exact ht
      · rw [tx_ne z]
        exact Nat.le_trans (tx_len K L R 2 (o (m + 1))).1 ht
  have hb : (bT (upF K N 7) (upF L N (o m : Int)) (upF R N (o (m + 1) : Int)) N).length ≤ w m + 1 + w (m + 1) := by
    rw [b1, List.length_append, List.length_append, List.length_singleton]
    omega
  refine ⟨hB'.add (by omega) (by omega) mk hn ⟨fun y => absurd y (by decide), fun y => absurd y (by decide), fun _ => rfl⟩ (by omega) (by omega) hb (by rw [b2]; show _ + (lv K L R (o m) + lv K L R (o (m + 1))) ≤ a; have : smw (fun i => lv K L R (o i)) m + lv K L R (o m) + lv K L R (o (m + 1)) ≤ a := h10; omega), mk, by rw [ups_at], ?_⟩
  rw [ups_at, ups_at, tZ_0]
  exact hb
theorem PQ.sign {p a k m N : Nat} {s : Nat → Int} {o : Nat → Nat} {K L R : FN} {w : Nat → Nat} {tl x : Int} (h : PQ p a k m N s o K L R w tl) (hx : x = 43 ∨ (x = 59 ∧ (tl = 1 ∨ tl = 2))) (ht : ∀ j, j + 1 = k → (s j = 59 → x = 40) ∧ (s j = 43 → x = 40 ∨ x = 59)) : PA (p + 1) a (k + 1) (m + 1) N (upS s k x) o K L R w := by
  obtain ⟨⟨h1, h2, h5, h6, h7, h8, h9, h10⟩, hm, ho, hl⟩ := h
  have u := nsg_up (s := s) (k := k) (x := x)
  have y := nsg_n (s := upS s k x) (k := k) (by rw [upS_at]; omega)
  refine ⟨⟨h1.push (by omega) ht, h2, h5, by omega, by omega, h8, fun j hj h59 => ?_, h10⟩, by omega⟩
  rw [(nsg_cg (s := upS s k x) (s' := s) (k := j) (fun i hi => upS_ne (by omega))).1]
  by_cases e : j = k
  · rw [e, upS_at] at h59
    rw [e, ← hm]
    rcases hx with hx | ⟨_, e1 | e1⟩
    · omega
    · rw [e1] at hl
      exact hl
    · rw [e1] at hl
      by_cases z : bnd (K (o m)) < 1
      · have : tx K L R 1 (o m) = tx K L R 2 (o m) := by
          unfold tx brk
          rw [if_pos z, if_pos (by omega)]
        rw [this]
        exact hl
      · rw [tx_ne z]
        exact Nat.le_trans (tx_len K L R 2 (o m)).1 hl
  · rw [upS_ne e] at h59
    exact h9 j (by omega) h59
theorem PQ.close {p a k m N : Nat} {s : Nat → Int} {o : Nat → Nat} {K L R : FN} {w : Nat → Nat} {tl : Int} (h : PQ p a (k + 1) m N s o K L R w tl) (hs : s k = 40) : PQ (p + 1) a k m N s o K L R (ups w m (w m + 2)) 2 := by
  obtain ⟨⟨h1, h2, h5, h6, h7, h8, h9, h10⟩, hm, ho, hl⟩ := h
  have y := nsg_y hs
  rw [smw] at h7
  refine ⟨⟨h1.less (by omega), h2, h5, by omega, ?_, fun i hi => ?_, fun j hj h59 => ?_, h10⟩, by omega, ho, ?_⟩
  · rw [smw, ups_at, smw_cg (w' := w) (fun i hi => ups_ne (by omega))]
    omega
  · by_cases e : i = m
    · rw [e, ups_at]
      have := h8 m (by omega)
      omega
    · rw [ups_ne e]
      exact h8 i hi
  · have lt := nsg_lt (s := s) hj (by omega)
    rw [ups_ne (by omega)]
    exact h9 j (by omega) h59
  · rw [ups_at]
    have a1 := (tx_len K L R 2 (o m)).2
    have a2 := h8 m (by omega)
    omega
