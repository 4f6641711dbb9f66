/-! trees as rows of nodes, and their texts -/
abbrev FN : Type := Nat → Int
/-- rows of nodes: each joins nodes before it -/
def Wf1 (K L R : FN) (k : Nat) : Prop := ((K k = 0 ∨ K k = 1) ∧ L k = 0 ∧ R k = 0) ∨ ((2 ≤ K k ∧ K k ≤ 4) ∧ (0 ≤ L k ∧ L k ≤ 3) ∧ (0 ≤ R k ∧ R k ≤ 7 ∧ (L k = 3 ∨ R k < 4))) ∨ (K k = 5 ∧ (0 ≤ L k ∧ L k < k) ∧ R k = 0) ∨ ((K k = 6 ∨ K k = 7) ∧ (0 ≤ L k ∧ L k < k) ∧ (0 ≤ R k ∧ R k < k))
def Wf (K L R : FN) (N : Nat) : Prop := ∀ k, k < N → Wf1 K L R k
def bnd (k : Int) : Int := if k = 7 then 0 else if k = 6 then 1 else 2
def aTx (k l r : Int) : List Int := if k = 0 then [48] else if k = 1 then [49] else (if k = 3 then [33] else []) ++ ((if l = 3 then [97, 116] else [97 + l]) ++ ([if k = 4 then 58 else 61] ++ [48 + r]))
def brk (k a : Int) (s : List Int) : List Int := if bnd k < a then [40] ++ (s ++ [41]) else s
def bTx (K L R : FN) : Nat → Nat → List Int
  | 0, _ => []
  | n + 1, k => if K k = 7 then bTx K L R n (L k).toNat ++ ([43] ++ brk (K (R k).toNat) 1 (bTx K L R n (R k).toNat)) else if K k = 6 then brk (K (L k).toNat) 1 (bTx K L R n (L k).toNat) ++ ([59] ++ brk (K (R k).toNat) 2 (bTx K L R n (R k).toNat)) else if K k = 5 then brk (K (L k).toNat) 2 (bTx K L R n (L k).toNat) ++ [42] else aTx (K k) (L k) (R k)
def lvx (K L R : FN) : Nat → Nat → Nat
  | 0, _ => 0
  | n + 1, k => if K k = 7 ∨ K k = 6 then lvx K L R n (L k).toNat + lvx K L R n (R k).toNat else if K k = 5 then lvx K L R n (L k).toNat else 1
/-- the text of a node -/
def bT (K L R : FN) (k : Nat) : List Int := bTx K L R (k + 1) k
/-- how many atoms -/
def lv (K L R : FN) (k : Nat) : Nat := lvx K L R (k + 1) k
theorem bTx_s (K L R : FN) (n k : Nat) : bTx K L R (n + 1) k = if K k = 7 then bTx K L R n (L k).toNat ++ ([43] ++ brk (K (R k).toNat) 1 (bTx K L R n (R k).toNat)) else if K k = 6 then brk (K (L k).toNat) 1 (bTx K L R n (L k).toNat) ++ ([59] ++ brk (K (R k).toNat) 2 (bTx K L R n (R k).toNat)) else if K k = 5 then brk (K (L k).toNat) 2 (bTx K L R n (L k).toNat) ++ [42] else aTx (K k) (L k) (R k) := rfl
theorem lvx_s (K L R : FN) (n k : Nat) : lvx K L R (n + 1) k = if K k = 7 ∨ K k = 6 then lvx K L R n (L k).toNat + lvx K L R n (R k).toNat else if K k = 5 then lvx K L R n (L k).toNat else 1 := rfl
/-- rows that are alike up to a node have the same text there -/
theorem tx_cong {K L R K' L' R' : FN} : ∀ (k n m : Nat), k < n → k < m → (∀ j, j ≤ k → Wf1 K L R j ∧ K' j = K j ∧ L' j = L j ∧ R' j = R j) → bTx K' L' R' n k = bTx K L R m k ∧ lvx K' L' R' n k = lvx K L R m k := by
  intro k
  induction k using Nat.strongRecOn with
  | ind k ih =>
    intro n m hn hm h
    obtain ⟨n, rfl⟩ : ∃ x, n = x + 1 := ⟨n - 1, by omega⟩
    obtain ⟨m, rfl⟩ : ∃ x, m = x + 1 := ⟨m - 1, by omega⟩
    obtain ⟨w, e1, e2, e3⟩ := h k (Nat.le_refl _)
    rw [bTx_s, bTx_s, lvx_s, lvx_s, e1, e2, e3]
    have sub : ∀ c : Int, 0 ≤ c → c < k → (bTx K' L' R' n c.toNat = bTx K L R m c.toNat ∧ lvx K' L' R' n c.toNat = lvx K L R m c.toNat) ∧ K' c.toNat = K c.toNat := fun c h1 h2 => ⟨ih c.toNat (by omega) n m (by omega) (by omega) (fun j hj => h j (by omega)), (h c.toNat (by omega)).2.1⟩
    rcases w with ⟨w1, w2, w3⟩ | ⟨w1, w2, w3⟩ | ⟨w1, w2, w3⟩ | ⟨w1, w2, w3⟩
    · rw [if_neg (by omega), if_neg (by omega), if_neg (by omega), if_neg (by omega), if_neg (by omega), if_neg (by omega), if_neg (by omega), if_neg (by omega), if_neg (by omega), if_neg (by omega)]
      exact ⟨rfl, rfl⟩
    · rw [if_neg (by omega), if_neg (by omega), if_neg (by omega), if_neg (by omega), if_neg (by omega), if_neg (by omega), if_neg (by omega), if_neg (by omega), if_neg (by omega), if_neg (by omega)]
      exact ⟨rfl, rfl⟩
    · obtain ⟨⟨a1, a2⟩, a3⟩ := sub _ w2.1 w2.2
      obtain ⟨⟨b1, b2⟩, b3⟩ := sub (R k) (by omega) (by omega)
      rw [a1, a2, a3, b1, b2, b3]
      exact ⟨rfl, rfl⟩
    · obtain ⟨⟨a1, a2⟩, a3⟩ := sub _ w2.1 w2.2
      obtain ⟨⟨b1, b2⟩, b3⟩ := sub _ w3.1 w3.2
      rw [a1, a2, a3, b1, b2, b3]
      exact ⟨rfl, rfl⟩
theorem bT_cong {K L R K' L' R' : FN} {k : Nat} (h : ∀ j, j ≤ k → Wf1 K L R j ∧ K' j = K j ∧ L' j = L j ∧ R' j = R j) : bT K' L' R' k = bT K L R k ∧ lv K' L' R' k = lv K L R k := tx_cong k (k + 1) (k + 1) (by omega) (by omega) h
theorem bT_fuel {K L R : FN} {N : Nat} (h : Wf K L R N) {k n : Nat} (hk : k < N) (hn : k < n) : bTx K L R n k = bT K L R k ∧ lvx K L R n k = lv K L R k := tx_cong k n (k + 1) hn (by omega) fun j hj => ⟨h j (by omega), rfl, rfl, rfl⟩
def tx (K L R : FN) (a : Int) (k : Nat) : List Int := brk (K k) a (bT K L R k)
theorem bT_7 {K L R : FN} {N : Nat} (h : Wf K L R N) {k : Nat} (hk : k < N) (e : K k = 7) : bT K L R k = bT K L R (L k).toNat ++ ([43] ++ tx K L R 1 (R k).toNat) ∧ lv K L R k = lv K L R (L k).toNat + lv K L R (R k).toNat ∧ (0 ≤ L k ∧ L k < k) ∧ (0 ≤ R k ∧ R k < k) := by
  have w := h k hk
  unfold Wf1 at w
  have c1 := bT_fuel h (k := (L k).toNat) (n := k) (by omega) (by omega)
  have c2 := bT_fuel h (k := (R k).toNat) (n := k) (by omega) (by omega)
  unfold tx bT lv
  rw [bTx_s, if_pos e, lvx_s, if_pos (Or.inl e), c1.1, c1.2, c2.1, c2.2]
  exact ⟨rfl, rfl, by omega, by omega⟩
theorem bT_6 {K L R : FN} {N : Nat} (h : Wf K L R N) {k : Nat} (hk : k < N) (e : K k = 6) : bT K L R k = tx K L R 1 (L k).toNat ++ ([59] ++ tx K L R 2 (R k).toNat) ∧ lv K L R k = lv K L R (L k).toNat + lv K L R (R k).toNat ∧ (0 ≤ L k ∧ L k < k) ∧ (0 ≤ R k ∧ R k < k) := by
  have w := h k hk
  unfold Wf1 at w
  have c1 := bT_fuel h (k := (L k).toNat) (n := k) (by omega) (by omega)
  have c2 := bT_fuel h (k := (R k).toNat) (n := k) (by omega) (by omega)
  unfold tx bT lv
  rw [bTx_s, if_neg (by omega), if_pos e, lvx_s, if_pos (Or.inr e), c1.1, c1.2, c2.1, c2.2]
  exact ⟨rfl, rfl, by omega, by omega⟩
theorem bT_5 {K L R : FN} {N : Nat} (h : Wf K L R N) {k : Nat} (hk : k < N) (e : K k = 5) : bT K L R k = tx K L R 2 (L k).toNat ++ [42] ∧ lv K L R k = lv K L R (L k).toNat ∧ (0 ≤ L k ∧ L k < k) := by
  have w := h k hk
  unfold Wf1 at w
  have c1 := bT_fuel h (k := (L k).toNat) (n := k) (by omega) (by omega)
  unfold tx bT lv
  rw [bTx_s, if_neg (by omega), if_neg (by omega), if_pos e, lvx_s, if_neg (by omega), if_pos e, c1.1, c1.2]
  exact ⟨rfl, rfl, by omega⟩
theorem bT_a {K L R : FN} {k : Nat} (e : K k ≤ 4) : bT K L R k = aTx (K k) (L k) (R k) ∧ lv K L R k = 1 := by
  unfold bT lv
  rw [bTx_s, if_neg (by omega), if_neg (by omega), if_neg (by omega), lvx_s, if_neg (by omega), if_neg (by omega)]
  exact ⟨rfl, rfl⟩
theorem aTx_len (k l r : Int) : 1 ≤ (aTx k l r).length ∧ ((2 ≤ k ∧ k ≤ 4) → 3 ≤ (aTx k l r).length) := by
  unfold aTx
  by_cases h0 : k = 0
  · rw [if_pos h0]
    exact ⟨by decide, fun z => by omega⟩
  · rw [if_neg h0]
    by_cases h1 : k = 1
    · rw [if_pos h1]
      exact ⟨by decide, fun z => by omega⟩
    · rw [if_neg h1]
      simp only [List.length_append, List.length_singleton]
      have : 1 ≤ (if l = 3 then [97, 116] else [97 + l]).length := by split <;> simp
      exact ⟨by omega, fun _ => by omega⟩
theorem brk_len (k a : Int) (s : List Int) : s.length ≤ (brk k a s).length ∧ (brk k a s).length ≤ s.length + 2 := by
  unfold brk
  split
  · simp only [List.length_append, List.length_singleton]
    omega
  · omega
theorem tx_len (K L R : FN) (a : Int) (k : Nat) : (bT K L R k).length ≤ (tx K L R a k).length ∧ (tx K L R a k).length ≤ (bT K L R k).length + 2 := brk_len _ _ _
/-- texts and atoms are never none -/
theorem bT_pos {K L R : FN} {N : Nat} (h : Wf K L R N) : ∀ k, k < N → 1 ≤ (bT K L R k).length ∧ 1 ≤ lv K L R k := by
  intro k
  induction k using Nat.strongRecOn with
  | ind k ih =>
    intro hk
    have w := h k hk
    by_cases h7 : K k = 7
    · obtain ⟨e1, e2, e3, e4⟩ := bT_7 h hk h7
      have a := ih (L k).toNat (by omega) (by omega)
      rw [e1, e2]
      simp only [List.length_append]
      omega
    · by_cases h6 : K k = 6
      · obtain ⟨e1, e2, e3, e4⟩ := bT_6 h hk h6
        have a := ih (L k).toNat (by omega) (by omega)
        rw [e1, e2]
        simp only [List.length_append, List.length_singleton]
        omega
      · by_cases h5 : K k = 5
        · obtain ⟨e1, e2, e3⟩ := bT_5 h hk h5
          have a := ih (L k).toNat (by omega) (by omega)
          rw [e1, e2]
          simp only [List.length_append, List.length_singleton]
          omega
        · unfold Wf1 at w
          obtain ⟨e1, e2⟩ := bT_a (K := K) (L := L) (R := R) (k := k) (by omega)
          rw [e1, e2]
          exact ⟨(aTx_len _ _ _).1, by omega⟩
/-- what a row of nodes holds -/
abbrev TS : Type := Nat × FN × FN × FN
def mch (z : TS) (k l r : Int) (i : Nat) : Prop := z.2.1 i = k ∧ z.2.2.1 i = l ∧ z.2.2.2 i = r
/-- the first node that is alike -/
def fnd (z : TS) (k l r : Int) : Nat → Nat
  | 0 => 0
  | n + 1 => if fnd z k l r n < n then fnd z k l r n else if z.2.1 n = k ∧ z.2.2.1 n = l ∧ z.2.2.2 n = r then n else n + 1
theorem fnd_spec (z : TS) (k l r : Int) : ∀ n, fnd z k l r n ≤ n ∧ (∀ j, j < fnd z k l r n → ¬ mch z k l r j) ∧ (fnd z k l r n < n → mch z k l r (fnd z k l r n))
  | 0 => ⟨Nat.le_refl _, fun j hj => absurd hj (Nat.not_lt_zero j), fun h => absurd h (Nat.lt_irrefl 0)⟩
  | n + 1 => by
    obtain ⟨a1, a2, a3⟩ := fnd_spec z k l r n
    unfold fnd
    by_cases h : fnd z k l r n < n
    · rw [if_pos h]
      exact ⟨by omega, a2, fun _ => a3 h⟩
    · rw [if_neg h]
      have e : fnd z k l r n = n := by omega
      by_cases m : z.2.1 n = k ∧ z.2.2.1 n = l ∧ z.2.2.2 n = r
      · rw [if_pos m]
        exact ⟨by omega, fun j hj => a2 j (by omega), fun _ => m⟩
      · rw [if_neg m]
        refine ⟨by omega, fun j hj => ?_, fun h => by omega⟩
        by_cases y : j = n
        · subst y; exact m
        · exact a2 j (by omega)
def upN (h : FN) (n : Nat) (v : Int) : FN := fun k => if k = n then v else h k
/-- found, or put behind -/
def fa (z : TS) (k l r : Int) : TS × Nat := if fnd z k l r z.1 < z.1 then (z, fnd z k l r z.1) else ((z.1 + 1, upN z.2.1 z.1 k, upN z.2.2.1 z.1 l, upN z.2.2.2 z.1 r), z.1)
def tStar (b : Bool) (z : TS) (s : Nat) : TS × Nat := if b = true ∧ (z.2.1 s = 0 ∨ z.2.1 s = 1) then fa z 1 0 0 else if b = true ∧ z.2.1 s = 5 then (z, s) else fa z 5 s 0
def tEither (b : Bool) (z : TS) (s t : Nat) : TS × Nat := if b = true ∧ (s = t ∨ z.2.1 t = 0) then (z, s) else if b = true ∧ z.2.1 s = 0 then (z, t) else fa z 7 s t
def pln (k : Int) : Prop := k = 2 ∨ k = 4
def tThen (b : Bool) (z : TS) (s t : Nat) : TS × Nat := if b = false then fa z 6 s t else if z.2.1 s = 0 ∨ z.2.1 t = 1 then (z, s) else if z.2.1 s = 1 ∨ z.2.1 t = 0 then (z, t) else if (z.2.1 s = 2 ∨ z.2.1 s = 4) ∧ (z.2.1 t = 2 ∨ z.2.1 t = 4) ∧ z.2.2.1 s = z.2.2.1 t then (if z.2.1 t = 2 then (if z.2.2.2 s = z.2.2.2 t then (z, s) else fa z 0 0 0) else if z.2.1 s = 4 then (z, t) else if z.2.2.2 s = z.2.2.2 t then (z, s) else fa z 6 s t) else fa z 6 s t
def tNode (b : Bool) (z : TS) (m : Nat → Nat) (k l r : Int) : TS × Nat := if k = 5 then tStar b z (m l.toNat) else if k = 7 then tEither b z (m l.toNat) (m r.toNat) else if k = 6 then tThen b z (m l.toNat) (m r.toNat) else fa z k l r
def tRun (b : Bool) (K L R : FN) : Nat → TS × (Nat → Nat)
  | 0 => ((0, fun _ => 0, fun _ => 0, fun _ => 0), fun _ => 0)
  | i + 1 => ((tNode b (tRun b K L R i).1 (tRun b K L R i).2 (K i) (L i) (R i)).1, fun j => if j = i then (tNode b (tRun b K L R i).1 (tRun b K L R i).2 (K i) (L i) (R i)).2 else (tRun b K L R i).2 j)
def WfZ (z : TS) : Prop := Wf z.2.1 z.2.2.1 z.2.2.2 z.1
def tZ (z : TS) (a : Int) (k : Nat) : List Int := tx z.2.1 z.2.2.1 z.2.2.2 a k
def lZ (z : TS) (k : Nat) : Nat := lv z.2.1 z.2.2.1 z.2.2.2 k
/-- more nodes behind the old ones -/
def Mre (z z' : TS) : Prop := z.1 ≤ z'.1 ∧ z'.1 ≤ z.1 + 1 ∧ ∀ j, j < z.1 → z'.2.1 j = z.2.1 j ∧ z'.2.2.1 j = z.2.2.1 j ∧ z'.2.2.2 j = z.2.2.2 j
theorem Mre.tx {z z' : TS} (h : Mre z z') (hw : WfZ z) {k : Nat} (hk : k < z.1) (a : Int) : tZ z' a k = tZ z a k ∧ lZ z' k = lZ z k := by
  obtain ⟨e1, e2⟩ := bT_cong (K := z.2.1) (L := z.2.2.1) (R := z.2.2.2) (K' := z'.2.1) (L' := z'.2.2.1) (R' := z'.2.2.2) (k := k) fun j hj => ⟨hw j (by omega), h.2.2 j (by omega)⟩
  unfold tZ lZ
  exact ⟨by show brk _ _ _ = brk _ _ _; rw [e1, (h.2.2 k hk).1], e2⟩
theorem Mre.rfl' {z : TS} : Mre z z := ⟨Nat.le_refl _, Nat.le_succ _, fun _ _ => ⟨rfl, rfl, rfl⟩⟩
/-- a node that is found or put behind: it is what was asked for -/
theorem fa_spec {z : TS} {k l r : Int} (hw : WfZ z) (hn : Wf1 (upN z.2.1 z.1 k) (upN z.2.2.1 z.1 l) (upN z.2.2.2 z.1 r) z.1) : Mre z (fa z k l r).1 ∧ WfZ (fa z k l r).1 ∧ (fa z k l r).2 < (fa z k l r).1.1 ∧ (fa z k l r).1.2.1 (fa z k l r).2 = k ∧ (fa z k l r).1.2.2.1 (fa z k l r).2 = l ∧ (fa z k l r).1.2.2.2 (fa z k l r).2 = r := by
  obtain ⟨a1, a2, a3⟩ := fnd_spec z k l r z.1
  unfold fa
  by_cases h : fnd z k l r z.1 < z.1
  · rw [if_pos h]
    exact ⟨Mre.rfl', hw, h, a3 h⟩
  · rw [if_neg h]
    refine ⟨⟨Nat.le_succ _, Nat.le_refl _, fun j hj => ?_⟩, fun j hj => ?_, Nat.lt_succ_self _, if_pos rfl, if_pos rfl, if_pos rfl⟩
    · show upN z.2.1 z.1 k j = _ ∧ upN z.2.2.1 z.1 l j = _ ∧ upN z.2.2.2 z.1 r j = _
      unfold upN
      rw [if_neg (by omega), if_neg (by omega), if_neg (by omega)]
      exact ⟨rfl, rfl, rfl⟩
    · by_cases y : j = z.1
      · subst y; exact hn
      · have hj : j < z.1 + 1 := hj
        have := hw j (by omega)
        show Wf1 (upN z.2.1 z.1 k) (upN z.2.2.1 z.1 l) (upN z.2.2.2 z.1 r) j
        unfold Wf1 upN at *
        rw [if_neg y, if_neg y, if_neg y]
        exact this
