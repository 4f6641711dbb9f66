/-! ways: a function of packets gone on and on -/
theorem fb_holes : ∀ (m n : Nat) (f : Nat → Nat), (∀ i, i < n → f i < m) → (∀ i j, i < j → j < n → f i ≠ f j) → n ≤ m := by
  intro m
  induction m with
  | zero =>
    intro n f h1 _
    rcases Nat.eq_zero_or_pos n with h | h
    · omega
    · exact absurd (h1 0 h) (Nat.not_lt_zero _)
  | succ m ih =>
    intro n f h1 h2
    by_cases hx : ∃ i, i < n ∧ f i = m
    · obtain ⟨a, ha, hfa⟩ := hx
      have hg := ih (n - 1) (fun i => if i < a then f i else f (i + 1)) (by
        intro i hi
        by_cases q : i < a
        · simp only [if_pos q]
          have b1 := h1 i (by omega)
          have b2 := h2 i a q ha
          omega
        · simp only [if_neg q]
          have b1 := h1 (i + 1) (by omega)
          have b2 := h2 a (i + 1) (by omega) (by omega)
          omega) (by
        intro i j hij hj
        by_cases q : i < a
        · by_cases r : j < a
          · simp only [if_pos q, if_pos r]
            exact h2 i j hij (by omega)
          · simp only [if_pos q, if_neg r]
            exact h2 i (j + 1) (by omega) (by omega)
        · have r : ¬ j < a := by omega
          simp only [if_neg q, if_neg r]
          exact h2 (i + 1) (j + 1) (by omega) (by omega))
      omega
    · have hg := ih n f (fun i hi => by
        have b1 := h1 i hi
        have b2 : f i ≠ m := fun e => hx ⟨i, hi, e⟩
        omega) h2
      omega
/-- two of them in one place -/
theorem fb_twice {m n : Nat} {f : Nat → Nat} (h : ∀ i, i < n → f i < m) (hm : m < n) : ∃ i j, i < j ∧ j < n ∧ f i = f j := by
  refine Classical.byContradiction fun hx => ?_
  have := fb_holes m n f h (fun i j hij hj e => hx ⟨i, j, hij, hj, e⟩)
  omega
/-- as many as places, none twice: each place is taken -/
theorem fb_onto {n : Nat} {f : Nat → Nat} (h : ∀ i, i < n → f i < n) (h2 : ∀ i j, i < j → j < n → f i ≠ f j) {y : Nat} (hy : y < n) : ∃ i, i < n ∧ f i = y := by
  refine Classical.byContradiction fun hx => ?_
  have hne : ∀ i, i < n → f i ≠ y := fun i hi e => hx ⟨i, hi, e⟩
  have := fb_holes (n - 1) n (fun i => if f i < y then f i else f i - 1) (by
    intro i hi
    have b1 := h i hi
    have b2 := hne i hi
    by_cases q : f i < y
    · simp only [if_pos q]; omega
    · simp only [if_neg q]; omega) (by
    intro i j hij hj
    have b1 := hne i (by omega)
    have b2 := hne j hj
    have b3 := h2 i j hij hj
    by_cases q : f i < y
    · by_cases r : f j < y
      · simp only [if_pos q, if_pos r]; exact b3
      · simp only [if_pos q, if_neg r]; omega
    · by_cases r : f j < y
      · simp only [if_neg q, if_pos r]; omega
      · simp only [if_neg q, if_neg r]; omega)
  omega
abbrev pk (x : Int) : Prop := 0 ≤ x ∧ x < 512
def itr (G : Int → Int) (p : Int) : Nat → Int
  | 0 => p
  | k + 1 => if pk (itr G p k) then G (itr G p k) else itr G p k
theorem itr_s {G : Int → Int} {p : Int} {k : Nat} (h : pk (itr G p k)) : itr G p (k + 1) = G (itr G p k) := if_pos h
theorem itr_o {G : Int → Int} {p : Int} {k : Nat} (h : ¬ pk (itr G p k)) : ∀ j, itr G p (k + j) = itr G p k
  | 0 => rfl
  | j + 1 => by
    have ih := itr_o h j
    show (if pk (itr G p (k + j)) then _ else itr G p (k + j)) = _
    rw [ih, if_neg h]
theorem itr_cong {G G' : Int → Int} {p : Int} (h : ∀ q, pk q → G q = G' q) : ∀ k, itr G p k = itr G' p k
  | 0 => rfl
  | k + 1 => by
    rw [itr, itr, itr_cong h k]
    split
    · rename_i q
      exact h _ q
    · rfl
theorem itr_pre {G : Int → Int} {p : Int} {k j : Nat} (h : pk (itr G p k)) (hj : j ≤ k) : pk (itr G p j) := Decidable.byContradiction fun q => by
  have := itr_o q (k - j)
  rw [show j + (k - j) = k by omega] at this
  rw [this] at h
  exact q h
theorem itr_add {G : Int → Int} {p : Int} (i : Nat) : ∀ j, itr G p (i + j) = itr G (itr G p i) j
  | 0 => rfl
  | j + 1 => by
    show (if pk (itr G p (i + j)) then G (itr G p (i + j)) else itr G p (i + j)) = _
    rw [itr_add i j]
    rfl
/-- once it comes again it goes on for ever -/
theorem itr_rep {G : Int → Int} {p : Int} {i j : Nat} (hij : i < j) (hp : pk (itr G p j)) (e : itr G p i = itr G p j) : ∀ k, pk (itr G p k) := by
  have sh : ∀ m, itr G p (j + m) = itr G p (i + m) := fun m => by rw [itr_add j, itr_add i, e]
  intro k
  induction k using Nat.strongRecOn with
  | _ k ih =>
    rcases Nat.lt_or_ge j k with q | q
    · have := sh (k - j)
      rw [show j + (k - j) = k by omega] at this
      rw [this]
      exact ih _ (by omega)
    · exact itr_pre hp q
def enD (G : Int → Int) (p : Int) : Int := if pk (itr G p 512) then -3 else endB_ (itr G p 512)
theorem itr_many {G : Int → Int} {p : Int} {n : Nat} (h : ∀ i, i < n → pk (itr G p i)) (hd : ∀ i j, i < j → j < n → itr G p i ≠ itr G p j) : n ≤ 512 :=
  fb_holes 512 n (fun i => (itr G p i).toNat) (fun i hi => by have := h i hi; show (itr G p i).toNat < 512; omega) (fun i j hij hj e => hd i j hij hj (by
    have a := h i (by omega)
    have b := h j hj
    have e : (itr G p i).toNat = (itr G p j).toNat := e
    omega))
theorem itr_512 {G : Int → Int} {p : Int} (h : pk (itr G p 512)) : ∀ k, pk (itr G p k) := by
  obtain ⟨i, j, hij, hj, e⟩ := fb_twice (m := 512) (n := 513) (f := fun i => (itr G p i).toNat) (fun i hi => by
    have := itr_pre h (show i ≤ 512 by omega)
    show (itr G p i).toNat < 512
    omega) (by decide)
  have a := itr_pre h (show i ≤ 512 by omega)
  have b := itr_pre h (show j ≤ 512 by omega)
  exact itr_rep hij b (by have e : (itr G p i).toNat = (itr G p j).toNat := e; omega)
theorem enD_out {G : Int → Int} {p : Int} {k : Nat} (h : ¬ pk (itr G p k)) : enD G p = endB_ (itr G p k) := by
  have h5 : ¬ pk (itr G p 512) := fun q => h (itr_512 q k)
  have : itr G p 512 = itr G p k := by
    rcases Nat.lt_or_ge k 512 with q | q
    · have := itr_o h (512 - k)
      rw [show k + (512 - k) = 512 by omega] at this
      exact this
    · have := itr_o h5 (k - 512)
      rw [show 512 + (k - 512) = k by omega] at this
      exact this.symm
  unfold enD
  rw [if_neg h5, this]
theorem enD_in {G : Int → Int} {p : Int} (h : pk (itr G p 512)) : enD G p = -3 := if_pos h
theorem enD_rep {G : Int → Int} {p : Int} {i j : Nat} (hij : i < j) (hp : pk (itr G p j)) (e : itr G p i = itr G p j) : enD G p = -3 := enD_in (itr_rep hij hp e 512)
theorem enD_cong {G G' : Int → Int} {p : Int} (h : ∀ q, pk q → G q = G' q) : enD G p = enD G' p := by
  unfold enD
  rw [itr_cong h]
/-- along the way the end is the same -/
theorem enD_itr {G : Int → Int} {p : Int} {k : Nat} (h : pk (itr G p k)) : enD G (itr G p k) = enD G p := by
  by_cases q : pk (itr G p 512)
  · rw [enD_in q, enD_in]
    rw [← itr_add]
    exact itr_512 q _
  · have h2 : ¬ pk (itr G (itr G p k) 512) := by
      rw [← itr_add, show k + 512 = 512 + k by omega, itr_o q]
      exact q
    rw [enD_out q, enD_out h2, ← itr_add, show k + 512 = 512 + k by omega, itr_o q]
/-- how far a way goes -/
def Wl (G : Int → Int) (p : Int) (n : Nat) : Prop := (∀ i, i < n → pk (itr G p i)) ∧ (∀ i j, i < j → j < n → itr G p i ≠ itr G p j) ∧ (¬ pk (itr G p n) ∨ ∃ i, i < n ∧ itr G p i = itr G p n)
theorem Wl.one {G : Int → Int} {p : Int} {n m : Nat} (h : Wl G p n) (h2 : Wl G p m) : n = m := by
  have lt : ∀ {n m : Nat}, Wl G p n → Wl G p m → ¬ n < m := fun {n m} a b q => by
    rcases a.2.2 with z | ⟨i, z1, z2⟩
    · exact z (b.1 n q)
    · exact b.2.1 i n z1 q z2
  have := lt h h2
  have := lt h2 h
  omega
theorem Wl.cong {G G' : Int → Int} {p : Int} {n : Nat} (h : ∀ q, pk q → G q = G' q) (hw : Wl G p n) : Wl G' p n := by
  refine ⟨fun i hi => by rw [← itr_cong h]; exact hw.1 i hi, fun i j hij hj => by rw [← itr_cong h, ← itr_cong h]; exact hw.2.1 i j hij hj, ?_⟩
  rcases hw.2.2 with z | ⟨i, z1, z2⟩
  · left
    rw [← itr_cong h]
    exact z
  · right
    exact ⟨i, z1, by rw [← itr_cong h, ← itr_cong h]; exact z2⟩
theorem enD_rg {G : Int → Int} {p : Int} (hp : pk p) (h : ∀ q, pk q → G q = -2 ∨ (0 ≤ G q ∧ G q < 1024)) : enD G p = -3 ∨ enD G p = -2 ∨ pk (enD G p) := by
  have r : ∀ k, itr G p k = -2 ∨ (0 ≤ itr G p k ∧ itr G p k < 1024) := by
    intro k
    induction k with
    | zero => right; show 0 ≤ p ∧ p < 1024; omega
    | succ k ih =>
      rw [itr]
      split
      · rename_i q
        exact h _ q
      · exact ih
  unfold enD
  split
  · left; rfl
  · rename_i q
    right
    have := r 512
    unfold endB_
    split
    · right
      omega
    · left; rfl
/-! the class's tables as one function of packets -/
def GB (f : FI) (g : FL) (B : Nat) (b p : Int) : Int := GT f g B (8 * (b / p2 (p / 64) % 2).toNat + (p / 64).toNat) p
def TCs (f : FI) (B : Nat) (nn : Nat → Nat) : Prop := ∀ t, t < 16 → TC f (tB B t) (nn t)
theorem ITb.tcs {f : FI} {B : Nat} {nn : Nat → Nat} (h : ITb f B nn) : TCs f B nn := fun t ht => (h t ht).1
def SameT (f f' : FI) (B : Nat) : Prop := ∀ a, B + 45 ≤ a → a < B + 141 → f' a = f a
theorem TCs.of {f f' : FI} {B : Nat} {nn : Nat → Nat} (h : TCs f B nn) (e : SameT f f' B) : TCs f' B nn := fun t ht =>
  (h t ht).of (by rw [e _ (by unfold tB; omega) (by unfold tB; omega)]) (e _ (by unfold tB; omega) (by unfold tB; omega)) (e _ (by unfold tB; omega) (by unfold tB; omega)) (e _ (by unfold tB; omega) (by unfold tB; omega)) (e _ (by unfold tB; omega) (by unfold tB; omega)) (e _ (by unfold tB; omega) (by unfold tB; omega))
theorem GT_of {f f' : FI} {g g' : FL} {B t : Nat} {p : Int} (ht : t < 16) (e : SameT f f' B) (eg : g' (B + 43) 1 = g (B + 43) 1) : GT f' g' B t p = GT f g B t p := by
  unfold GT
  rw [eg, e _ (by unfold tB; omega) (by unfold tB; omega)]
theorem GB_of {f f' : FI} {g g' : FL} {B : Nat} {b p : Int} (hp : pk p) (e : SameT f f' B) (eg : g' (B + 43) 1 = g (B + 43) 1) : GB f' g' B b p = GB f g B b p := GT_of (by omega) e eg
theorem GB_rg {f : FI} {g : FL} {B : Nat} {nn : Nat → Nat} (h : TCs f B nn) {b p : Int} (hp : pk p) : GB f g B b p = -2 ∨ (0 ≤ GB f g B b p ∧ GB f g B b p < 1024) :=
  stV_rg hp ((h _ (by omega)).deed (by omega))
theorem ITb.fr {f f' : FI} {B : Nat} {nn : Nat → Nat} (h : ITb f B nn) (e1 : SameT f f' B) (e2 : ∀ a, B + 165 + 18 ≤ a → a ≤ B + 165 + 21 → f' a = f a) : ITb f' B nn := fun t ht => by
  obtain ⟨tc, tm⟩ := h t ht
  refine ⟨(TCs.of (fun t ht => (h t ht).1) e1) t ht, tm.of (by rw [e2 _ (by omega) (by omega)]) (fun k _ => by rw [e2 _ (by omega) (by omega), e2 _ (by omega) (by omega), e2 _ (by omega) (by omega)]; exact ⟨rfl, rfl, rfl⟩) (fun k _ => by rw [e1 _ (by unfold tB; omega) (by unfold tB; omega), e1 _ (by unfold tB; omega) (by unfold tB; omega), e1 _ (by unfold tB; omega) (by unfold tB; omega)]; exact ⟨rfl, rfl, rfl⟩)⟩
theorem IL.fr {f f' : FI} {g g' : FL} {B : Nat} (h : IL f g B) (e1 : f' (B + 165 + 22) = f (B + 165 + 22)) (e2 : f' (B + 165) 34 = f (B + 165) 34) (eg : g' (B + 43) 1 = g (B + 43) 1) : IL f' g' B := by
  unfold IL at h ⊢
  rw [e1, e2, eg]
  exact h
/-- the row by which a packet goes there -/
def rcd (f : FI) (B : Nat) (b p : Int) : Int := if f (tB B (8 * (b / p2 (p / 64) % 2).toNat + (p / 64).toNat) + 4) (p % 64).toNat = -1 then -2 else 16 * (p / 64) + f (tB B (8 * (b / p2 (p / 64) % 2).toNat + (p / 64).toNat) + 4) (p % 64).toNat
theorem rcd_of {f f' : FI} {B : Nat} {b p : Int} (hp : pk p) (e : SameT f f' B) : rcd f' B b p = rcd f B b p := by
  unfold rcd
  rw [e _ (by unfold tB; omega) (by unfold tB; omega)]
/-! a bit set of packets in eight longs -/
theorem mark_bit {R : Nat → BitVec 64} {q : Nat} (hq : q < 512) {t : Nat} (ht : t < 512) : rb (fun i => if i = q / 64 then R (q / 64) ||| (1#64 <<< (q % 64)) else R i) t = (rb R t || decide (q = t)) := by
  unfold rb
  dsimp only
  by_cases h : t / 64 = q / 64
  · rw [if_pos h, orb (by omega), h]
    congr 1
    rw [decide_eq_decide]
    omega
  · rw [if_neg h]
    have : ¬ q = t := fun z => h (by rw [z])
    simp [this]
