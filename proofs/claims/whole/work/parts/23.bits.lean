/-! ===== how many places have a property ===== -/
def fb_ct (p : Nat → Bool) : Nat → Nat
  | 0 => 0
  | n + 1 => fb_ct p n + (if p n then 1 else 0)
theorem fb_ct_succ (p : Nat → Bool) (n : Nat) : fb_ct p (n + 1) = fb_ct p n + (if p n then 1 else 0) := rfl
theorem fb_ct_le (p : Nat → Bool) : ∀ n, fb_ct p n ≤ n
  | 0 => Nat.le_refl _
  | n + 1 => by
    have h := fb_ct_le p n
    rw [fb_ct_succ]
    split <;> omega
theorem fb_ct_step (p : Nat → Bool) (m : Nat) : ∀ n, fb_ct p m ≤ fb_ct p (m + n)
  | 0 => Nat.le_refl _
  | n + 1 => by
    have h := fb_ct_step p m n
    show fb_ct p m ≤ fb_ct p (m + n + 1)
    rw [fb_ct_succ]
    omega
theorem fb_ct_mono (p : Nat → Bool) {m n : Nat} (h : m ≤ n) : fb_ct p m ≤ fb_ct p n := by
  have := fb_ct_step p m (n - m)
  rwa [Nat.add_sub_cancel' h] at this
theorem fb_ct_cong {p q : Nat → Bool} : ∀ {n : Nat}, (∀ k, k < n → p k = q k) → fb_ct p n = fb_ct q n
  | 0, _ => rfl
  | n + 1, h => by
    rw [fb_ct_succ, fb_ct_succ, fb_ct_cong (fun k hk => h k (by omega)), h n (by omega)]
/-- one place changed -/
theorem fb_ct_out (p : Nat → Bool) (b : Bool) {i n : Nat} (h : n ≤ i) : fb_ct (fun k => if k = i then b else p k) n = fb_ct p n :=
  fb_ct_cong fun k hk => if_neg (by omega)
theorem fb_ct_upd (p : Nat → Bool) (b : Bool) {i : Nat} : ∀ {n : Nat}, i < n → fb_ct (fun k => if k = i then b else p k) n + (if p i then 1 else 0) = fb_ct p n + (if b then 1 else 0)
  | 0, h => absurd h (Nat.not_lt_zero i)
  | n + 1, h => by
    rw [fb_ct_succ, fb_ct_succ]
    rcases Nat.lt_or_ge i n with q | q
    · have := fb_ct_upd p b q
      have e : (if n = i then b else p n) = p n := if_neg (by omega)
      rw [e]
      omega
    · have e : i = n := by omega
      subst e
      rw [fb_ct_out p b (Nat.le_refl _)]
      simp only [if_true]
      omega
theorem fb_ct_sub {p q : Nat → Bool} : ∀ {n : Nat}, (∀ k, k < n → p k = true → q k = true) → fb_ct p n ≤ fb_ct q n
  | 0, _ => Nat.le_refl _
  | n + 1, h => by
    have h1 := fb_ct_sub (n := n) (p := p) (q := q) (fun k hk => h k (by omega))
    have h2 := h n (by omega)
    rw [fb_ct_succ, fb_ct_succ]
    cases hp : p n <;> cases hq : q n <;> simp_all <;> omega
theorem fb_ct_or {p q : Nat → Bool} : ∀ {n : Nat}, (∀ k, k < n → ¬ (p k = true ∧ q k = true)) → fb_ct (fun k => p k || q k) n = fb_ct p n + fb_ct q n
  | 0, _ => rfl
  | n + 1, h => by
    have h1 := fb_ct_or (n := n) (p := p) (q := q) (fun k hk => h k (by omega))
    have h2 := h n (by omega)
    rw [fb_ct_succ, fb_ct_succ, fb_ct_succ, h1]
    cases hp : p n <;> cases hq : q n <;> simp_all <;> omega
theorem fb_ct_not (p : Nat → Bool) : ∀ n, fb_ct p n + fb_ct (fun k => !p k) n = n
  | 0 => rfl
  | n + 1 => by
    have h := fb_ct_not p n
    rw [fb_ct_succ, fb_ct_succ]
    cases p n <;> simp <;> omega
theorem fb_ct_split (p : Nat → Bool) (m : Nat) : ∀ n, fb_ct p (m + n) = fb_ct p m + fb_ct (fun k => p (m + k)) n
  | 0 => rfl
  | n + 1 => by
    have h := fb_ct_split p m n
    show fb_ct p (m + n + 1) = _
    rw [fb_ct_succ, fb_ct_succ, h, Nat.add_assoc]
theorem fb_ct_zero {p : Nat → Bool} : ∀ {n : Nat}, fb_ct p n = 0 ↔ ∀ k, k < n → p k = false
  | 0 => ⟨fun _ k hk => absurd hk (Nat.not_lt_zero k), fun _ => rfl⟩
  | n + 1 => by
    have h := fb_ct_zero (p := p) (n := n)
    rw [fb_ct_succ]
    constructor
    · intro e k hk
      have e1 : fb_ct p n = 0 := by omega
      rcases Nat.lt_or_ge k n with q | q
      · exact h.mp e1 k q
      · have ek : k = n := by omega
        subst ek
        cases hp : p k
        · rfl
        · simp [hp] at e
    · intro a
      rw [h.mpr (fun k hk => a k (by omega)), a n (by omega)]
      rfl
theorem fb_ct_pos {p : Nat → Bool} {n : Nat} : 0 < fb_ct p n ↔ ∃ k, k < n ∧ p k = true := by
  constructor
  · intro h
    refine Classical.byContradiction fun hx => ?_
    have := fb_ct_zero.mpr (fun k hk => by
      cases hp : p k
      · rfl
      · exact absurd ⟨k, hk, hp⟩ hx : ∀ k, k < n → p k = false)
    omega
  · rintro ⟨k, hk, hp⟩
    rcases Nat.eq_zero_or_pos (fb_ct p n) with e | e
    · have := fb_ct_zero.mp e k hk
      rw [this] at hp
      cases hp
    · exact e
theorem fb_ct_all {p : Nat → Bool} {n : Nat} : fb_ct p n = n ↔ ∀ k, k < n → p k = true := by
  have h := fb_ct_not p n
  constructor
  · intro e k hk
    have z : fb_ct (fun k => !p k) n = 0 := by omega
    have := fb_ct_zero.mp z k hk
    cases hp : p k
    · simp [hp] at this
    · rfl
  · intro a
    have z : fb_ct (fun k => !p k) n = 0 := fb_ct_zero.mpr (fun k hk => by simp [a k hk])
    omega
/-- the k-th place with the property -/
theorem fb_ct_kth {p : Nat → Bool} {k : Nat} : ∀ {n : Nat}, k < fb_ct p n → ∃ i, i < n ∧ p i = true ∧ fb_ct p i = k
  | 0, h => absurd h (Nat.not_lt_zero k)
  | n + 1, h => by
    rcases Nat.lt_or_ge k (fb_ct p n) with q | q
    · obtain ⟨i, h1, h2⟩ := fb_ct_kth q
      exact ⟨i, by omega, h2⟩
    · rw [fb_ct_succ] at h
      cases hp : p n
      · simp [hp] at h; omega
      · simp [hp] at h
        exact ⟨n, by omega, hp, by omega⟩
theorem fb_ct_kth_one {p : Nat → Bool} {i j : Nat} (hi : p i = true) (hj : p j = true) (e : fb_ct p i = fb_ct p j) : i = j := by
  have key : ∀ a b : Nat, a < b → p a = true → fb_ct p a < fb_ct p b := by
    intro a b hab ha
    have h := fb_ct_mono p (show a + 1 ≤ b from hab)
    rw [fb_ct_succ, ha] at h
    simp at h
    omega
  rcases Nat.lt_trichotomy i j with q | q | q
  · have := key i j q hi; omega
  · exact q
  · have := key j i q hj; omega
/-! ===== the least, the first, the best so far; that there is one alone ===== -/
theorem fb_first {p : Nat → Prop} [DecidablePred p] : ∀ {n : Nat}, (∃ i, i < n ∧ p i) → ∃ i, i < n ∧ p i ∧ ∀ j, j < i → ¬ p j
  | 0, h => by obtain ⟨i, hi, -⟩ := h; exact absurd hi (Nat.not_lt_zero i)
  | n + 1, h => by
    by_cases q : ∃ i, i < n ∧ p i
    · obtain ⟨i, h1, h2⟩ := fb_first q
      exact ⟨i, by omega, h2⟩
    · obtain ⟨i, h1, h2⟩ := h
      have e : i = n := by
        rcases Nat.lt_or_ge i n with r | r
        · exact absurd ⟨i, r, h2⟩ q
        · omega
      subst e
      exact ⟨i, by omega, h2, fun j hj hp => q ⟨j, hj, hp⟩⟩
theorem fb_first_one {p : Nat → Prop} {i j : Nat} (hi : p i) (hi2 : ∀ k, k < i → ¬ p k) (hj : p j) (hj2 : ∀ k, k < j → ¬ p k) : i = j := by
  rcases Nat.lt_trichotomy i j with q | q | q
  · exact absurd hi (hj2 i q)
  · exact q
  · exact absurd hj (hi2 j q)
/-! the bits of a long -/
theorem sdg2_ct : ∀ k n, sdg 2 k n = fb_ct (fun j => n.testBit j) k
  | 0, n => rfl
  | k + 1, n => by
    rw [show k + 1 = 1 + k from Nat.add_comm _ _, fb_ct_split, show 1 + k = k + 1 from Nat.add_comm _ _]
    show n % 2 + sdg 2 k (n / 2) = fb_ct (fun j => n.testBit j) 1 + _
    rw [sdg2_ct k (n / 2)]
    have e : fb_ct (fun j => n.testBit j) 1 = n % 2 := by
      show 0 + (if n.testBit 0 then 1 else 0) = n % 2
      rw [Nat.testBit_zero]
      have := Nat.mod_two_eq_zero_or_one n
      rcases this with h | h <;> simp [h]
    rw [e]
    congr 1
    apply fb_ct_cong
    intro j _
    rw [Nat.testBit_div_two, Nat.add_comm]
theorem pc_ct (x : BitVec 64) : pc x = fb_ct (fun j => x.getLsbD j) 64 := sdg2_ct 64 x.toNat
/-- the lowest bit of a long that isn't 0 -/
theorem low_ex {x : BitVec 64} (h : ¬ x = 0#64) : ∃ l, l < 64 ∧ x.getLsbD l = true ∧ ∀ j, j < l → x.getLsbD j = false := by
  have h1 : ∃ i, i < 64 ∧ x.getLsbD i = true := by
    apply Decidable.byContradiction
    intro hn
    apply h
    apply BitVec.eq_of_getLsbD_eq
    intro i hi
    rw [BitVec.getLsbD_zero]
    cases e : x.getLsbD i with
    | false => rfl
    | true => exact absurd ⟨i, hi, e⟩ hn
  obtain ⟨l, h2, h3, h4⟩ := fb_first h1
  refine ⟨l, h2, h3, fun j hj => ?_⟩
  have := h4 j hj
  simpa using this
theorem low_form {x : BitVec 64} {l : Nat} (h1 : x.getLsbD l = true) (h2 : ∀ j, j < l → x.getLsbD j = false) : ∃ m, x.toNat = 2 ^ (l + 1) * m + 2 ^ l := by
  have e0 : x.toNat % 2 ^ l = 0 := by
    apply Nat.eq_of_testBit_eq
    intro j
    rw [Nat.testBit_mod_two_pow, Nat.zero_testBit]
    by_cases hj : j < l
    · have := h2 j hj
      rw [show x.toNat.testBit j = x.getLsbD j from rfl, this]
      simp
    · simp [hj]
  have e1 : x.toNat / 2 ^ l % 2 = 1 := by
    have h3 : x.toNat.testBit (0 + l) = true := by rw [Nat.zero_add]; exact h1
    rw [← Nat.testBit_div_two_pow, Nat.testBit_zero] at h3
    simpa using h3
  refine ⟨x.toNat / 2 ^ l / 2, ?_⟩
  have e2 := Nat.div_add_mod x.toNat (2 ^ l)
  have e3 := Nat.div_add_mod (x.toNat / 2 ^ l) 2
  rw [e0, Nat.add_zero] at e2
  rw [e1] at e3
  generalize x.toNat / 2 ^ l / 2 = m at *
  rw [← e2, ← e3, Nat.pow_succ, Nat.mul_add, Nat.mul_one, Nat.mul_assoc]
theorem low_m1 {x : BitVec 64} {l : Nat} (hl : l < 64) (h1 : x.getLsbD l = true) (h2 : ∀ j, j < l → x.getLsbD j = false) (j : Nat) : (x - 1#64).getLsbD j = if j < l then true else if j = l then false else x.getLsbD j := by
  obtain ⟨m, hm⟩ := low_form h1 h2
  have hp : 0 < 2 ^ l := Nat.pow_pos (by decide)
  have hp2 : 2 ^ l < 2 ^ (l + 1) := by rw [Nat.pow_succ]; omega
  have hx := x.isLt
  have e : (x - 1#64).toNat = 2 ^ (l + 1) * m + (2 ^ l - 1) := by
    rw [BitVec.toNat_sub, show (1#64).toNat = 1 from rfl]
    have : 1 ≤ x.toNat := by omega
    omega
  show (x - 1#64).toNat.testBit j = _
  rw [e, Nat.testBit_two_pow_mul_add _ (by omega), show x.getLsbD j = x.toNat.testBit j from rfl, hm, Nat.testBit_two_pow_mul_add _ hp2]
  by_cases q1 : j < l
  · rw [if_pos (by omega), if_pos q1, Nat.testBit_two_pow_sub_one]
    simp [q1]
  · rw [if_neg q1]
    by_cases q2 : j = l
    · rw [if_pos (by omega), if_pos q2, Nat.testBit_two_pow_sub_one]
      simp [q1]
    · rw [if_neg (by omega), if_neg q2, if_neg (by omega)]
theorem low_clr {x : BitVec 64} {l : Nat} (hl : l < 64) (h1 : x.getLsbD l = true) (h2 : ∀ j, j < l → x.getLsbD j = false) (j : Nat) : (x &&& (x - 1#64)).getLsbD j = if j = l then false else x.getLsbD j := by
  rw [BitVec.getLsbD_and, low_m1 hl h1 h2]
  by_cases q1 : j < l
  · rw [if_pos q1, if_neg (by omega), Bool.and_true]
  · rw [if_neg q1]
    by_cases q2 : j = l
    · rw [if_pos q2, Bool.and_false]
    · rw [if_neg q2, Bool.and_self]
theorem pc_clr {x : BitVec 64} (h : ¬ x = 0#64) : pc (x &&& (x - 1#64)) + 1 = pc x := by
  obtain ⟨l, hl, h1, h2⟩ := low_ex h
  rw [pc_ct, pc_ct]
  have e : fb_ct (fun j => (x &&& (x - 1#64)).getLsbD j) 64 = fb_ct (fun k => if k = l then false else (fun j => x.getLsbD j) k) 64 := fb_ct_cong fun j _ => low_clr hl h1 h2 j
  have := fb_ct_upd (fun j => x.getLsbD j) false (i := l) (n := 64) hl
  rw [← e] at this
  simp only [h1, if_true] at this
  simpa using this
theorem low_B {x : BitVec 64} {l : Nat} (hl : l < 64) (h1 : x.getLsbD l = true) (h2 : ∀ j, j < l → x.getLsbD j = false) : lowB x = l := by
  have e0 : -x = ~~~(x - 1#64) := by
    apply BitVec.eq_of_toNat_eq
    have hx := x.isLt
    rw [BitVec.toNat_neg, BitVec.toNat_not, BitVec.toNat_sub, show (1#64).toNat = 1 from rfl]
    omega
  have e1 : x &&& (-x) = BitVec.twoPow 64 l := by
    apply BitVec.eq_of_getLsbD_eq
    intro j hj
    rw [BitVec.getLsbD_and, e0, BitVec.getLsbD_not, low_m1 hl h1 h2, BitVec.getLsbD_twoPow]
    by_cases q1 : j < l
    · rw [if_pos q1, h2 j q1]
      have : ¬ l = j := by omega
      simp [this]
    · rw [if_neg q1]
      by_cases q2 : j = l
      · subst q2
        simp [h1, hl]
      · rw [if_neg q2]
        have : ¬ l = j := by omega
        simp [this, hj]
  unfold lowB
  rw [e1, pc_ct]
  have e2 : fb_ct (fun j => (BitVec.twoPow 64 l - 1#64).getLsbD j) 64 = fb_ct (fun j => decide (j < l)) 64 := fb_ct_cong fun j hj => by
    have a1 : (BitVec.twoPow 64 l).getLsbD l = true := by simp [BitVec.getLsbD_twoPow, hl]
    have a2 : ∀ j, j < l → (BitVec.twoPow 64 l).getLsbD j = false := fun j hj => by
      have : ¬ l = j := by omega
      simp [BitVec.getLsbD_twoPow, this]
    rw [low_m1 hl a1 a2]
    by_cases q1 : j < l
    · simp [q1]
    · rw [if_neg q1]
      by_cases q2 : j = l
      · simp [q2]
      · have : ¬ l = j := by omega
        simp [q2, BitVec.getLsbD_twoPow, this, q1]
  rw [e2, show (64 : Nat) = l + (64 - l) by omega, fb_ct_split]
  rw [fb_ct_all.mpr (fun k hk => by simpa using hk), fb_ct_zero.mpr (fun k _ => by simp)]
  rfl
theorem ct_one {p : Nat → Bool} {l n : Nat} (hl : l < n) (h1 : p l = true) (h2 : ∀ j, j < l → p j = false) : fb_ct p l = 0 ∧ fb_ct p (l + 1) = 1 := by
  have e : fb_ct p l = 0 := fb_ct_zero.mpr h2
  exact ⟨e, by rw [fb_ct_succ, e, h1]; rfl⟩
/-! a row of eight longs -/
def rb (R : Nat → BitVec 64) (t : Nat) : Bool := (R (t / 64)).getLsbD (t % 64)
def many (R : Nat → BitVec 64) : Nat := fb_ct (rb R) 512
theorem rb_word (R : Nat → BitVec 64) (i : Nat) : fb_ct (rb R) (64 * (i + 1)) = fb_ct (rb R) (64 * i) + pc (R i) := by
  rw [Nat.mul_add, Nat.mul_one, fb_ct_split, pc_ct]
  congr 1
  apply fb_ct_cong
  intro j hj
  unfold rb
  rw [show (64 * i + j) / 64 = i by omega, show (64 * i + j) % 64 = j by omega]
/-- v is the k-th of the packets of a row, or there is none -/
def Kth (R : Nat → BitVec 64) (k v : Int) : Prop := (v = -1 ∧ ¬ (0 ≤ k ∧ k < many R)) ∨ (∃ t : Nat, v = t ∧ t < 512 ∧ rb R t = true ∧ (fb_ct (rb R) t : Int) = k)
theorem Kth.one {R : Nat → BitVec 64} {k v w : Int} (h : Kth R k v) (h2 : Kth R k w) : v = w := by
  have lt : ∀ {t : Nat}, t < 512 → rb R t = true → fb_ct (rb R) t < many R := fun {t} ht hb => by
    have a := fb_ct_succ (rb R) t
    rw [hb] at a
    have b := fb_ct_mono (rb R) (show t + 1 ≤ 512 by omega)
    unfold many
    simp at a
    omega
  rcases h with ⟨rfl, h⟩ | ⟨t, rfl, ht, hb, hk⟩
  · rcases h2 with ⟨rfl, -⟩ | ⟨t, rfl, ht, hb, hk⟩
    · rfl
    · have := lt ht hb
      exact absurd ⟨by omega, by omega⟩ h
  · rcases h2 with ⟨rfl, h⟩ | ⟨u, rfl, hu, hub, hku⟩
    · have := lt ht hb
      exact absurd ⟨by omega, by omega⟩ h
    · rw [fb_ct_kth_one hb hub (by omega)]
