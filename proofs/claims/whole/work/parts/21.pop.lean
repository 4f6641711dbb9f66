/-! how many bits are set -/
def sdg (B : Nat) : Nat → Nat → Nat
  | 0, _ => 0
  | k + 1, x => x % B + sdg B k (x / B)
def dle (B b : Nat) : Nat → Nat → Prop
  | 0, x => x = 0
  | k + 1, x => x % B ≤ b ∧ dle B b k (x / B)
def mkw (w m : Nat) : Nat → Nat
  | 0 => 0
  | k + 1 => m + 2 ^ w * mkw w m k
theorem and_dig {w u m : Nat} (Y M : Nat) (hu : u < 2 ^ w) (hm : m < 2 ^ w) : (u + 2 ^ w * Y) &&& (m + 2 ^ w * M) = (u &&& m) + 2 ^ w * (Y &&& M) := by
  have hum : u &&& m < 2 ^ w := Nat.lt_of_le_of_lt Nat.and_le_left hu
  rw [Nat.add_comm u, Nat.add_comm m, Nat.add_comm (u &&& m)]
  apply Nat.eq_of_testBit_eq
  intro j
  rw [Nat.testBit_and, Nat.testBit_two_pow_mul_add _ hu, Nat.testBit_two_pow_mul_add _ hm, Nat.testBit_two_pow_mul_add _ hum]
  by_cases h : j < w
  · simp [h, Nat.testBit_and]
  · simp [h, Nat.testBit_and]
theorem sh_dig {w s u m : Nat} (Y M : Nat) (hs : s ≤ w) (hu : u < 2 ^ w) (hm : m < 2 ^ (w - s)) : ((u + 2 ^ w * Y) / 2 ^ s) &&& (m + 2 ^ w * M) = (u / 2 ^ s &&& m) + 2 ^ w * (Y / 2 ^ s &&& M) := by
  have hw : 2 ^ w = 2 ^ s * 2 ^ (w - s) := by rw [← Nat.pow_add]; congr 1; omega
  have hp : 0 < 2 ^ s := Nat.pow_pos (by decide)
  have hq : u / 2 ^ s < 2 ^ (w - s) := by
    rw [Nat.div_lt_iff_lt_mul hp, Nat.mul_comm, ← hw]
    exact hu
  have e1 : (u + 2 ^ w * Y) / 2 ^ s = (u / 2 ^ s + 2 ^ (w - s) * (Y % 2 ^ s)) + 2 ^ w * (Y / 2 ^ s) := by
    rw [hw, Nat.mul_assoc, Nat.add_mul_div_left _ _ hp, Nat.add_assoc]
    congr 1
    rw [Nat.mul_comm (2 ^ s) (2 ^ (w - s)), Nat.mul_assoc, ← Nat.mul_add, Nat.mod_add_div]
  have hd : u / 2 ^ s + 2 ^ (w - s) * (Y % 2 ^ s) < 2 ^ w := by
    have h1 : Y % 2 ^ s + 1 ≤ 2 ^ s := Nat.mod_lt _ hp
    have h2 := Nat.mul_le_mul_left (2 ^ (w - s)) h1
    rw [Nat.mul_comm (2 ^ (w - s)) (2 ^ s), ← hw, Nat.mul_add] at h2
    omega
  have hm2 : m < 2 ^ w := Nat.lt_of_lt_of_le hm (Nat.pow_le_pow_right (by decide) (by omega))
  rw [e1, and_dig _ _ hd hm2]
  congr 1
  have := and_dig (w := w - s) (Y % 2 ^ s) 0 hq hm
  rw [Nat.mul_zero, Nat.add_zero, Nat.and_zero, Nat.mul_zero, Nat.add_zero] at this
  exact this
theorem dmod (B x : Nat) : x % B + B * (x / B) = x := Nat.mod_add_div x B
/-- pairs -/
theorem pop_1 : ∀ (k x : Nat), x < 4 ^ k → sdg 4 k (x - (x / 2 &&& mkw 2 1 k)) = sdg 2 (2 * k) x ∧ dle 4 2 k (x - (x / 2 &&& mkw 2 1 k))
  | 0, x, h => by
    have : x = 0 := by simpa using h
    subst this
    exact ⟨rfl, rfl⟩
  | k + 1, x, h => by
    have hY : x / 4 < 4 ^ k := by rw [Nat.div_lt_iff_lt_mul (by decide)]; rw [Nat.pow_succ] at h; exact h
    obtain ⟨i1, i2⟩ := pop_1 k (x / 4) hY
    have hu : x % 4 < 4 := Nat.mod_lt _ (by decide)
    have e := sh_dig (w := 2) (s := 1) (u := x % 4) (m := 1) (x / 4) (mkw 2 1 k) (by decide) hu (by decide)
    rw [show (2 : Nat) ^ 2 = 4 from rfl, dmod 4 x] at e
    have hle : x / 4 / 2 &&& mkw 2 1 k ≤ x / 4 / 2 := Nat.and_le_left
    have e2 : x - (x / 2 &&& mkw 2 1 (k + 1)) = (x % 4 - (x % 4 / 2 &&& 1)) + 4 * (x / 4 - (x / 4 / 2 &&& mkw 2 1 k)) := by
      show x - (x / 2 ^ 1 &&& (1 + 2 ^ 2 * mkw 2 1 k)) = _
      rw [show (2 : Nat) ^ 2 = 4 from rfl, e]
      have h1 : x % 4 / 2 ^ 1 &&& 1 ≤ x % 4 / 2 := Nat.and_le_left
      have h0 := dmod 4 x
      show x - ((x % 4 / 2 &&& 1) + 4 * (x / 4 / 2 &&& mkw 2 1 k)) = _
      have h3 : x % 4 / 2 &&& 1 ≤ x % 4 / 2 := Nat.and_le_left
      omega
    have h4 : ∀ u, u < 4 → u - (u / 2 &&& 1) = u % 2 + u / 2 % 2 ∧ u - (u / 2 &&& 1) ≤ 2 := by decide
    have h5 := h4 _ hu
    rw [e2]
    have m1 : ((x % 4 - (x % 4 / 2 &&& 1)) + 4 * (x / 4 - (x / 4 / 2 &&& mkw 2 1 k))) % 4 = x % 4 - (x % 4 / 2 &&& 1) := by omega
    have m2 : ((x % 4 - (x % 4 / 2 &&& 1)) + 4 * (x / 4 - (x / 4 / 2 &&& mkw 2 1 k))) / 4 = x / 4 - (x / 4 / 2 &&& mkw 2 1 k) := by omega
    refine ⟨?_, ?_, ?_⟩
    · show _ % 4 + sdg 4 k (_ / 4) = sdg 2 (2 * k + 1 + 1) x
      rw [m1, m2, i1]
      show _ = x % 2 + (x / 2 % 2 + sdg 2 (2 * k) (x / 2 / 2))
      rw [Nat.div_div_eq_div_mul, h5.1, show 2 * 2 = 4 from rfl]
      have : x % 4 % 2 + x % 4 / 2 % 2 = x % 2 + x / 2 % 2 := by omega
      omega
    · rw [m1]
      exact h5.2
    · rw [m2]
      exact i2
theorem pop_2 : ∀ (k x : Nat), dle 4 2 (2 * k) x → sdg 16 k ((x &&& mkw 4 3 k) + (x / 4 &&& mkw 4 3 k)) = sdg 4 (2 * k) x ∧ dle 16 4 k ((x &&& mkw 4 3 k) + (x / 4 &&& mkw 4 3 k)) ∧ (x &&& mkw 4 3 k) + (x / 4 &&& mkw 4 3 k) ≤ x
  | 0, x, h => by
    have : x = 0 := h
    subst this
    exact ⟨rfl, rfl, by decide⟩
  | k + 1, x, h => by
    obtain ⟨h1, h2, h3⟩ : x % 4 ≤ 2 ∧ x / 4 % 4 ≤ 2 ∧ dle 4 2 (2 * k) (x / 4 / 4) := h
    rw [Nat.div_div_eq_div_mul] at h3
    obtain ⟨i1, i2, i3⟩ := pop_2 k (x / 16) h3
    have hu : x % 16 < 16 := Nat.mod_lt _ (by decide)
    have e := sh_dig (w := 4) (s := 2) (u := x % 16) (m := 3) (x / 16) (mkw 4 3 k) (by decide) hu (by decide)
    have e0 := and_dig (w := 4) (u := x % 16) (m := 3) (x / 16) (mkw 4 3 k) hu (by decide)
    rw [show (2 : Nat) ^ 4 = 16 from rfl, dmod 16 x] at e e0
    rw [show (2 : Nat) ^ 2 = 4 from rfl] at e
    have e2 : (x &&& mkw 4 3 (k + 1)) + (x / 4 &&& mkw 4 3 (k + 1)) = ((x % 16 &&& 3) + (x % 16 / 4 &&& 3)) + 16 * ((x / 16 &&& mkw 4 3 k) + (x / 16 / 4 &&& mkw 4 3 k)) := by
      show (x &&& (3 + 2 ^ 4 * mkw 4 3 k)) + (x / 4 &&& (3 + 2 ^ 4 * mkw 4 3 k)) = _
      rw [show (2 : Nat) ^ 4 = 16 from rfl, e, e0]
      omega
    have h4 : ∀ u, u < 16 → (u &&& 3) = u % 4 ∧ (u / 4 &&& 3) = u / 4 := by decide
    obtain ⟨h5, h6⟩ := h4 _ hu
    rw [e2, h5, h6]
    have m1 : ((x % 16 % 4 + x % 16 / 4) + 16 * ((x / 16 &&& mkw 4 3 k) + (x / 16 / 4 &&& mkw 4 3 k))) % 16 = x % 16 % 4 + x % 16 / 4 := by omega
    have m2 : ((x % 16 % 4 + x % 16 / 4) + 16 * ((x / 16 &&& mkw 4 3 k) + (x / 16 / 4 &&& mkw 4 3 k))) / 16 = (x / 16 &&& mkw 4 3 k) + (x / 16 / 4 &&& mkw 4 3 k) := by omega
    refine ⟨?_, ⟨?_, ?_⟩, ?_⟩
    · show _ % 16 + sdg 16 k (_ / 16) = sdg 4 (2 * k + 1 + 1) x
      rw [m1, m2, i1]
      show _ = x % 4 + (x / 4 % 4 + sdg 4 (2 * k) (x / 4 / 4))
      rw [Nat.div_div_eq_div_mul, show 4 * 4 = 16 from rfl]
      omega
    · rw [m1]
      omega
    · rw [m2]
      exact i2
    · omega
theorem pop_3 : ∀ (k x : Nat), dle 16 4 (2 * k) x → sdg 256 k ((x + x / 16) &&& mkw 8 15 k) = sdg 16 (2 * k) x ∧ dle 256 8 k ((x + x / 16) &&& mkw 8 15 k)
  | 0, x, h => by
    have : x = 0 := h
    subst this
    exact ⟨rfl, rfl⟩
  | k + 1, x, h => by
    obtain ⟨h1, h2, h3⟩ : x % 16 ≤ 4 ∧ x / 16 % 16 ≤ 4 ∧ dle 16 4 (2 * k) (x / 16 / 16) := h
    rw [Nat.div_div_eq_div_mul] at h3
    obtain ⟨i1, i2⟩ := pop_3 k (x / 256) h3
    have h6 : x / 256 % 16 ≤ 4 := by
      cases k with
      | zero =>
        have : x / 256 = 0 := h3
        rw [this]
        decide
      | succ k => exact h3.1
    have e3 : x + x / 16 = (x % 256 + x % 256 / 16 + 16 * (x / 256 % 16)) + 256 * (x / 256 + x / 256 / 16) := by omega
    have hd : x % 256 + x % 256 / 16 + 16 * (x / 256 % 16) < 256 := by omega
    have e0 := and_dig (w := 8) (u := x % 256 + x % 256 / 16 + 16 * (x / 256 % 16)) (m := 15) (x / 256 + x / 256 / 16) (mkw 8 15 k) hd (by decide)
    rw [show (2 : Nat) ^ 8 = 256 from rfl, ← e3] at e0
    have h15 : ∀ u : Nat, u &&& 15 = u % 16 := fun u => Nat.and_two_pow_sub_one_eq_mod u 4
    have e2 : ((x + x / 16) &&& mkw 8 15 (k + 1)) = (x % 16 + x / 16 % 16) + 256 * ((x / 256 + x / 256 / 16) &&& mkw 8 15 k) := by
      show ((x + x / 16) &&& (15 + 2 ^ 8 * mkw 8 15 k)) = _
      rw [show (2 : Nat) ^ 8 = 256 from rfl, e0, h15]
      omega
    rw [e2]
    have m1 : ((x % 16 + x / 16 % 16) + 256 * ((x / 256 + x / 256 / 16) &&& mkw 8 15 k)) % 256 = x % 16 + x / 16 % 16 := by omega
    have m2 : ((x % 16 + x / 16 % 16) + 256 * ((x / 256 + x / 256 / 16) &&& mkw 8 15 k)) / 256 = (x / 256 + x / 256 / 16) &&& mkw 8 15 k := by omega
    refine ⟨?_, ?_, ?_⟩
    · show _ % 256 + sdg 256 k (_ / 256) = sdg 16 (2 * k + 1 + 1) x
      rw [m1, m2, i1]
      show _ = x % 16 + (x / 16 % 16 + sdg 16 (2 * k) (x / 16 / 16))
      rw [Nat.div_div_eq_div_mul, show 16 * 16 = 256 from rfl]
      omega
    · rw [m1]
      omega
    · rw [m2]
      exact i2
theorem pop_4a {q0 q1 q2 q3 r0 r1 r2 : Nat} (h0 : r0 ≤ 8) (h1 : r1 ≤ 8) (h2 : r2 ≤ 8) (e0 : q0 = r0 + 256 * q1) (e1 : q1 = r1 + 256 * q2) (e2 : q2 = r2 + 256 * q3) : (q0 + q1) / 65536 = q2 + q3 := by omega
theorem pop_4b {q0 q1 q2 q3 q4 q5 q6 q7 r0 r1 r2 r3 r4 r5 r6 : Nat} (h0 : r0 ≤ 8) (h1 : r1 ≤ 8) (h2 : r2 ≤ 8) (h3 : r3 ≤ 8) (h4 : r4 ≤ 8) (h5 : r5 ≤ 8) (h6 : r6 ≤ 8) (e0 : q0 = r0 + 256 * q1) (e1 : q1 = r1 + 256 * q2) (e2 : q2 = r2 + 256 * q3) (e3 : q3 = r3 + 256 * q4) (e4 : q4 = r4 + 256 * q5) (e5 : q5 = r5 + 256 * q6) (e6 : q6 = r6 + 256 * q7) : (q0 + q1 + (q2 + q3)) / 4294967296 = q4 + q5 + (q6 + q7) := by
  have f3 : q3 = (r3 + 256 * r4 + 65536 * r5 + 16777216 * r6) + 4294967296 * q7 := by omega
  have f2 : q2 = (r2 + 256 * r3 + 65536 * r4 + 16777216 * r5) + 4294967296 * q6 := by omega
  have f1 : q1 = (r1 + 256 * r2 + 65536 * r3 + 16777216 * r4) + 4294967296 * q5 := by omega
  have f0 : q0 = (r0 + 256 * r1 + 65536 * r2 + 16777216 * r3) + 4294967296 * q4 := by omega
  clear e0 e1 e2 e3 e4 e5 e6
  have g : q0 + q1 + (q2 + q3) = ((r0 + 256 * r1 + 65536 * r2 + 16777216 * r3) + (r1 + 256 * r2 + 65536 * r3 + 16777216 * r4) + ((r2 + 256 * r3 + 65536 * r4 + 16777216 * r5) + (r3 + 256 * r4 + 65536 * r5 + 16777216 * r6))) + 4294967296 * (q4 + q5 + (q6 + q7)) := by omega
  rw [g, Nat.add_mul_div_left _ _ (by decide), Nat.div_eq_of_lt (by omega), Nat.zero_add]
theorem pop_4 (x : Nat) (h : dle 256 8 8 x) : x < 2 ^ 60 ∧ (x + x / 256) < 2 ^ 61 ∧ ((x + x / 256) + (x + x / 256) / 65536) < 2 ^ 62 ∧ (((x + x / 256) + (x + x / 256) / 65536) + ((x + x / 256) + (x + x / 256) / 65536) / 4294967296) < 2 ^ 63 ∧ (((x + x / 256) + (x + x / 256) / 65536) + ((x + x / 256) + (x + x / 256) / 65536) / 4294967296) % 128 = sdg 256 8 x := by
  obtain ⟨h0, h1, h2, h3, h4, h5, h6, h7, h8⟩ : x % 256 ≤ 8 ∧ x / 256 % 256 ≤ 8 ∧ x / 256 / 256 % 256 ≤ 8 ∧ x / 256 / 256 / 256 % 256 ≤ 8 ∧ x / 256 / 256 / 256 / 256 % 256 ≤ 8 ∧ x / 256 / 256 / 256 / 256 / 256 % 256 ≤ 8 ∧ x / 256 / 256 / 256 / 256 / 256 / 256 % 256 ≤ 8 ∧ x / 256 / 256 / 256 / 256 / 256 / 256 / 256 % 256 ≤ 8 ∧ x / 256 / 256 / 256 / 256 / 256 / 256 / 256 / 256 = 0 := h
  have es : sdg 256 8 x = x % 256 + (x / 256 % 256 + (x / 256 / 256 % 256 + (x / 256 / 256 / 256 % 256 + (x / 256 / 256 / 256 / 256 % 256 + (x / 256 / 256 / 256 / 256 / 256 % 256 + (x / 256 / 256 / 256 / 256 / 256 / 256 % 256 + (x / 256 / 256 / 256 / 256 / 256 / 256 / 256 % 256 + 0))))))) := rfl
  have e0 := (dmod 256 x).symm
  generalize x / 256 = q1 at *
  have e1 := (dmod 256 q1).symm
  generalize q1 / 256 = q2 at *
  have e2 := (dmod 256 q2).symm
  generalize q2 / 256 = q3 at *
  have e3 := (dmod 256 q3).symm
  generalize q3 / 256 = q4 at *
  have e4 := (dmod 256 q4).symm
  generalize q4 / 256 = q5 at *
  have e5 := (dmod 256 q5).symm
  generalize q5 / 256 = q6 at *
  have e6 := (dmod 256 q6).symm
  generalize q6 / 256 = q7 at *
  have e7 := (dmod 256 q7).symm
  rw [h8] at e7
  generalize x % 256 = r0 at *
  generalize q1 % 256 = r1 at *
  generalize q2 % 256 = r2 at *
  generalize q3 % 256 = r3 at *
  generalize q4 % 256 = r4 at *
  generalize q5 % 256 = r5 at *
  generalize q6 % 256 = r6 at *
  generalize q7 % 256 = r7 at *
  rw [pop_4a h0 h1 h2 e0 e1 e2, pop_4b h0 h1 h2 h3 h4 h5 h6 e0 e1 e2 e3 e4 e5 e6, es]
  clear es
  have b7 : q7 ≤ 8 := by omega
  have b6 : q6 ≤ 2056 := by omega
  have b5 : q5 ≤ 526344 := by omega
  have b4 : q4 ≤ 134744072 := by omega
  have b3 : q3 ≤ 34494482440 := by omega
  have b2 : q2 ≤ 8830587504648 := by omega
  have b1 : q1 ≤ 2260630401189896 := by omega
  have b0 : x ≤ 578721382704613384 := by omega
  refine ⟨by omega, by omega, by omega, by omega, ?_⟩
  have k : x + q1 + (q2 + q3) + (q4 + q5 + (q6 + q7)) = (r0 + r1 + r2 + r3 + r4 + r5 + r6 + r7) + 128 * (2 * (q1 + q2 + q3 + q4 + q5 + q6 + q7)) := by omega
  rw [k, Nat.add_mul_mod_self_left, Nat.mod_eq_of_lt (by omega)]
  omega
theorem sdg2_lt : ∀ k x, sdg 2 k x ≤ k
  | 0, x => Nat.le_refl _
  | k + 1, x => by
    have := sdg2_lt k (x / 2)
    show x % 2 + sdg 2 k (x / 2) ≤ k + 1
    omega
def pc (x : BitVec 64) : Nat := sdg 2 64 x.toNat
def w1 (x : BitVec 64) : BitVec 64 := x - ((x >>> 1) &&& 6148914691236517205#64)
def w2 (x : BitVec 64) : BitVec 64 := (x &&& 3689348814741910323#64) + ((x >>> 2) &&& 3689348814741910323#64)
def w3 (x : BitVec 64) : BitVec 64 := (x + (x >>> 4)) &&& 1085102592571150095#64
def w4 (x : BitVec 64) : BitVec 64 := x + (x >>> 8)
def w5 (x : BitVec 64) : BitVec 64 := x + (x >>> 16)
def w6 (x : BitVec 64) : BitVec 64 := x + (x >>> 32)
theorem pc_w (x : BitVec 64) : (w6 (w5 (w4 (w3 (w2 (w1 x)))))).toNat % 128 = pc x := by
  have hx : x.toNat < 4 ^ 32 := x.isLt
  obtain ⟨a1, a2⟩ := pop_1 32 x.toNat hx
  have n1 : (w1 x).toNat = x.toNat - (x.toNat / 2 &&& mkw 2 1 32) := by
    unfold w1
    have hle : x.toNat / 2 &&& mkw 2 1 32 ≤ x.toNat / 2 := Nat.and_le_left
    rw [BitVec.toNat_sub, BitVec.toNat_and, BitVec.toNat_ushiftRight, Nat.shiftRight_eq_div_pow, show (6148914691236517205#64).toNat = mkw 2 1 32 from by decide, show 2 ^ 1 = 2 from rfl]
    omega
  rw [← n1] at a1 a2
  obtain ⟨b1, b2, b3⟩ := pop_2 16 (w1 x).toNat a2
  have n2 : (w2 (w1 x)).toNat = ((w1 x).toNat &&& mkw 4 3 16) + ((w1 x).toNat / 4 &&& mkw 4 3 16) := by
    have := (w1 x).isLt
    unfold w2
    rw [BitVec.toNat_add, BitVec.toNat_and, BitVec.toNat_and, BitVec.toNat_ushiftRight, Nat.shiftRight_eq_div_pow, show (3689348814741910323#64).toNat = mkw 4 3 16 from by decide, show 2 ^ 2 = 4 from rfl]
    omega
  rw [← n2] at b1 b2 b3
  obtain ⟨c1, c2⟩ := pop_3 8 (w2 (w1 x)).toNat b2
  have hlt : (w2 (w1 x)).toNat < 2 ^ 63 := by
    have h8 : ∀ k y, dle 16 4 k y → y * 15 ≤ 4 * (16 ^ k - 1) ∧ 0 < 16 ^ k := by
      intro k
      induction k with
      | zero => intro y h; have : y = 0 := h; subst this; exact ⟨by decide, by decide⟩
      | succ k ih =>
        intro y h
        have := ih _ h.2
        have := h.1
        rw [Nat.pow_succ]
        omega
    have := (h8 16 _ b2).1
    omega
  have n3 : (w3 (w2 (w1 x))).toNat = ((w2 (w1 x)).toNat + (w2 (w1 x)).toNat / 16) &&& mkw 8 15 8 := by
    unfold w3
    rw [BitVec.toNat_and, BitVec.toNat_add, BitVec.toNat_ushiftRight, Nat.shiftRight_eq_div_pow, show (1085102592571150095#64).toNat = mkw 8 15 8 from by decide, show 2 ^ 4 = 16 from rfl]
    rw [Nat.mod_eq_of_lt (by omega)]
  rw [← n3] at c1 c2
  obtain ⟨d0, d1, d2, d3, d4⟩ := pop_4 _ c2
  have n4 : (w4 (w3 (w2 (w1 x)))).toNat = (w3 (w2 (w1 x))).toNat + (w3 (w2 (w1 x))).toNat / 256 := by
    unfold w4
    rw [BitVec.toNat_add, BitVec.toNat_ushiftRight, Nat.shiftRight_eq_div_pow, show 2 ^ 8 = 256 from rfl, Nat.mod_eq_of_lt (by omega)]
  rw [← n4] at d1 d2 d3 d4
  have n5 : (w5 (w4 (w3 (w2 (w1 x))))).toNat = (w4 (w3 (w2 (w1 x)))).toNat + (w4 (w3 (w2 (w1 x)))).toNat / 65536 := by
    conv => lhs; unfold w5
    rw [BitVec.toNat_add, BitVec.toNat_ushiftRight, Nat.shiftRight_eq_div_pow, show 2 ^ 16 = 65536 from rfl, Nat.mod_eq_of_lt (by omega)]
  rw [← n5] at d2 d3 d4
  have n6 : (w6 (w5 (w4 (w3 (w2 (w1 x)))))).toNat = (w5 (w4 (w3 (w2 (w1 x))))).toNat + (w5 (w4 (w3 (w2 (w1 x))))).toNat / 4294967296 := by
    conv => lhs; unfold w6
    rw [BitVec.toNat_add, BitVec.toNat_ushiftRight, Nat.shiftRight_eq_div_pow, show 2 ^ 32 = 4294967296 from rfl, Nat.mod_eq_of_lt (by omega)]
  rw [n6, d4, c1, b1, a1]
  rfl
theorem pc_l2i (x : BitVec 64) : l2i (w6 (w5 (w4 (w3 (w2 (w1 x)))))) % 128 = (pc x : Int) := by
  rw [← pc_w]
  generalize w6 (w5 (w4 (w3 (w2 (w1 x))))) = y
  unfold l2i
  show (Int64.ofBitVec y).toInt32.toInt % 128 = _
  rw [Int64.toInt_toInt32]
  show (y.toInt.bmod (2 ^ 32)) % 128 = _
  rw [BitVec.toInt_eq_toNat_bmod, Int.bmod_bmod_of_dvd (by decide)]
  rw [Int.bmod_def]
  split <;> omega
theorem pc_le (x : BitVec 64) : pc x ≤ 64 := sdg2_lt 64 _
