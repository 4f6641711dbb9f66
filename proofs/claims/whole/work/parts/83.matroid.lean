/-! taps: what follows from taps is the closure of a matroid -/
theorem fb_ct_lt {p q : Nat → Bool} : ∀ {n : Nat}, (∀ k, k < n → p k = true → q k = true) → (∃ i, i < n ∧ q i = true ∧ p i = false) → fb_ct p n + 1 ≤ fb_ct q n
  | 0, _, ⟨i, h, _⟩ => absurd h (Nat.not_lt_zero i)
  | n + 1, h, ⟨i, h1, h2, h3⟩ => by
    have hs := fb_ct_sub (p := p) (q := q) (n := n) fun k hk => h k (by omega)
    rw [fb_ct_succ, fb_ct_succ]
    by_cases z : i = n
    · subst z
      rw [h2, h3]
      simp
      exact hs
    · have ih := fb_ct_lt (n := n) (fun k hk => h k (by omega)) ⟨i, by omega, h2, h3⟩
      have := h n (by omega)
      cases hp : p n
      · simp only [Bool.false_eq_true, if_false]
        split <;> omega
      · rw [this hp]
        simp
        omega
abbrev VS : Type := (Nat → Bool) → Prop
def Vx (V : VS) : Prop := ∀ v w, V v → V w → V (fun i => v i != w i)
def KV (V : VS) (n A c : Nat) : Prop := A.testBit c = true ∨ ∃ v, V v ∧ v c = true ∧ ∀ i, i < n → i ≠ c → v i = true → A.testBit i = true
theorem KV.mono {V : VS} {n A A' c : Nat} (h : ∀ i, i < n → A.testBit i = true → A'.testBit i = true) (hc : c < n) (k : KV V n A c) : KV V n A' c := by
  rcases k with k | ⟨v, v1, v2, v3⟩
  · exact Or.inl (h c hc k)
  · exact Or.inr ⟨v, v1, v2, fun i hi hic hv => h i hi (v3 i hi hic hv)⟩
theorem KV.idem {V : VS} {n A c : Nat} (hV : Vx V) (hc : c < n) : ∀ (k : Nat) (v : Nat → Bool), V v → v c = true → (∀ i, i < n → i ≠ c → v i = true → KV V n A i) → fb_ct (fun i => v i && (!A.testBit i && !decide (i = c))) n ≤ k → KV V n A c := by
  intro k
  induction k with
  | zero =>
    intro v v1 v2 v3 hk
    by_cases hA : A.testBit c = true
    · exact Or.inl hA
    · refine Or.inr ⟨v, v1, v2, fun i hi hic hv => ?_⟩
      have := fb_ct_zero.mp (Nat.le_zero.mp hk) i hi
      rw [hv, decide_eq_false hic] at this
      simpa using this
  | succ k ih =>
    intro v v1 v2 v3 hk
    by_cases hA : A.testBit c = true
    · exact Or.inl hA
    · by_cases hb : ∃ i, i < n ∧ i ≠ c ∧ v i = true ∧ A.testBit i = false
      · obtain ⟨i, i1, i2, i3, i4⟩ := hb
        rcases v3 i i1 i2 i3 with z | ⟨w, w1, w2, w3⟩
        · rw [i4] at z; exact absurd z (by decide)
        · have wc : w c = false := by
            cases hw : w c
            · rfl
            · exact absurd (w3 c hc (fun z => i2 z.symm) hw) hA
          refine ih (fun j => v j != w j) (hV v w v1 w1) (by show (v c != w c) = true; rw [v2, wc]; rfl) (fun j hj hjc hv => ?_) ?_
          · by_cases z : j = i
            · subst z
              have hv : (v j != w j) = true := hv
              rw [i3, w2] at hv
              exact absurd hv (by decide)
            · cases hw : w j
              · have hv : (v j != w j) = true := hv
                rw [hw] at hv
                exact v3 j hj hjc (by simpa using hv)
              · exact Or.inl (w3 j hj z hw)
          · have := fb_ct_lt (p := fun j => (v j != w j) && (!A.testBit j && !decide (j = c))) (q := fun j => v j && (!A.testBit j && !decide (j = c))) (n := n) (fun j hj hp => by
              rw [Bool.and_eq_true] at hp ⊢
              refine ⟨?_, hp.2⟩
              have h2 := hp.2
              rw [Bool.and_eq_true] at h2
              have hAj : A.testBit j = false := by simpa using h2.1
              by_cases z : j = i
              · subst z; exact i3
              · cases hw : w j
                · have h1 := hp.1
                  rw [hw] at h1
                  simpa using h1
                · rw [w3 j hj z hw] at hAj
                  exact absurd hAj (by decide)) ⟨i, i1, by
              rw [i3, i4, decide_eq_false i2]
              rfl, by
              rw [i3, w2]
              rfl⟩
            omega
      · refine Or.inr ⟨v, v1, v2, fun i hi hic hv => ?_⟩
        cases z : A.testBit i
        · exact absurd ⟨i, hi, hic, hv, z⟩ hb
        · rfl
theorem KV.trans {V : VS} {n A A' c : Nat} (hV : Vx V) (h : ∀ j, j < n → A.testBit j = true → KV V n A' j) (hc : c < n) (k : KV V n A c) : KV V n A' c := by
  rcases k with k | ⟨v, v1, v2, v3⟩
  · exact h c hc k
  · exact KV.idem hV hc n v v1 v2 (fun i hi hic hv => h i hi (v3 i hi hic hv)) (fb_ct_le _ _)
def Ind (V : VS) (n I : Nat) : Prop := ∀ v, V v → (∀ i, i < n → v i = true → I.testBit i = true) → ∀ i, i < n → v i = false
theorem Ind.sub {V : VS} {n I J : Nat} (h : Ind V n I) (hs : ∀ i, i < n → J.testBit i = true → I.testBit i = true) : Ind V n J := fun v v1 v2 => h v v1 fun i hi hv => hs i hi (v2 i hi hv)
/-- one bit goes, another comes -/
theorem swap_bit {A a x j : Nat} (ha : A.testBit a = true) (hax : a ≠ x) : ((A ^^^ 2 ^ a) ||| 2 ^ x).testBit j = (if j = x then true else if j = a then false else A.testBit j) := by
  rw [or_bit, Nat.testBit_xor, Nat.testBit_two_pow]
  by_cases z : j = x
  · subst z
    rw [if_pos rfl, decide_eq_true rfl, Bool.or_true]
  · rw [if_neg z, decide_eq_false (fun y : x = j => z y.symm), Bool.or_false]
    by_cases y : j = a
    · subst y
      rw [if_pos rfl, ha, decide_eq_true rfl]
      rfl
    · rw [if_neg y, decide_eq_false (fun w : a = j => y w.symm)]
      cases A.testBit j <;> rfl
theorem del_bit {A a j : Nat} (ha : A.testBit a = true) : (A ^^^ 2 ^ a).testBit j = (if j = a then false else A.testBit j) := by
  rw [Nat.testBit_xor, Nat.testBit_two_pow]
  by_cases y : j = a
  · subst y
    rw [if_pos rfl, ha, decide_eq_true rfl]
    rfl
  · rw [if_neg y, decide_eq_false (fun w : a = j => y w.symm)]
    cases A.testBit j <;> rfl
theorem del_cb {n A a : Nat} (ha : A.testBit a = true) (hn : a < n) : cb n (A ^^^ 2 ^ a) + 1 = cb n A := by
  have := fb_ct_upd (fun j => A.testBit j) false hn
  unfold cb
  rw [fb_ct_cong (q := fun k => if k = a then false else A.testBit k) fun k _ => del_bit ha]
  rw [ha] at this
  simpa using this
theorem swap_cb {n A a x : Nat} (ha : A.testBit a = true) (hx : A.testBit x = false) (hn : a < n) (hxn : x < n) : cb n ((A ^^^ 2 ^ a) ||| 2 ^ x) = cb n A := by
  have hax : a ≠ x := fun z => by rw [z, hx] at ha; exact absurd ha (by decide)
  have h1 := del_cb ha hn
  have h2 := cb_or (n := n) (a := A ^^^ 2 ^ a) hxn (by rw [del_bit ha, if_neg (fun z => hax z.symm)]; exact hx)
  omega
theorem steinitz {V : VS} {n I : Nat} (hV : Vx V) (hI : Ind V n I) : ∀ k A : Nat, (∀ i, i < n → I.testBit i = true → KV V n A i) → fb_ct (fun i => I.testBit i && !A.testBit i) n ≤ k → cb n I ≤ cb n A := by
  intro k
  induction k with
  | zero =>
    intro A h hk
    refine fb_ct_sub fun i hi hIi => ?_
    have := fb_ct_zero.mp (Nat.le_zero.mp hk) i hi
    rw [hIi] at this
    simpa using this
  | succ k ih =>
    intro A h hk
    by_cases hb : ∃ x, x < n ∧ I.testBit x = true ∧ A.testBit x = false
    · obtain ⟨x, x1, x2, x3⟩ := hb
      rcases h x x1 x2 with z | ⟨v, v1, v2, v3⟩
      · rw [x3] at z; exact absurd z (by decide)
      · -- some a of A that is not in I
        have hex : ∃ a, a < n ∧ v a = true ∧ I.testBit a = false := by
          apply Classical.byContradiction
          intro hno
          have := hI v v1 (fun i hi hv => by
            cases z : I.testBit i
            · exact absurd ⟨i, hi, hv, z⟩ hno
            · rfl) x x1
          rw [v2] at this
          exact absurd this (by decide)
        obtain ⟨a, a1, a2, a3⟩ := hex
        have hax : a ≠ x := fun z => by rw [z, x2] at a3; exact absurd a3 (by decide)
        have hAa := v3 a a1 hax a2
        rw [← swap_cb hAa x3 a1 x1]
        have toA : ∀ j, j < n → A.testBit j = true → KV V n ((A ^^^ 2 ^ a) ||| 2 ^ x) j := fun j hj hA => by
          by_cases z : j = a
          · subst z
            refine Or.inr ⟨v, v1, a2, fun i hi hij hv => ?_⟩
            rw [swap_bit hAa hax]
            by_cases y : i = x
            · rw [if_pos y]
            · rw [if_neg y, if_neg hij]
              exact v3 i hi y hv
          · left
            rw [swap_bit hAa hax]
            by_cases y : j = x
            · rw [if_pos y]
            · rw [if_neg y, if_neg z]
              exact hA
        refine ih _ (fun i hi hIi => KV.trans hV toA hi (h i hi hIi)) ?_
        have := fb_ct_lt (p := fun i => I.testBit i && !((A ^^^ 2 ^ a) ||| 2 ^ x).testBit i) (q := fun i => I.testBit i && !A.testBit i) (n := n) (fun j hj hp => by
          rw [Bool.and_eq_true] at hp ⊢
          refine ⟨hp.1, ?_⟩
          have h2 := hp.2
          rw [swap_bit hAa hax] at h2
          by_cases y : j = x
          · subst y; rw [x3]; rfl
          · rw [if_neg y] at h2
            by_cases z : j = a
            · subst z
              rw [hp.1] at a3
              exact absurd a3 (by decide)
            · rw [if_neg z] at h2
              exact h2) ⟨x, x1, by
          rw [x2, x3]
          rfl, by
          rw [swap_bit hAa hax, if_pos rfl]
          simp⟩
        omega
    · refine fb_ct_sub fun i hi hIi => ?_
      cases z : A.testBit i
      · exact absurd ⟨i, hi, hIi, z⟩ hb
      · rfl
theorem num_le : ∀ {n A C : Nat}, A < 2 ^ n → C < 2 ^ n → (∀ m, m ≤ n → cb m C ≤ cb m A) → cb n A = cb n C → A ≤ C
  | 0, A, C, hA, hC, _, _ => by
    have : (2 : Nat) ^ 0 = 1 := rfl
    omega
  | n + 1, A, C, hA, hC, hm, he => by
    have sA : cb (n + 1) A = cb n A + (if A.testBit n then 1 else 0) := rfl
    have sC : cb (n + 1) C = cb n C + (if C.testBit n then 1 else 0) := rfl
    have hn := hm n (by omega)
    rw [Nat.pow_succ] at hA hC
    have low : ∀ X, X < 2 ^ n * 2 → X.testBit n = false → X < 2 ^ n := fun X h1 h2 => by
      apply Classical.byContradiction
      intro z
      have : X / 2 ^ n = 1 := by
        have h3 : 1 ≤ X / 2 ^ n := Nat.div_pos (by omega) (Nat.two_pow_pos n)
        have h4 : X / 2 ^ n < 2 := Nat.div_lt_of_lt_mul h1
        omega
      rw [Nat.testBit_eq_decide_div_mod_eq, this] at h2
      exact absurd h2 (by decide)
    have mod_cb : ∀ X m, m ≤ n → cb m (X % 2 ^ n) = cb m X := fun X m hmn => fb_ct_cong fun j hj => by
      rw [Nat.testBit_mod_two_pow, decide_eq_true (by omega), Bool.true_and]
    have high : ∀ X, X.testBit n = true → X < 2 ^ n * 2 → X = 2 ^ n + X % 2 ^ n := fun X h1 h2 => by
      have h3 := Nat.ge_two_pow_of_testBit h1
      have h4 : X / 2 ^ n = 1 := by
        have h5 : 1 ≤ X / 2 ^ n := Nat.div_pos h3 (Nat.two_pow_pos n)
        have h6 : X / 2 ^ n < 2 := Nat.div_lt_of_lt_mul h2
        omega
      have := Nat.div_add_mod X (2 ^ n)
      rw [h4, Nat.mul_one] at this
      exact this.symm
    cases zA : A.testBit n <;> cases zC : C.testBit n
    · rw [zA] at sA
      rw [zC] at sC
      simp at sA sC
      exact num_le (low A hA zA) (low C hC zC) (fun m hmn => hm m (by omega)) (by omega)
    · have h1 := low A hA zA
      have h2 := Nat.ge_two_pow_of_testBit zC
      omega
    · rw [zA] at sA
      rw [zC] at sC
      simp at sA sC
      omega
    · rw [zA] at sA
      rw [zC] at sC
      simp at sA sC
      have := num_le (n := n) (A := A % 2 ^ n) (C := C % 2 ^ n) (Nat.mod_lt _ (Nat.two_pow_pos n)) (Nat.mod_lt _ (Nat.two_pow_pos n)) (fun m hmn => by rw [mod_cb A m hmn, mod_cb C m hmn]; exact hm m (by omega)) (by rw [mod_cb A n (Nat.le_refl _), mod_cb C n (Nat.le_refl _)]; omega)
      rw [high A zA hA, high C zC hC]
      omega
/-- the taps that were taken greedily are the best -/
theorem taps_best {V : VS} {n oF F T : Nat} (hV : Vx V) (hF : ∀ c, c < n → (F.testBit c = true ↔ KV V n oF c)) (hT : T < 2 ^ n) (t1 : Ind V n T) (t2 : ∀ c, c < n → T.testBit c = true → F.testBit c = true) (t3 : ∀ m, m ≤ n → ∀ c, c < m → F.testBit c = true → KV V n (T % 2 ^ m) c) : (∀ c, c < n → oF.testBit c = true → KV V n T c) ∧ ∀ S, S < 2 ^ n → (∀ c, c < n → oF.testBit c = true → KV V n S c) → cb n T ≤ cb n S ∧ (cb n S = cb n T → T ≤ S) := by
  refine ⟨fun c hc ho => ?_, fun S hS hk => ?_⟩
  · have := t3 n (Nat.le_refl _) c hc ((hF c hc).mpr (Or.inl ho))
    rw [Nat.mod_eq_of_lt hT] at this
    exact this
  · have FS : ∀ X, (∀ c, c < n → oF.testBit c = true → KV V n X c) → ∀ c, c < n → F.testBit c = true → KV V n X c := fun X hX c hc hf => KV.trans hV hX hc ((hF c hc).mp hf)
    have le : ∀ X, (∀ c, c < n → oF.testBit c = true → KV V n X c) → cb n T ≤ cb n X := fun X hX => steinitz hV t1 n X (fun i hi hTi => FS X hX i hi (t2 i hi hTi)) (fb_ct_le _ _)
    refine ⟨le S hk, fun he => ?_⟩
    have sI : Ind V n S := fun v v1 v2 i hi => by
      cases hv : v i
      · rfl
      · exfalso
        have hSi := v2 i hi hv
        have := le (S ^^^ 2 ^ i) (fun c hc ho => KV.trans hV (fun j hj hSj => by
          by_cases z : j = i
          · subst z
            refine Or.inr ⟨v, v1, hv, fun a ha haj hva => ?_⟩
            rw [del_bit hSi, if_neg haj]
            exact v2 a ha hva
          · left
            rw [del_bit hSi, if_neg z]
            exact hSj) hc (hk c hc ho))
        have := del_cb hSi hi
        omega
    have sF : ∀ s, s < n → S.testBit s = true → F.testBit s = true := fun s hs hSs => by
      cases hf : F.testBit s
      · exfalso
        have hTs : T.testBit s = false := by
          cases z : T.testBit s
          · rfl
          · rw [t2 s hs z] at hf; exact absurd hf (by decide)
        have i2 : Ind V n (T ||| 2 ^ s) := fun v v1 v2 => by
          have vs : v s = false := by
            cases z : v s
            · rfl
            · have : KV V n T s := Or.inr ⟨v, v1, z, fun i hi his hv => by
                have := v2 i hi hv
                rw [or_bit, decide_eq_false (fun y : s = i => his y.symm), Bool.or_false] at this
                exact this⟩
              have := (hF s hs).mpr (KV.trans hV (fun j hj hTj => (hF j hj).mp (t2 j hj hTj)) hs this)
              rw [hf] at this
              exact absurd this (by decide)
          refine t1 v v1 fun i hi hv => ?_
          have := v2 i hi hv
          by_cases z : s = i
          · subst z
            rw [vs] at hv
            exact absurd hv (by decide)
          · rw [or_bit, decide_eq_false z, Bool.or_false] at this
            exact this
        have := steinitz hV i2 n S (fun i hi h2 => by
          rw [or_bit, Bool.or_eq_true, decide_eq_true_iff] at h2
          rcases h2 with h2 | rfl
          · exact FS S hk i hi (t2 i hi h2)
          · exact Or.inl hSs) (fb_ct_le _ _)
        rw [cb_or hs hTs] at this
        omega
      · rfl
    refine num_le hT hS (fun m hm => ?_) he.symm
    have md : ∀ X, cb n (X % 2 ^ m) = cb m X := fun X => by
      obtain ⟨d, rfl⟩ : ∃ d, n = m + d := ⟨n - m, by omega⟩
      unfold cb
      rw [fb_ct_split]
      have e1 : fb_ct (fun j => (X % 2 ^ m).testBit j) m = fb_ct (fun j => X.testBit j) m := fb_ct_cong fun j hj => by rw [Nat.testBit_mod_two_pow, decide_eq_true hj, Bool.true_and]
      have e2 : fb_ct (fun k => (X % 2 ^ m).testBit (m + k)) d = 0 := fb_ct_zero.mpr fun k _ => by rw [Nat.testBit_mod_two_pow, decide_eq_false (by omega), Bool.false_and]
      omega
    rw [← md S, ← md T]
    refine steinitz hV (sI.sub fun i hi h2 => ?_) n (T % 2 ^ m) (fun i hi h2 => ?_) (fb_ct_le _ _)
    · rw [Nat.testBit_mod_two_pow, Bool.and_eq_true] at h2
      exact h2.2
    · rw [Nat.testBit_mod_two_pow, Bool.and_eq_true, decide_eq_true_iff] at h2
      exact t3 m hm i h2.1 (sF i hi h2.2)
