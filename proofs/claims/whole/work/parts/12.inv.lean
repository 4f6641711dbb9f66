/-! what a step tells of the stack -/
theorem inv_4 {M : Nat → List LI} {σ : St} {a b c : Nat} {z : Int} {cs : List LI} {ls : Ls} {st0 : List Vl} {out : Out} (h : step M σ ((4, a, b, c, z) :: cs) ls st0 = some out) : ∃ (v0 : Int) (st : List Vl), st0 = vI v0 :: st ∧ (a < ls.length) ∧ out = .inl (σ, cs, lSet1 ls a (vI v0), st) := by
  rcases st0 with _ | ⟨w, st⟩
  · exact nomatch (show (none : Option Out) = some out from h)
  rcases w with v0 | v0 | ⟨t0, q0⟩
  · skip
    have h : (if a < ls.length then some (Sum.inl (σ, cs, lSet1 ls a (vI v0), st)) else none) = some out := h
    split at h
    · rename_i hc
      cases h
      exact ⟨v0, st, rfl, hc, rfl⟩
    · exact nomatch (show (none : Option Out) = some out from h)
  · exact nomatch (show (none : Option Out) = some out from h)
  · exact nomatch (show (none : Option Out) = some out from h)

theorem inv_5 {M : Nat → List LI} {σ : St} {a b c : Nat} {z : Int} {cs : List LI} {ls : Ls} {st0 : List Vl} {out : Out} (h : step M σ ((5, a, b, c, z) :: cs) ls st0 = some out) : ∃ (v0 : BitVec 64) (st : List Vl), st0 = vL v0 :: st ∧ (a + 1 < ls.length) ∧ out = .inl (σ, cs, lSet2 ls a (vL v0), st) := by
  rcases st0 with _ | ⟨w, st⟩
  · exact nomatch (show (none : Option Out) = some out from h)
  rcases w with v0 | v0 | ⟨t0, q0⟩
  · exact nomatch (show (none : Option Out) = some out from h)
  · skip
    have h : (if a + 1 < ls.length then some (Sum.inl (σ, cs, lSet2 ls a (vL v0), st)) else none) = some out := h
    split at h
    · rename_i hc
      cases h
      exact ⟨v0, st, rfl, hc, rfl⟩
    · exact nomatch (show (none : Option Out) = some out from h)
  · exact nomatch (show (none : Option Out) = some out from h)

theorem inv_6 {M : Nat → List LI} {σ : St} {a b c : Nat} {z : Int} {cs : List LI} {ls : Ls} {st0 : List Vl} {out : Out} (h : step M σ ((6, a, b, c, z) :: cs) ls st0 = some out) : ∃ (t0 : Nat) (q0 : Option Nat) (st : List Vl), st0 = vR t0 q0 :: st ∧ (a < ls.length) ∧ out = .inl (σ, cs, lSet1 ls a (vR t0 q0), st) := by
  rcases st0 with _ | ⟨w, st⟩
  · exact nomatch (show (none : Option Out) = some out from h)
  rcases w with v0 | v0 | ⟨t0, q0⟩
  · exact nomatch (show (none : Option Out) = some out from h)
  · exact nomatch (show (none : Option Out) = some out from h)
  · skip
    have h : (if a < ls.length then some (Sum.inl (σ, cs, lSet1 ls a (vR t0 q0), st)) else none) = some out := h
    split at h
    · rename_i hc
      cases h
      exact ⟨t0, q0, st, rfl, hc, rfl⟩
    · exact nomatch (show (none : Option Out) = some out from h)

theorem inv_10 {M : Nat → List LI} {σ : St} {a b c : Nat} {z : Int} {cs : List LI} {ls : Ls} {st0 : List Vl} {out : Out} (h : step M σ ((10, a, b, c, z) :: cs) ls st0 = some out) : ∃ (v0 : Int) (v1 : Int) (st : List Vl), st0 = vI v0 :: vI v1 :: st ∧ (rgB (v1 + v0) = true) ∧ out = .inl (σ, cs, ls, vI (v1 + v0) :: st) := by
  rcases st0 with _ | ⟨w, st⟩
  · exact nomatch (show (none : Option Out) = some out from h)
  rcases w with v0 | v0 | ⟨t0, q0⟩
  · skip
    rcases st with _ | ⟨w, st⟩
    · exact nomatch (show (none : Option Out) = some out from h)
    rcases w with v1 | v1 | ⟨t1, q1⟩
    · skip
      have h : (if rgB (v1 + v0) = true then some (Sum.inl (σ, cs, ls, vI (v1 + v0) :: st)) else none) = some out := h
      split at h
      · rename_i hc
        cases h
        exact ⟨v0, v1, st, rfl, hc, rfl⟩
      · exact nomatch (show (none : Option Out) = some out from h)
    · exact nomatch (show (none : Option Out) = some out from h)
    · exact nomatch (show (none : Option Out) = some out from h)
  · exact nomatch (show (none : Option Out) = some out from h)
  · exact nomatch (show (none : Option Out) = some out from h)

theorem inv_11 {M : Nat → List LI} {σ : St} {a b c : Nat} {z : Int} {cs : List LI} {ls : Ls} {st0 : List Vl} {out : Out} (h : step M σ ((11, a, b, c, z) :: cs) ls st0 = some out) : ∃ (v0 : Int) (v1 : Int) (st : List Vl), st0 = vI v0 :: vI v1 :: st ∧ (rgB (v1 - v0) = true) ∧ out = .inl (σ, cs, ls, vI (v1 - v0) :: st) := by
  rcases st0 with _ | ⟨w, st⟩
  · exact nomatch (show (none : Option Out) = some out from h)
  rcases w with v0 | v0 | ⟨t0, q0⟩
  · skip
    rcases st with _ | ⟨w, st⟩
    · exact nomatch (show (none : Option Out) = some out from h)
    rcases w with v1 | v1 | ⟨t1, q1⟩
    · skip
      have h : (if rgB (v1 - v0) = true then some (Sum.inl (σ, cs, ls, vI (v1 - v0) :: st)) else none) = some out := h
      split at h
      · rename_i hc
        cases h
        exact ⟨v0, v1, st, rfl, hc, rfl⟩
      · exact nomatch (show (none : Option Out) = some out from h)
    · exact nomatch (show (none : Option Out) = some out from h)
    · exact nomatch (show (none : Option Out) = some out from h)
  · exact nomatch (show (none : Option Out) = some out from h)
  · exact nomatch (show (none : Option Out) = some out from h)

theorem inv_12 {M : Nat → List LI} {σ : St} {a b c : Nat} {z : Int} {cs : List LI} {ls : Ls} {st0 : List Vl} {out : Out} (h : step M σ ((12, a, b, c, z) :: cs) ls st0 = some out) : ∃ (v0 : Int) (v1 : Int) (st : List Vl), st0 = vI v0 :: vI v1 :: st ∧ (rgB (v1 * v0) = true) ∧ out = .inl (σ, cs, ls, vI (v1 * v0) :: st) := by
  rcases st0 with _ | ⟨w, st⟩
  · exact nomatch (show (none : Option Out) = some out from h)
  rcases w with v0 | v0 | ⟨t0, q0⟩
  · skip
    rcases st with _ | ⟨w, st⟩
    · exact nomatch (show (none : Option Out) = some out from h)
    rcases w with v1 | v1 | ⟨t1, q1⟩
    · skip
      have h : (if rgB (v1 * v0) = true then some (Sum.inl (σ, cs, ls, vI (v1 * v0) :: st)) else none) = some out := h
      split at h
      · rename_i hc
        cases h
        exact ⟨v0, v1, st, rfl, hc, rfl⟩
      · exact nomatch (show (none : Option Out) = some out from h)
    · exact nomatch (show (none : Option Out) = some out from h)
    · exact nomatch (show (none : Option Out) = some out from h)
  · exact nomatch (show (none : Option Out) = some out from h)
  · exact nomatch (show (none : Option Out) = some out from h)

theorem inv_13 {M : Nat → List LI} {σ : St} {a b c : Nat} {z : Int} {cs : List LI} {ls : Ls} {st0 : List Vl} {out : Out} (h : step M σ ((13, a, b, c, z) :: cs) ls st0 = some out) : ∃ (v0 : Int) (v1 : Int) (st : List Vl), st0 = vI v0 :: vI v1 :: st ∧ (0 ≤ v1 ∧ 0 < v0) ∧ out = .inl (σ, cs, ls, vI (v1 / v0) :: st) := by
  rcases st0 with _ | ⟨w, st⟩
  · exact nomatch (show (none : Option Out) = some out from h)
  rcases w with v0 | v0 | ⟨t0, q0⟩
  · skip
    rcases st with _ | ⟨w, st⟩
    · exact nomatch (show (none : Option Out) = some out from h)
    rcases w with v1 | v1 | ⟨t1, q1⟩
    · skip
      have h : (if 0 ≤ v1 ∧ 0 < v0 then some (Sum.inl (σ, cs, ls, vI (v1 / v0) :: st)) else none) = some out := h
      split at h
      · rename_i hc
        cases h
        exact ⟨v0, v1, st, rfl, hc, rfl⟩
      · exact nomatch (show (none : Option Out) = some out from h)
    · exact nomatch (show (none : Option Out) = some out from h)
    · exact nomatch (show (none : Option Out) = some out from h)
  · exact nomatch (show (none : Option Out) = some out from h)
  · exact nomatch (show (none : Option Out) = some out from h)

theorem inv_14 {M : Nat → List LI} {σ : St} {a b c : Nat} {z : Int} {cs : List LI} {ls : Ls} {st0 : List Vl} {out : Out} (h : step M σ ((14, a, b, c, z) :: cs) ls st0 = some out) : ∃ (v0 : Int) (v1 : Int) (st : List Vl), st0 = vI v0 :: vI v1 :: st ∧ (0 ≤ v1 ∧ 0 < v0) ∧ out = .inl (σ, cs, ls, vI (v1 % v0) :: st) := by
  rcases st0 with _ | ⟨w, st⟩
  · exact nomatch (show (none : Option Out) = some out from h)
  rcases w with v0 | v0 | ⟨t0, q0⟩
  · skip
    rcases st with _ | ⟨w, st⟩
    · exact nomatch (show (none : Option Out) = some out from h)
    rcases w with v1 | v1 | ⟨t1, q1⟩
    · skip
      have h : (if 0 ≤ v1 ∧ 0 < v0 then some (Sum.inl (σ, cs, ls, vI (v1 % v0) :: st)) else none) = some out := h
      split at h
      · rename_i hc
        cases h
        exact ⟨v0, v1, st, rfl, hc, rfl⟩
      · exact nomatch (show (none : Option Out) = some out from h)
    · exact nomatch (show (none : Option Out) = some out from h)
    · exact nomatch (show (none : Option Out) = some out from h)
  · exact nomatch (show (none : Option Out) = some out from h)
  · exact nomatch (show (none : Option Out) = some out from h)

theorem inv_16 {M : Nat → List LI} {σ : St} {a b c : Nat} {z : Int} {cs : List LI} {ls : Ls} {st0 : List Vl} {out : Out} (h : step M σ ((16, a, b, c, z) :: cs) ls st0 = some out) : ∃ (v0 : Int) (v1 : Int) (st : List Vl), st0 = vI v0 :: vI v1 :: st ∧ out = .inl (σ, cs, ls, vI (iShl v1 v0) :: st) := by
  rcases st0 with _ | ⟨w, st⟩
  · exact nomatch (show (none : Option Out) = some out from h)
  rcases w with v0 | v0 | ⟨t0, q0⟩
  · skip
    rcases st with _ | ⟨w, st⟩
    · exact nomatch (show (none : Option Out) = some out from h)
    rcases w with v1 | v1 | ⟨t1, q1⟩
    · skip
      have h : some (Sum.inl (σ, cs, ls, vI (iShl v1 v0) :: st)) = some out := h
      cases h
      exact ⟨v0, v1, st, rfl, rfl⟩
    · exact nomatch (show (none : Option Out) = some out from h)
    · exact nomatch (show (none : Option Out) = some out from h)
  · exact nomatch (show (none : Option Out) = some out from h)
  · exact nomatch (show (none : Option Out) = some out from h)

theorem inv_17 {M : Nat → List LI} {σ : St} {a b c : Nat} {z : Int} {cs : List LI} {ls : Ls} {st0 : List Vl} {out : Out} (h : step M σ ((17, a, b, c, z) :: cs) ls st0 = some out) : ∃ (v0 : Int) (v1 : Int) (st : List Vl), st0 = vI v0 :: vI v1 :: st ∧ out = .inl (σ, cs, ls, vI (iShr v1 v0) :: st) := by
  rcases st0 with _ | ⟨w, st⟩
  · exact nomatch (show (none : Option Out) = some out from h)
  rcases w with v0 | v0 | ⟨t0, q0⟩
  · skip
    rcases st with _ | ⟨w, st⟩
    · exact nomatch (show (none : Option Out) = some out from h)
    rcases w with v1 | v1 | ⟨t1, q1⟩
    · skip
      have h : some (Sum.inl (σ, cs, ls, vI (iShr v1 v0) :: st)) = some out := h
      cases h
      exact ⟨v0, v1, st, rfl, rfl⟩
    · exact nomatch (show (none : Option Out) = some out from h)
    · exact nomatch (show (none : Option Out) = some out from h)
  · exact nomatch (show (none : Option Out) = some out from h)
  · exact nomatch (show (none : Option Out) = some out from h)

theorem inv_18 {M : Nat → List LI} {σ : St} {a b c : Nat} {z : Int} {cs : List LI} {ls : Ls} {st0 : List Vl} {out : Out} (h : step M σ ((18, a, b, c, z) :: cs) ls st0 = some out) : ∃ (v0 : Int) (v1 : Int) (st : List Vl), st0 = vI v0 :: vI v1 :: st ∧ out = .inl (σ, cs, ls, vI (iUshr v1 v0) :: st) := by
  rcases st0 with _ | ⟨w, st⟩
  · exact nomatch (show (none : Option Out) = some out from h)
  rcases w with v0 | v0 | ⟨t0, q0⟩
  · skip
    rcases st with _ | ⟨w, st⟩
    · exact nomatch (show (none : Option Out) = some out from h)
    rcases w with v1 | v1 | ⟨t1, q1⟩
    · skip
      have h : some (Sum.inl (σ, cs, ls, vI (iUshr v1 v0) :: st)) = some out := h
      cases h
      exact ⟨v0, v1, st, rfl, rfl⟩
    · exact nomatch (show (none : Option Out) = some out from h)
    · exact nomatch (show (none : Option Out) = some out from h)
  · exact nomatch (show (none : Option Out) = some out from h)
  · exact nomatch (show (none : Option Out) = some out from h)

theorem inv_19 {M : Nat → List LI} {σ : St} {a b c : Nat} {z : Int} {cs : List LI} {ls : Ls} {st0 : List Vl} {out : Out} (h : step M σ ((19, a, b, c, z) :: cs) ls st0 = some out) : ∃ (v0 : Int) (v1 : Int) (st : List Vl), st0 = vI v0 :: vI v1 :: st ∧ out = .inl (σ, cs, ls, vI (iAnd v1 v0) :: st) := by
  rcases st0 with _ | ⟨w, st⟩
  · exact nomatch (show (none : Option Out) = some out from h)
  rcases w with v0 | v0 | ⟨t0, q0⟩
  · skip
    rcases st with _ | ⟨w, st⟩
    · exact nomatch (show (none : Option Out) = some out from h)
    rcases w with v1 | v1 | ⟨t1, q1⟩
    · skip
      have h : some (Sum.inl (σ, cs, ls, vI (iAnd v1 v0) :: st)) = some out := h
      cases h
      exact ⟨v0, v1, st, rfl, rfl⟩
    · exact nomatch (show (none : Option Out) = some out from h)
    · exact nomatch (show (none : Option Out) = some out from h)
  · exact nomatch (show (none : Option Out) = some out from h)
  · exact nomatch (show (none : Option Out) = some out from h)

theorem inv_20 {M : Nat → List LI} {σ : St} {a b c : Nat} {z : Int} {cs : List LI} {ls : Ls} {st0 : List Vl} {out : Out} (h : step M σ ((20, a, b, c, z) :: cs) ls st0 = some out) : ∃ (v0 : Int) (v1 : Int) (st : List Vl), st0 = vI v0 :: vI v1 :: st ∧ out = .inl (σ, cs, ls, vI (iOr v1 v0) :: st) := by
  rcases st0 with _ | ⟨w, st⟩
  · exact nomatch (show (none : Option Out) = some out from h)
  rcases w with v0 | v0 | ⟨t0, q0⟩
  · skip
    rcases st with _ | ⟨w, st⟩
    · exact nomatch (show (none : Option Out) = some out from h)
    rcases w with v1 | v1 | ⟨t1, q1⟩
    · skip
      have h : some (Sum.inl (σ, cs, ls, vI (iOr v1 v0) :: st)) = some out := h
      cases h
      exact ⟨v0, v1, st, rfl, rfl⟩
    · exact nomatch (show (none : Option Out) = some out from h)
    · exact nomatch (show (none : Option Out) = some out from h)
  · exact nomatch (show (none : Option Out) = some out from h)
  · exact nomatch (show (none : Option Out) = some out from h)

theorem inv_21 {M : Nat → List LI} {σ : St} {a b c : Nat} {z : Int} {cs : List LI} {ls : Ls} {st0 : List Vl} {out : Out} (h : step M σ ((21, a, b, c, z) :: cs) ls st0 = some out) : ∃ (v0 : Int) (v1 : Int) (st : List Vl), st0 = vI v0 :: vI v1 :: st ∧ out = .inl (σ, cs, ls, vI (iXor v1 v0) :: st) := by
  rcases st0 with _ | ⟨w, st⟩
  · exact nomatch (show (none : Option Out) = some out from h)
  rcases w with v0 | v0 | ⟨t0, q0⟩
  · skip
    rcases st with _ | ⟨w, st⟩
    · exact nomatch (show (none : Option Out) = some out from h)
    rcases w with v1 | v1 | ⟨t1, q1⟩
    · skip
      have h : some (Sum.inl (σ, cs, ls, vI (iXor v1 v0) :: st)) = some out := h
      cases h
      exact ⟨v0, v1, st, rfl, rfl⟩
    · exact nomatch (show (none : Option Out) = some out from h)
    · exact nomatch (show (none : Option Out) = some out from h)
  · exact nomatch (show (none : Option Out) = some out from h)
  · exact nomatch (show (none : Option Out) = some out from h)

theorem inv_22 {M : Nat → List LI} {σ : St} {a b c : Nat} {z : Int} {cs : List LI} {ls : Ls} {st0 : List Vl} {out : Out} (h : step M σ ((22, a, b, c, z) :: cs) ls st0 = some out) : ∃ (v0 : BitVec 64) (v1 : BitVec 64) (st : List Vl), st0 = vL v0 :: vL v1 :: st ∧ out = .inl (σ, cs, ls, vL (v1 + v0) :: st) := by
  rcases st0 with _ | ⟨w, st⟩
  · exact nomatch (show (none : Option Out) = some out from h)
  rcases w with v0 | v0 | ⟨t0, q0⟩
  · exact nomatch (show (none : Option Out) = some out from h)
  · skip
    rcases st with _ | ⟨w, st⟩
    · exact nomatch (show (none : Option Out) = some out from h)
    rcases w with v1 | v1 | ⟨t1, q1⟩
    · exact nomatch (show (none : Option Out) = some out from h)
    · skip
      have h : some (Sum.inl (σ, cs, ls, vL (v1 + v0) :: st)) = some out := h
      cases h
      exact ⟨v0, v1, st, rfl, rfl⟩
    · exact nomatch (show (none : Option Out) = some out from h)
  · exact nomatch (show (none : Option Out) = some out from h)

theorem inv_23 {M : Nat → List LI} {σ : St} {a b c : Nat} {z : Int} {cs : List LI} {ls : Ls} {st0 : List Vl} {out : Out} (h : step M σ ((23, a, b, c, z) :: cs) ls st0 = some out) : ∃ (v0 : BitVec 64) (v1 : BitVec 64) (st : List Vl), st0 = vL v0 :: vL v1 :: st ∧ out = .inl (σ, cs, ls, vL (v1 - v0) :: st) := by
  rcases st0 with _ | ⟨w, st⟩
  · exact nomatch (show (none : Option Out) = some out from h)
  rcases w with v0 | v0 | ⟨t0, q0⟩
  · exact nomatch (show (none : Option Out) = some out from h)
  · skip
    rcases st with _ | ⟨w, st⟩
    · exact nomatch (show (none : Option Out) = some out from h)
    rcases w with v1 | v1 | ⟨t1, q1⟩
    · exact nomatch (show (none : Option Out) = some out from h)
    · skip
      have h : some (Sum.inl (σ, cs, ls, vL (v1 - v0) :: st)) = some out := h
      cases h
      exact ⟨v0, v1, st, rfl, rfl⟩
    · exact nomatch (show (none : Option Out) = some out from h)
  · exact nomatch (show (none : Option Out) = some out from h)

theorem inv_25 {M : Nat → List LI} {σ : St} {a b c : Nat} {z : Int} {cs : List LI} {ls : Ls} {st0 : List Vl} {out : Out} (h : step M σ ((25, a, b, c, z) :: cs) ls st0 = some out) : ∃ (v0 : BitVec 64) (v1 : BitVec 64) (st : List Vl), st0 = vL v0 :: vL v1 :: st ∧ out = .inl (σ, cs, ls, vL (v1 &&& v0) :: st) := by
  rcases st0 with _ | ⟨w, st⟩
  · exact nomatch (show (none : Option Out) = some out from h)
  rcases w with v0 | v0 | ⟨t0, q0⟩
  · exact nomatch (show (none : Option Out) = some out from h)
  · skip
    rcases st with _ | ⟨w, st⟩
    · exact nomatch (show (none : Option Out) = some out from h)
    rcases w with v1 | v1 | ⟨t1, q1⟩
    · exact nomatch (show (none : Option Out) = some out from h)
    · skip
      have h : some (Sum.inl (σ, cs, ls, vL (v1 &&& v0) :: st)) = some out := h
      cases h
      exact ⟨v0, v1, st, rfl, rfl⟩
    · exact nomatch (show (none : Option Out) = some out from h)
  · exact nomatch (show (none : Option Out) = some out from h)

theorem inv_26 {M : Nat → List LI} {σ : St} {a b c : Nat} {z : Int} {cs : List LI} {ls : Ls} {st0 : List Vl} {out : Out} (h : step M σ ((26, a, b, c, z) :: cs) ls st0 = some out) : ∃ (v0 : BitVec 64) (v1 : BitVec 64) (st : List Vl), st0 = vL v0 :: vL v1 :: st ∧ out = .inl (σ, cs, ls, vL (v1 ||| v0) :: st) := by
  rcases st0 with _ | ⟨w, st⟩
  · exact nomatch (show (none : Option Out) = some out from h)
  rcases w with v0 | v0 | ⟨t0, q0⟩
  · exact nomatch (show (none : Option Out) = some out from h)
  · skip
    rcases st with _ | ⟨w, st⟩
    · exact nomatch (show (none : Option Out) = some out from h)
    rcases w with v1 | v1 | ⟨t1, q1⟩
    · exact nomatch (show (none : Option Out) = some out from h)
    · skip
      have h : some (Sum.inl (σ, cs, ls, vL (v1 ||| v0) :: st)) = some out := h
      cases h
      exact ⟨v0, v1, st, rfl, rfl⟩
    · exact nomatch (show (none : Option Out) = some out from h)
  · exact nomatch (show (none : Option Out) = some out from h)

theorem inv_27 {M : Nat → List LI} {σ : St} {a b c : Nat} {z : Int} {cs : List LI} {ls : Ls} {st0 : List Vl} {out : Out} (h : step M σ ((27, a, b, c, z) :: cs) ls st0 = some out) : ∃ (v0 : BitVec 64) (v1 : BitVec 64) (st : List Vl), st0 = vL v0 :: vL v1 :: st ∧ out = .inl (σ, cs, ls, vL (v1 ^^^ v0) :: st) := by
  rcases st0 with _ | ⟨w, st⟩
  · exact nomatch (show (none : Option Out) = some out from h)
  rcases w with v0 | v0 | ⟨t0, q0⟩
  · exact nomatch (show (none : Option Out) = some out from h)
  · skip
    rcases st with _ | ⟨w, st⟩
    · exact nomatch (show (none : Option Out) = some out from h)
    rcases w with v1 | v1 | ⟨t1, q1⟩
    · exact nomatch (show (none : Option Out) = some out from h)
    · skip
      have h : some (Sum.inl (σ, cs, ls, vL (v1 ^^^ v0) :: st)) = some out := h
      cases h
      exact ⟨v0, v1, st, rfl, rfl⟩
    · exact nomatch (show (none : Option Out) = some out from h)
  · exact nomatch (show (none : Option Out) = some out from h)

theorem inv_31 {M : Nat → List LI} {σ : St} {a b c : Nat} {z : Int} {cs : List LI} {ls : Ls} {st0 : List Vl} {out : Out} (h : step M σ ((31, a, b, c, z) :: cs) ls st0 = some out) : ∃ (v0 : BitVec 64) (v1 : BitVec 64) (st : List Vl), st0 = vL v0 :: vL v1 :: st ∧ out = .inl (σ, cs, ls, vI (lCmp v1 v0) :: st) := by
  rcases st0 with _ | ⟨w, st⟩
  · exact nomatch (show (none : Option Out) = some out from h)
  rcases w with v0 | v0 | ⟨t0, q0⟩
  · exact nomatch (show (none : Option Out) = some out from h)
  · skip
    rcases st with _ | ⟨w, st⟩
    · exact nomatch (show (none : Option Out) = some out from h)
    rcases w with v1 | v1 | ⟨t1, q1⟩
    · exact nomatch (show (none : Option Out) = some out from h)
    · skip
      have h : some (Sum.inl (σ, cs, ls, vI (lCmp v1 v0) :: st)) = some out := h
      cases h
      exact ⟨v0, v1, st, rfl, rfl⟩
    · exact nomatch (show (none : Option Out) = some out from h)
  · exact nomatch (show (none : Option Out) = some out from h)

theorem inv_28 {M : Nat → List LI} {σ : St} {a b c : Nat} {z : Int} {cs : List LI} {ls : Ls} {st0 : List Vl} {out : Out} (h : step M σ ((28, a, b, c, z) :: cs) ls st0 = some out) : ∃ (v0 : Int) (v1 : BitVec 64) (st : List Vl), st0 = vI v0 :: vL v1 :: st ∧ out = .inl (σ, cs, ls, vL (lShl v1 v0) :: st) := by
  rcases st0 with _ | ⟨w, st⟩
  · exact nomatch (show (none : Option Out) = some out from h)
  rcases w with v0 | v0 | ⟨t0, q0⟩
  · skip
    rcases st with _ | ⟨w, st⟩
    · exact nomatch (show (none : Option Out) = some out from h)
    rcases w with v1 | v1 | ⟨t1, q1⟩
    · exact nomatch (show (none : Option Out) = some out from h)
    · skip
      have h : some (Sum.inl (σ, cs, ls, vL (lShl v1 v0) :: st)) = some out := h
      cases h
      exact ⟨v0, v1, st, rfl, rfl⟩
    · exact nomatch (show (none : Option Out) = some out from h)
  · exact nomatch (show (none : Option Out) = some out from h)
  · exact nomatch (show (none : Option Out) = some out from h)

theorem inv_29 {M : Nat → List LI} {σ : St} {a b c : Nat} {z : Int} {cs : List LI} {ls : Ls} {st0 : List Vl} {out : Out} (h : step M σ ((29, a, b, c, z) :: cs) ls st0 = some out) : ∃ (v0 : Int) (v1 : BitVec 64) (st : List Vl), st0 = vI v0 :: vL v1 :: st ∧ out = .inl (σ, cs, ls, vL (lShr v1 v0) :: st) := by
  rcases st0 with _ | ⟨w, st⟩
  · exact nomatch (show (none : Option Out) = some out from h)
  rcases w with v0 | v0 | ⟨t0, q0⟩
  · skip
    rcases st with _ | ⟨w, st⟩
    · exact nomatch (show (none : Option Out) = some out from h)
    rcases w with v1 | v1 | ⟨t1, q1⟩
    · exact nomatch (show (none : Option Out) = some out from h)
    · skip
      have h : some (Sum.inl (σ, cs, ls, vL (lShr v1 v0) :: st)) = some out := h
      cases h
      exact ⟨v0, v1, st, rfl, rfl⟩
    · exact nomatch (show (none : Option Out) = some out from h)
  · exact nomatch (show (none : Option Out) = some out from h)
  · exact nomatch (show (none : Option Out) = some out from h)

theorem inv_30 {M : Nat → List LI} {σ : St} {a b c : Nat} {z : Int} {cs : List LI} {ls : Ls} {st0 : List Vl} {out : Out} (h : step M σ ((30, a, b, c, z) :: cs) ls st0 = some out) : ∃ (v0 : Int) (v1 : BitVec 64) (st : List Vl), st0 = vI v0 :: vL v1 :: st ∧ out = .inl (σ, cs, ls, vL (lUshr v1 v0) :: st) := by
  rcases st0 with _ | ⟨w, st⟩
  · exact nomatch (show (none : Option Out) = some out from h)
  rcases w with v0 | v0 | ⟨t0, q0⟩
  · skip
    rcases st with _ | ⟨w, st⟩
    · exact nomatch (show (none : Option Out) = some out from h)
    rcases w with v1 | v1 | ⟨t1, q1⟩
    · exact nomatch (show (none : Option Out) = some out from h)
    · skip
      have h : some (Sum.inl (σ, cs, ls, vL (lUshr v1 v0) :: st)) = some out := h
      cases h
      exact ⟨v0, v1, st, rfl, rfl⟩
    · exact nomatch (show (none : Option Out) = some out from h)
  · exact nomatch (show (none : Option Out) = some out from h)
  · exact nomatch (show (none : Option Out) = some out from h)

theorem inv_24 {M : Nat → List LI} {σ : St} {a b c : Nat} {z : Int} {cs : List LI} {ls : Ls} {st0 : List Vl} {out : Out} (h : step M σ ((24, a, b, c, z) :: cs) ls st0 = some out) : ∃ (v0 : BitVec 64) (st : List Vl), st0 = vL v0 :: st ∧ out = .inl (σ, cs, ls, vL (-v0) :: st) := by
  rcases st0 with _ | ⟨w, st⟩
  · exact nomatch (show (none : Option Out) = some out from h)
  rcases w with v0 | v0 | ⟨t0, q0⟩
  · exact nomatch (show (none : Option Out) = some out from h)
  · skip
    have h : some (Sum.inl (σ, cs, ls, vL (-v0) :: st)) = some out := h
    cases h
    exact ⟨v0, st, rfl, rfl⟩
  · exact nomatch (show (none : Option Out) = some out from h)

theorem inv_32 {M : Nat → List LI} {σ : St} {a b c : Nat} {z : Int} {cs : List LI} {ls : Ls} {st0 : List Vl} {out : Out} (h : step M σ ((32, a, b, c, z) :: cs) ls st0 = some out) : ∃ (v0 : Int) (st : List Vl), st0 = vI v0 :: st ∧ out = .inl (σ, cs, ls, vL (BitVec.ofInt 64 v0) :: st) := by
  rcases st0 with _ | ⟨w, st⟩
  · exact nomatch (show (none : Option Out) = some out from h)
  rcases w with v0 | v0 | ⟨t0, q0⟩
  · skip
    have h : some (Sum.inl (σ, cs, ls, vL (BitVec.ofInt 64 v0) :: st)) = some out := h
    cases h
    exact ⟨v0, st, rfl, rfl⟩
  · exact nomatch (show (none : Option Out) = some out from h)
  · exact nomatch (show (none : Option Out) = some out from h)

theorem inv_33 {M : Nat → List LI} {σ : St} {a b c : Nat} {z : Int} {cs : List LI} {ls : Ls} {st0 : List Vl} {out : Out} (h : step M σ ((33, a, b, c, z) :: cs) ls st0 = some out) : ∃ (v0 : BitVec 64) (st : List Vl), st0 = vL v0 :: st ∧ out = .inl (σ, cs, ls, vI (l2i v0) :: st) := by
  rcases st0 with _ | ⟨w, st⟩
  · exact nomatch (show (none : Option Out) = some out from h)
  rcases w with v0 | v0 | ⟨t0, q0⟩
  · exact nomatch (show (none : Option Out) = some out from h)
  · skip
    have h : some (Sum.inl (σ, cs, ls, vI (l2i v0) :: st)) = some out := h
    cases h
    exact ⟨v0, st, rfl, rfl⟩
  · exact nomatch (show (none : Option Out) = some out from h)

theorem inv_34 {M : Nat → List LI} {σ : St} {a b c : Nat} {z : Int} {cs : List LI} {ls : Ls} {st0 : List Vl} {out : Out} (h : step M σ ((34, a, b, c, z) :: cs) ls st0 = some out) : ∃ (v0 : Int) (st : List Vl), st0 = vI v0 :: st ∧ out = .inl (σ, cs, ls, vI (i2b v0) :: st) := by
  rcases st0 with _ | ⟨w, st⟩
  · exact nomatch (show (none : Option Out) = some out from h)
  rcases w with v0 | v0 | ⟨t0, q0⟩
  · skip
    have h : some (Sum.inl (σ, cs, ls, vI (i2b v0) :: st)) = some out := h
    cases h
    exact ⟨v0, st, rfl, rfl⟩
  · exact nomatch (show (none : Option Out) = some out from h)
  · exact nomatch (show (none : Option Out) = some out from h)

theorem inv_42 {M : Nat → List LI} {σ : St} {a b c : Nat} {z : Int} {cs : List LI} {ls : Ls} {st0 : List Vl} {out : Out} (h : step M σ ((42, a, b, c, z) :: cs) ls st0 = some out) : ∃ (v0 : Vl) (st : List Vl), st0 = v0 :: st ∧ (cat v0 = 1) ∧ out = .inl (σ, cs, ls, v0 :: v0 :: st) := by
  rcases st0 with _ | ⟨w, st⟩
  · exact nomatch (show (none : Option Out) = some out from h)
  obtain ⟨v0, rfl⟩ : ∃ x, x = w := ⟨w, rfl⟩
  have h : (if cat v0 = 1 then some (Sum.inl (σ, cs, ls, v0 :: v0 :: st)) else none) = some out := h
  split at h
  · rename_i hc
    cases h
    exact ⟨v0, st, rfl, hc, rfl⟩
  · exact nomatch (show (none : Option Out) = some out from h)

theorem inv_43 {M : Nat → List LI} {σ : St} {a b c : Nat} {z : Int} {cs : List LI} {ls : Ls} {st0 : List Vl} {out : Out} (h : step M σ ((43, a, b, c, z) :: cs) ls st0 = some out) : ∃ (v0 : Vl) (v1 : Vl) (st : List Vl), st0 = v0 :: v1 :: st ∧ (cat v0 = 1 ∧ cat v1 = 1) ∧ out = .inl (σ, cs, ls, v0 :: v1 :: v0 :: v1 :: st) := by
  rcases st0 with _ | ⟨w, st⟩
  · exact nomatch (show (none : Option Out) = some out from h)
  obtain ⟨v0, rfl⟩ : ∃ x, x = w := ⟨w, rfl⟩
  rcases st with _ | ⟨w, st⟩
  · exact nomatch (show (none : Option Out) = some out from h)
  obtain ⟨v1, rfl⟩ : ∃ x, x = w := ⟨w, rfl⟩
  have h : (if cat v0 = 1 ∧ cat v1 = 1 then some (Sum.inl (σ, cs, ls, v0 :: v1 :: v0 :: v1 :: st)) else none) = some out := h
  split at h
  · rename_i hc
    cases h
    exact ⟨v0, v1, st, rfl, hc, rfl⟩
  · exact nomatch (show (none : Option Out) = some out from h)

theorem inv_44 {M : Nat → List LI} {σ : St} {a b c : Nat} {z : Int} {cs : List LI} {ls : Ls} {st0 : List Vl} {out : Out} (h : step M σ ((44, a, b, c, z) :: cs) ls st0 = some out) : ∃ (v0 : Vl) (st : List Vl), st0 = v0 :: st ∧ (cat v0 = 1) ∧ out = .inl (σ, cs, ls, st) := by
  rcases st0 with _ | ⟨w, st⟩
  · exact nomatch (show (none : Option Out) = some out from h)
  obtain ⟨v0, rfl⟩ : ∃ x, x = w := ⟨w, rfl⟩
  have h : (if cat v0 = 1 then some (Sum.inl (σ, cs, ls, st)) else none) = some out := h
  split at h
  · rename_i hc
    cases h
    exact ⟨v0, st, rfl, hc, rfl⟩
  · exact nomatch (show (none : Option Out) = some out from h)

theorem inv_45 {M : Nat → List LI} {σ : St} {a b c : Nat} {z : Int} {cs : List LI} {ls : Ls} {st0 : List Vl} {out : Out} (h : step M σ ((45, a, b, c, z) :: cs) ls st0 = some out) : ∃ (t0 q0 : Nat) (st : List Vl), st0 = vR t0 (some q0) :: st ∧ (t0 = a) ∧ out = .inl (σ, cs, ls, vI (gI σ q0 b) :: st) := by
  rcases st0 with _ | ⟨w, st⟩
  · exact nomatch (show (none : Option Out) = some out from h)
  rcases w with v0 | v0 | ⟨t0, q0⟩
  · exact nomatch (show (none : Option Out) = some out from h)
  · exact nomatch (show (none : Option Out) = some out from h)
  · rcases q0 with _ | q0
    · exact nomatch (show (none : Option Out) = some out from h)
    · skip
      have h : (if t0 = a then some (Sum.inl (σ, cs, ls, vI (gI σ q0 b) :: st)) else none) = some out := h
      split at h
      · rename_i hc
        cases h
        exact ⟨t0, q0, st, rfl, hc, rfl⟩
      · exact nomatch (show (none : Option Out) = some out from h)

theorem inv_46 {M : Nat → List LI} {σ : St} {a b c : Nat} {z : Int} {cs : List LI} {ls : Ls} {st0 : List Vl} {out : Out} (h : step M σ ((46, a, b, c, z) :: cs) ls st0 = some out) : ∃ (t0 q0 : Nat) (st : List Vl), st0 = vR t0 (some q0) :: st ∧ (t0 = a) ∧ out = .inl (σ, cs, ls, vL (gL σ q0 b) :: st) := by
  rcases st0 with _ | ⟨w, st⟩
  · exact nomatch (show (none : Option Out) = some out from h)
  rcases w with v0 | v0 | ⟨t0, q0⟩
  · exact nomatch (show (none : Option Out) = some out from h)
  · exact nomatch (show (none : Option Out) = some out from h)
  · rcases q0 with _ | q0
    · exact nomatch (show (none : Option Out) = some out from h)
    · skip
      have h : (if t0 = a then some (Sum.inl (σ, cs, ls, vL (gL σ q0 b) :: st)) else none) = some out := h
      split at h
      · rename_i hc
        cases h
        exact ⟨t0, q0, st, rfl, hc, rfl⟩
      · exact nomatch (show (none : Option Out) = some out from h)

theorem inv_47 {M : Nat → List LI} {σ : St} {a b c : Nat} {z : Int} {cs : List LI} {ls : Ls} {st0 : List Vl} {out : Out} (h : step M σ ((47, a, b, c, z) :: cs) ls st0 = some out) : ∃ (t0 q0 : Nat) (st : List Vl), st0 = vR t0 (some q0) :: st ∧ (t0 = a) ∧ out = .inl (σ, cs, ls, vR c (gR σ q0 b) :: st) := by
  rcases st0 with _ | ⟨w, st⟩
  · exact nomatch (show (none : Option Out) = some out from h)
  rcases w with v0 | v0 | ⟨t0, q0⟩
  · exact nomatch (show (none : Option Out) = some out from h)
  · exact nomatch (show (none : Option Out) = some out from h)
  · rcases q0 with _ | q0
    · exact nomatch (show (none : Option Out) = some out from h)
    · skip
      have h : (if t0 = a then some (Sum.inl (σ, cs, ls, vR c (gR σ q0 b) :: st)) else none) = some out := h
      split at h
      · rename_i hc
        cases h
        exact ⟨t0, q0, st, rfl, hc, rfl⟩
      · exact nomatch (show (none : Option Out) = some out from h)

theorem inv_48 {M : Nat → List LI} {σ : St} {a b c : Nat} {z : Int} {cs : List LI} {ls : Ls} {st0 : List Vl} {out : Out} (h : step M σ ((48, a, b, c, z) :: cs) ls st0 = some out) : ∃ (v0 : Int) (t1 q1 : Nat) (st : List Vl), st0 = vI v0 :: vR t1 (some q1) :: st ∧ (t1 = a ∧ (c = 0 ∨ (0 ≤ v0 ∧ v0 ≤ 1))) ∧ out = .inl (wI σ q1 b v0, cs, ls, st) := by
  rcases st0 with _ | ⟨w, st⟩
  · exact nomatch (show (none : Option Out) = some out from h)
  rcases w with v0 | v0 | ⟨t0, q0⟩
  · skip
    rcases st with _ | ⟨w, st⟩
    · exact nomatch (show (none : Option Out) = some out from h)
    rcases w with v1 | v1 | ⟨t1, q1⟩
    · exact nomatch (show (none : Option Out) = some out from h)
    · exact nomatch (show (none : Option Out) = some out from h)
    · rcases q1 with _ | q1
      · exact nomatch (show (none : Option Out) = some out from h)
      · skip
        have h : (if t1 = a ∧ (c = 0 ∨ (0 ≤ v0 ∧ v0 ≤ 1)) then some (Sum.inl (wI σ q1 b v0, cs, ls, st)) else none) = some out := h
        split at h
        · rename_i hc
          cases h
          exact ⟨v0, t1, q1, st, rfl, hc, rfl⟩
        · exact nomatch (show (none : Option Out) = some out from h)
  · exact nomatch (show (none : Option Out) = some out from h)
  · exact nomatch (show (none : Option Out) = some out from h)

theorem inv_49 {M : Nat → List LI} {σ : St} {a b c : Nat} {z : Int} {cs : List LI} {ls : Ls} {st0 : List Vl} {out : Out} (h : step M σ ((49, a, b, c, z) :: cs) ls st0 = some out) : ∃ (v0 : BitVec 64) (t1 q1 : Nat) (st : List Vl), st0 = vL v0 :: vR t1 (some q1) :: st ∧ (t1 = a) ∧ out = .inl (wL σ q1 b v0, cs, ls, st) := by
  rcases st0 with _ | ⟨w, st⟩
  · exact nomatch (show (none : Option Out) = some out from h)
  rcases w with v0 | v0 | ⟨t0, q0⟩
  · exact nomatch (show (none : Option Out) = some out from h)
  · skip
    rcases st with _ | ⟨w, st⟩
    · exact nomatch (show (none : Option Out) = some out from h)
    rcases w with v1 | v1 | ⟨t1, q1⟩
    · exact nomatch (show (none : Option Out) = some out from h)
    · exact nomatch (show (none : Option Out) = some out from h)
    · rcases q1 with _ | q1
      · exact nomatch (show (none : Option Out) = some out from h)
      · skip
        have h : (if t1 = a then some (Sum.inl (wL σ q1 b v0, cs, ls, st)) else none) = some out := h
        split at h
        · rename_i hc
          cases h
          exact ⟨v0, t1, q1, st, rfl, hc, rfl⟩
        · exact nomatch (show (none : Option Out) = some out from h)
  · exact nomatch (show (none : Option Out) = some out from h)

theorem inv_50 {M : Nat → List LI} {σ : St} {a b c : Nat} {z : Int} {cs : List LI} {ls : Ls} {st0 : List Vl} {out : Out} (h : step M σ ((50, a, b, c, z) :: cs) ls st0 = some out) : ∃ (t0 : Nat) (q0 : Option Nat) (t1 q1 : Nat) (st : List Vl), st0 = vR t0 q0 :: vR t1 (some q1) :: st ∧ (t1 = a ∧ t0 = c) ∧ out = .inl (wR σ q1 b q0, cs, ls, st) := by
  rcases st0 with _ | ⟨w, st⟩
  · exact nomatch (show (none : Option Out) = some out from h)
  rcases w with v0 | v0 | ⟨t0, q0⟩
  · exact nomatch (show (none : Option Out) = some out from h)
  · exact nomatch (show (none : Option Out) = some out from h)
  · skip
    rcases st with _ | ⟨w, st⟩
    · exact nomatch (show (none : Option Out) = some out from h)
    rcases w with v1 | v1 | ⟨t1, q1⟩
    · exact nomatch (show (none : Option Out) = some out from h)
    · exact nomatch (show (none : Option Out) = some out from h)
    · rcases q1 with _ | q1
      · exact nomatch (show (none : Option Out) = some out from h)
      · skip
        have h : (if t1 = a ∧ t0 = c then some (Sum.inl (wR σ q1 b q0, cs, ls, st)) else none) = some out := h
        split at h
        · rename_i hc
          cases h
          exact ⟨t0, q0, t1, q1, st, rfl, hc, rfl⟩
        · exact nomatch (show (none : Option Out) = some out from h)

theorem inv_52 {M : Nat → List LI} {σ : St} {a b c : Nat} {z : Int} {cs : List LI} {ls : Ls} {st0 : List Vl} {out : Out} (h : step M σ ((52, a, b, c, z) :: cs) ls st0 = some out) : ∃ (v0 : Int) (t1 q1 : Nat) (st : List Vl), st0 = vI v0 :: vR t1 (some q1) :: st ∧ ((t1 = 14 ∨ t1 = 20) ∧ inbB v0 (ln σ q1) = true) ∧ out = .inl (σ, cs, ls, vI (gI σ q1 v0.toNat) :: st) := by
  rcases st0 with _ | ⟨w, st⟩
  · exact nomatch (show (none : Option Out) = some out from h)
  rcases w with v0 | v0 | ⟨t0, q0⟩
  · skip
    rcases st with _ | ⟨w, st⟩
    · exact nomatch (show (none : Option Out) = some out from h)
    rcases w with v1 | v1 | ⟨t1, q1⟩
    · exact nomatch (show (none : Option Out) = some out from h)
    · exact nomatch (show (none : Option Out) = some out from h)
    · rcases q1 with _ | q1
      · exact nomatch (show (none : Option Out) = some out from h)
      · skip
        have h : (if (t1 = 14 ∨ t1 = 20) ∧ inbB v0 (ln σ q1) = true then some (Sum.inl (σ, cs, ls, vI (gI σ q1 v0.toNat) :: st)) else none) = some out := h
        split at h
        · rename_i hc
          cases h
          exact ⟨v0, t1, q1, st, rfl, hc, rfl⟩
        · exact nomatch (show (none : Option Out) = some out from h)
  · exact nomatch (show (none : Option Out) = some out from h)
  · exact nomatch (show (none : Option Out) = some out from h)

theorem inv_53 {M : Nat → List LI} {σ : St} {a b c : Nat} {z : Int} {cs : List LI} {ls : Ls} {st0 : List Vl} {out : Out} (h : step M σ ((53, a, b, c, z) :: cs) ls st0 = some out) : ∃ (v0 : Int) (t1 q1 : Nat) (st : List Vl), st0 = vI v0 :: vR t1 (some q1) :: st ∧ (t1 = 15 ∧ inbB v0 (ln σ q1) = true) ∧ out = .inl (σ, cs, ls, vL (gL σ q1 v0.toNat) :: st) := by
  rcases st0 with _ | ⟨w, st⟩
  · exact nomatch (show (none : Option Out) = some out from h)
  rcases w with v0 | v0 | ⟨t0, q0⟩
  · skip
    rcases st with _ | ⟨w, st⟩
    · exact nomatch (show (none : Option Out) = some out from h)
    rcases w with v1 | v1 | ⟨t1, q1⟩
    · exact nomatch (show (none : Option Out) = some out from h)
    · exact nomatch (show (none : Option Out) = some out from h)
    · rcases q1 with _ | q1
      · exact nomatch (show (none : Option Out) = some out from h)
      · skip
        have h : (if t1 = 15 ∧ inbB v0 (ln σ q1) = true then some (Sum.inl (σ, cs, ls, vL (gL σ q1 v0.toNat) :: st)) else none) = some out := h
        split at h
        · rename_i hc
          cases h
          exact ⟨v0, t1, q1, st, rfl, hc, rfl⟩
        · exact nomatch (show (none : Option Out) = some out from h)
  · exact nomatch (show (none : Option Out) = some out from h)
  · exact nomatch (show (none : Option Out) = some out from h)

theorem inv_54 {M : Nat → List LI} {σ : St} {a b c : Nat} {z : Int} {cs : List LI} {ls : Ls} {st0 : List Vl} {out : Out} (h : step M σ ((54, a, b, c, z) :: cs) ls st0 = some out) : ∃ (v0 : Int) (t1 q1 : Nat) (st : List Vl), st0 = vI v0 :: vR t1 (some q1) :: st ∧ (t1 = 13 ∧ inbB v0 (ln σ q1) = true) ∧ out = .inl (σ, cs, ls, vI (gI σ q1 v0.toNat) :: st) := by
  rcases st0 with _ | ⟨w, st⟩
  · exact nomatch (show (none : Option Out) = some out from h)
  rcases w with v0 | v0 | ⟨t0, q0⟩
  · skip
    rcases st with _ | ⟨w, st⟩
    · exact nomatch (show (none : Option Out) = some out from h)
    rcases w with v1 | v1 | ⟨t1, q1⟩
    · exact nomatch (show (none : Option Out) = some out from h)
    · exact nomatch (show (none : Option Out) = some out from h)
    · rcases q1 with _ | q1
      · exact nomatch (show (none : Option Out) = some out from h)
      · skip
        have h : (if t1 = 13 ∧ inbB v0 (ln σ q1) = true then some (Sum.inl (σ, cs, ls, vI (gI σ q1 v0.toNat) :: st)) else none) = some out := h
        split at h
        · rename_i hc
          cases h
          exact ⟨v0, t1, q1, st, rfl, hc, rfl⟩
        · exact nomatch (show (none : Option Out) = some out from h)
  · exact nomatch (show (none : Option Out) = some out from h)
  · exact nomatch (show (none : Option Out) = some out from h)

theorem inv_55 {M : Nat → List LI} {σ : St} {a b c : Nat} {z : Int} {cs : List LI} {ls : Ls} {st0 : List Vl} {out : Out} (h : step M σ ((55, a, b, c, z) :: cs) ls st0 = some out) : ∃ (v0 : Int) (t1 q1 : Nat) (st : List Vl), st0 = vI v0 :: vR t1 (some q1) :: st ∧ (t1 = 16 ∧ inbB v0 (ln σ q1) = true) ∧ out = .inl (σ, cs, ls, vI (gI σ q1 v0.toNat) :: st) := by
  rcases st0 with _ | ⟨w, st⟩
  · exact nomatch (show (none : Option Out) = some out from h)
  rcases w with v0 | v0 | ⟨t0, q0⟩
  · skip
    rcases st with _ | ⟨w, st⟩
    · exact nomatch (show (none : Option Out) = some out from h)
    rcases w with v1 | v1 | ⟨t1, q1⟩
    · exact nomatch (show (none : Option Out) = some out from h)
    · exact nomatch (show (none : Option Out) = some out from h)
    · rcases q1 with _ | q1
      · exact nomatch (show (none : Option Out) = some out from h)
      · skip
        have h : (if t1 = 16 ∧ inbB v0 (ln σ q1) = true then some (Sum.inl (σ, cs, ls, vI (gI σ q1 v0.toNat) :: st)) else none) = some out := h
        split at h
        · rename_i hc
          cases h
          exact ⟨v0, t1, q1, st, rfl, hc, rfl⟩
        · exact nomatch (show (none : Option Out) = some out from h)
  · exact nomatch (show (none : Option Out) = some out from h)
  · exact nomatch (show (none : Option Out) = some out from h)

theorem inv_56 {M : Nat → List LI} {σ : St} {a b c : Nat} {z : Int} {cs : List LI} {ls : Ls} {st0 : List Vl} {out : Out} (h : step M σ ((56, a, b, c, z) :: cs) ls st0 = some out) : ∃ (v0 : Int) (t1 q1 : Nat) (st : List Vl), st0 = vI v0 :: vR t1 (some q1) :: st ∧ (t1 = a ∧ inbB v0 (ln σ q1) = true) ∧ out = .inl (σ, cs, ls, vR c (gR σ q1 v0.toNat) :: st) := by
  rcases st0 with _ | ⟨w, st⟩
  · exact nomatch (show (none : Option Out) = some out from h)
  rcases w with v0 | v0 | ⟨t0, q0⟩
  · skip
    rcases st with _ | ⟨w, st⟩
    · exact nomatch (show (none : Option Out) = some out from h)
    rcases w with v1 | v1 | ⟨t1, q1⟩
    · exact nomatch (show (none : Option Out) = some out from h)
    · exact nomatch (show (none : Option Out) = some out from h)
    · rcases q1 with _ | q1
      · exact nomatch (show (none : Option Out) = some out from h)
      · skip
        have h : (if t1 = a ∧ inbB v0 (ln σ q1) = true then some (Sum.inl (σ, cs, ls, vR c (gR σ q1 v0.toNat) :: st)) else none) = some out := h
        split at h
        · rename_i hc
          cases h
          exact ⟨v0, t1, q1, st, rfl, hc, rfl⟩
        · exact nomatch (show (none : Option Out) = some out from h)
  · exact nomatch (show (none : Option Out) = some out from h)
  · exact nomatch (show (none : Option Out) = some out from h)

theorem inv_57 {M : Nat → List LI} {σ : St} {a b c : Nat} {z : Int} {cs : List LI} {ls : Ls} {st0 : List Vl} {out : Out} (h : step M σ ((57, a, b, c, z) :: cs) ls st0 = some out) : ∃ (v0 : Int) (v1 : Int) (t2 q2 : Nat) (st : List Vl), st0 = vI v0 :: vI v1 :: vR t2 (some q2) :: st ∧ (t2 = 14 ∧ inbB v1 (ln σ q2) = true) ∧ out = .inl (wI σ q2 v1.toNat v0, cs, ls, st) := by
  rcases st0 with _ | ⟨w, st⟩
  · exact nomatch (show (none : Option Out) = some out from h)
  rcases w with v0 | v0 | ⟨t0, q0⟩
  · skip
    rcases st with _ | ⟨w, st⟩
    · exact nomatch (show (none : Option Out) = some out from h)
    rcases w with v1 | v1 | ⟨t1, q1⟩
    · skip
      rcases st with _ | ⟨w, st⟩
      · exact nomatch (show (none : Option Out) = some out from h)
      rcases w with v2 | v2 | ⟨t2, q2⟩
      · exact nomatch (show (none : Option Out) = some out from h)
      · exact nomatch (show (none : Option Out) = some out from h)
      · rcases q2 with _ | q2
        · exact nomatch (show (none : Option Out) = some out from h)
        · skip
          have h : (if t2 = 14 ∧ inbB v1 (ln σ q2) = true then some (Sum.inl (wI σ q2 v1.toNat v0, cs, ls, st)) else none) = some out := h
          split at h
          · rename_i hc
            cases h
            exact ⟨v0, v1, t2, q2, st, rfl, hc, rfl⟩
          · exact nomatch (show (none : Option Out) = some out from h)
    · exact nomatch (show (none : Option Out) = some out from h)
    · exact nomatch (show (none : Option Out) = some out from h)
  · exact nomatch (show (none : Option Out) = some out from h)
  · exact nomatch (show (none : Option Out) = some out from h)

theorem inv_58 {M : Nat → List LI} {σ : St} {a b c : Nat} {z : Int} {cs : List LI} {ls : Ls} {st0 : List Vl} {out : Out} (h : step M σ ((58, a, b, c, z) :: cs) ls st0 = some out) : ∃ (v0 : BitVec 64) (v1 : Int) (t2 q2 : Nat) (st : List Vl), st0 = vL v0 :: vI v1 :: vR t2 (some q2) :: st ∧ (t2 = 15 ∧ inbB v1 (ln σ q2) = true) ∧ out = .inl (wL σ q2 v1.toNat v0, cs, ls, st) := by
  rcases st0 with _ | ⟨w, st⟩
  · exact nomatch (show (none : Option Out) = some out from h)
  rcases w with v0 | v0 | ⟨t0, q0⟩
  · exact nomatch (show (none : Option Out) = some out from h)
  · skip
    rcases st with _ | ⟨w, st⟩
    · exact nomatch (show (none : Option Out) = some out from h)
    rcases w with v1 | v1 | ⟨t1, q1⟩
    · skip
      rcases st with _ | ⟨w, st⟩
      · exact nomatch (show (none : Option Out) = some out from h)
      rcases w with v2 | v2 | ⟨t2, q2⟩
      · exact nomatch (show (none : Option Out) = some out from h)
      · exact nomatch (show (none : Option Out) = some out from h)
      · rcases q2 with _ | q2
        · exact nomatch (show (none : Option Out) = some out from h)
        · skip
          have h : (if t2 = 15 ∧ inbB v1 (ln σ q2) = true then some (Sum.inl (wL σ q2 v1.toNat v0, cs, ls, st)) else none) = some out := h
          split at h
          · rename_i hc
            cases h
            exact ⟨v0, v1, t2, q2, st, rfl, hc, rfl⟩
          · exact nomatch (show (none : Option Out) = some out from h)
    · exact nomatch (show (none : Option Out) = some out from h)
    · exact nomatch (show (none : Option Out) = some out from h)
  · exact nomatch (show (none : Option Out) = some out from h)

theorem inv_59 {M : Nat → List LI} {σ : St} {a b c : Nat} {z : Int} {cs : List LI} {ls : Ls} {st0 : List Vl} {out : Out} (h : step M σ ((59, a, b, c, z) :: cs) ls st0 = some out) : ∃ (v0 : Int) (v1 : Int) (t2 q2 : Nat) (st : List Vl), st0 = vI v0 :: vI v1 :: vR t2 (some q2) :: st ∧ (t2 = 13 ∧ inbB v1 (ln σ q2) = true ∧ -128 ≤ v0 ∧ v0 ≤ 127) ∧ out = .inl (wI σ q2 v1.toNat v0, cs, ls, st) := by
  rcases st0 with _ | ⟨w, st⟩
  · exact nomatch (show (none : Option Out) = some out from h)
  rcases w with v0 | v0 | ⟨t0, q0⟩
  · skip
    rcases st with _ | ⟨w, st⟩
    · exact nomatch (show (none : Option Out) = some out from h)
    rcases w with v1 | v1 | ⟨t1, q1⟩
    · skip
      rcases st with _ | ⟨w, st⟩
      · exact nomatch (show (none : Option Out) = some out from h)
      rcases w with v2 | v2 | ⟨t2, q2⟩
      · exact nomatch (show (none : Option Out) = some out from h)
      · exact nomatch (show (none : Option Out) = some out from h)
      · rcases q2 with _ | q2
        · exact nomatch (show (none : Option Out) = some out from h)
        · skip
          have h : (if t2 = 13 ∧ inbB v1 (ln σ q2) = true ∧ -128 ≤ v0 ∧ v0 ≤ 127 then some (Sum.inl (wI σ q2 v1.toNat v0, cs, ls, st)) else none) = some out := h
          split at h
          · rename_i hc
            cases h
            exact ⟨v0, v1, t2, q2, st, rfl, hc, rfl⟩
          · exact nomatch (show (none : Option Out) = some out from h)
    · exact nomatch (show (none : Option Out) = some out from h)
    · exact nomatch (show (none : Option Out) = some out from h)
  · exact nomatch (show (none : Option Out) = some out from h)
  · exact nomatch (show (none : Option Out) = some out from h)

theorem inv_60 {M : Nat → List LI} {σ : St} {a b c : Nat} {z : Int} {cs : List LI} {ls : Ls} {st0 : List Vl} {out : Out} (h : step M σ ((60, a, b, c, z) :: cs) ls st0 = some out) : ∃ (v0 : Int) (v1 : Int) (t2 q2 : Nat) (st : List Vl), st0 = vI v0 :: vI v1 :: vR t2 (some q2) :: st ∧ (t2 = 16 ∧ inbB v1 (ln σ q2) = true ∧ 0 ≤ v0 ∧ v0 ≤ 1) ∧ out = .inl (wI σ q2 v1.toNat v0, cs, ls, st) := by
  rcases st0 with _ | ⟨w, st⟩
  · exact nomatch (show (none : Option Out) = some out from h)
  rcases w with v0 | v0 | ⟨t0, q0⟩
  · skip
    rcases st with _ | ⟨w, st⟩
    · exact nomatch (show (none : Option Out) = some out from h)
    rcases w with v1 | v1 | ⟨t1, q1⟩
    · skip
      rcases st with _ | ⟨w, st⟩
      · exact nomatch (show (none : Option Out) = some out from h)
      rcases w with v2 | v2 | ⟨t2, q2⟩
      · exact nomatch (show (none : Option Out) = some out from h)
      · exact nomatch (show (none : Option Out) = some out from h)
      · rcases q2 with _ | q2
        · exact nomatch (show (none : Option Out) = some out from h)
        · skip
          have h : (if t2 = 16 ∧ inbB v1 (ln σ q2) = true ∧ 0 ≤ v0 ∧ v0 ≤ 1 then some (Sum.inl (wI σ q2 v1.toNat v0, cs, ls, st)) else none) = some out := h
          split at h
          · rename_i hc
            cases h
            exact ⟨v0, v1, t2, q2, st, rfl, hc, rfl⟩
          · exact nomatch (show (none : Option Out) = some out from h)
    · exact nomatch (show (none : Option Out) = some out from h)
    · exact nomatch (show (none : Option Out) = some out from h)
  · exact nomatch (show (none : Option Out) = some out from h)
  · exact nomatch (show (none : Option Out) = some out from h)

theorem inv_61 {M : Nat → List LI} {σ : St} {a b c : Nat} {z : Int} {cs : List LI} {ls : Ls} {st0 : List Vl} {out : Out} (h : step M σ ((61, a, b, c, z) :: cs) ls st0 = some out) : ∃ (t0 q0 : Nat) (v1 : Int) (t2 q2 : Nat) (st : List Vl), st0 = vR t0 (some q0) :: vI v1 :: vR t2 (some q2) :: st ∧ (t2 = a ∧ t0 = c ∧ inbB v1 (ln σ q2) = true) ∧ out = .inl (wR σ q2 v1.toNat (some q0), cs, ls, st) := by
  rcases st0 with _ | ⟨w, st⟩
  · exact nomatch (show (none : Option Out) = some out from h)
  rcases w with v0 | v0 | ⟨t0, q0⟩
  · exact nomatch (show (none : Option Out) = some out from h)
  · exact nomatch (show (none : Option Out) = some out from h)
  · rcases q0 with _ | q0
    · exact nomatch (show (none : Option Out) = some out from h)
    · skip
      rcases st with _ | ⟨w, st⟩
      · exact nomatch (show (none : Option Out) = some out from h)
      rcases w with v1 | v1 | ⟨t1, q1⟩
      · skip
        rcases st with _ | ⟨w, st⟩
        · exact nomatch (show (none : Option Out) = some out from h)
        rcases w with v2 | v2 | ⟨t2, q2⟩
        · exact nomatch (show (none : Option Out) = some out from h)
        · exact nomatch (show (none : Option Out) = some out from h)
        · rcases q2 with _ | q2
          · exact nomatch (show (none : Option Out) = some out from h)
          · skip
            have h : (if t2 = a ∧ t0 = c ∧ inbB v1 (ln σ q2) = true then some (Sum.inl (wR σ q2 v1.toNat (some q0), cs, ls, st)) else none) = some out := h
            split at h
            · rename_i hc
              cases h
              exact ⟨t0, q0, v1, t2, q2, st, rfl, hc, rfl⟩
            · exact nomatch (show (none : Option Out) = some out from h)
      · exact nomatch (show (none : Option Out) = some out from h)
      · exact nomatch (show (none : Option Out) = some out from h)

theorem inv_62 {M : Nat → List LI} {σ : St} {a b c : Nat} {z : Int} {cs : List LI} {ls : Ls} {st0 : List Vl} {out : Out} (h : step M σ ((62, a, b, c, z) :: cs) ls st0 = some out) : ∃ (t0 q0 : Nat) (st : List Vl), st0 = vR t0 (some q0) :: st ∧ ((13 ≤ t0 ∧ t0 ≤ 20) ∧ (ln σ q0 : Int) < 2147483648) ∧ out = .inl (σ, cs, ls, vI (ln σ q0) :: st) := by
  rcases st0 with _ | ⟨w, st⟩
  · exact nomatch (show (none : Option Out) = some out from h)
  rcases w with v0 | v0 | ⟨t0, q0⟩
  · exact nomatch (show (none : Option Out) = some out from h)
  · exact nomatch (show (none : Option Out) = some out from h)
  · rcases q0 with _ | q0
    · exact nomatch (show (none : Option Out) = some out from h)
    · skip
      have h : (if (13 ≤ t0 ∧ t0 ≤ 20) ∧ (ln σ q0 : Int) < 2147483648 then some (Sum.inl (σ, cs, ls, vI (ln σ q0) :: st)) else none) = some out := h
      split at h
      · rename_i hc
        cases h
        exact ⟨t0, q0, st, rfl, hc, rfl⟩
      · exact nomatch (show (none : Option Out) = some out from h)

theorem inv_63 {M : Nat → List LI} {σ : St} {a b c : Nat} {z : Int} {cs : List LI} {ls : Ls} {st0 : List Vl} {out : Out} (h : step M σ ((63, a, b, c, z) :: cs) ls st0 = some out) : ∃ (v0 : Int) (st : List Vl), st0 = vI v0 :: st ∧ (0 ≤ v0 ∧ v0 ≤ 1000000) ∧ out = .inl (mk σ a v0.toNat v0.toNat, cs, ls, vR a (some (nx σ)) :: st) := by
  rcases st0 with _ | ⟨w, st⟩
  · exact nomatch (show (none : Option Out) = some out from h)
  rcases w with v0 | v0 | ⟨t0, q0⟩
  · skip
    have h : (if 0 ≤ v0 ∧ v0 ≤ 1000000 then some (Sum.inl (mk σ a v0.toNat v0.toNat, cs, ls, vR a (some (nx σ)) :: st)) else none) = some out := h
    split at h
    · rename_i hc
      cases h
      exact ⟨v0, st, rfl, hc, rfl⟩
    · exact nomatch (show (none : Option Out) = some out from h)
  · exact nomatch (show (none : Option Out) = some out from h)
  · exact nomatch (show (none : Option Out) = some out from h)

theorem inv_64 {M : Nat → List LI} {σ : St} {a b c : Nat} {z : Int} {cs : List LI} {ls : Ls} {st0 : List Vl} {out : Out} (h : step M σ ((64, a, b, c, z) :: cs) ls st0 = some out) : ∃ (v0 : Int) (st : List Vl), st0 = vI v0 :: st ∧ (0 ≤ v0 ∧ v0 ≤ 1000000) ∧ out = .inl (mk σ a v0.toNat v0.toNat, cs, ls, vR a (some (nx σ)) :: st) := by
  rcases st0 with _ | ⟨w, st⟩
  · exact nomatch (show (none : Option Out) = some out from h)
  rcases w with v0 | v0 | ⟨t0, q0⟩
  · skip
    have h : (if 0 ≤ v0 ∧ v0 ≤ 1000000 then some (Sum.inl (mk σ a v0.toNat v0.toNat, cs, ls, vR a (some (nx σ)) :: st)) else none) = some out := h
    split at h
    · rename_i hc
      cases h
      exact ⟨v0, st, rfl, hc, rfl⟩
    · exact nomatch (show (none : Option Out) = some out from h)
  · exact nomatch (show (none : Option Out) = some out from h)
  · exact nomatch (show (none : Option Out) = some out from h)

theorem inv_65 {M : Nat → List LI} {σ : St} {a b c : Nat} {z : Int} {cs : List LI} {ls : Ls} {st0 : List Vl} {out : Out} (h : step M σ ((65, a, b, c, z) :: cs) ls st0 = some out) : ∃ (v0 : Int) (v1 : Int) (st : List Vl), st0 = vI v0 :: vI v1 :: st ∧ (v0 = 0 ∧ v1 = 20) ∧ out = .inl (mkM σ, cs, ls, vR 19 (some (nx σ)) :: st) := by
  rcases st0 with _ | ⟨w, st⟩
  · exact nomatch (show (none : Option Out) = some out from h)
  rcases w with v0 | v0 | ⟨t0, q0⟩
  · skip
    rcases st with _ | ⟨w, st⟩
    · exact nomatch (show (none : Option Out) = some out from h)
    rcases w with v1 | v1 | ⟨t1, q1⟩
    · skip
      have h : (if v0 = 0 ∧ v1 = 20 then some (Sum.inl (mkM σ, cs, ls, vR 19 (some (nx σ)) :: st)) else none) = some out := h
      split at h
      · rename_i hc
        cases h
        exact ⟨v0, v1, st, rfl, hc, rfl⟩
      · exact nomatch (show (none : Option Out) = some out from h)
    · exact nomatch (show (none : Option Out) = some out from h)
    · exact nomatch (show (none : Option Out) = some out from h)
  · exact nomatch (show (none : Option Out) = some out from h)
  · exact nomatch (show (none : Option Out) = some out from h)

theorem inv_68 {M : Nat → List LI} {σ : St} {a b c : Nat} {z : Int} {cs : List LI} {ls : Ls} {st0 : List Vl} {out : Out} (h : step M σ ((68, a, b, c, z) :: cs) ls st0 = some out) : ∃ (t0 q0 : Nat) (st : List Vl), st0 = vR t0 (some q0) :: st ∧ (stW st ≤ 8) ∧ out = .inl (σ, cs, ls, st) := by
  rcases st0 with _ | ⟨w, st⟩
  · exact nomatch (show (none : Option Out) = some out from h)
  rcases w with v0 | v0 | ⟨t0, q0⟩
  · exact nomatch (show (none : Option Out) = some out from h)
  · exact nomatch (show (none : Option Out) = some out from h)
  · rcases q0 with _ | q0
    · exact nomatch (show (none : Option Out) = some out from h)
    · skip
      have h : (if stW st ≤ 8 then some (Sum.inl (σ, cs, ls, st)) else none) = some out := h
      split at h
      · rename_i hc
        cases h
        exact ⟨t0, q0, st, rfl, hc, rfl⟩
      · exact nomatch (show (none : Option Out) = some out from h)

theorem inv_75 {M : Nat → List LI} {σ : St} {a b c : Nat} {z : Int} {cs : List LI} {ls : Ls} {st0 : List Vl} {out : Out} (h : step M σ ((75, a, b, c, z) :: cs) ls st0 = some out) : ∃ (v0 : Int) (v1 : Int) (st : List Vl), st0 = vI v0 :: vI v1 :: st ∧ (stW st ≤ 8) ∧ out = .inl (σ, cs, ls, vI (iMax v1 v0) :: st) := by
  rcases st0 with _ | ⟨w, st⟩
  · exact nomatch (show (none : Option Out) = some out from h)
  rcases w with v0 | v0 | ⟨t0, q0⟩
  · skip
    rcases st with _ | ⟨w, st⟩
    · exact nomatch (show (none : Option Out) = some out from h)
    rcases w with v1 | v1 | ⟨t1, q1⟩
    · skip
      have h : (if stW st ≤ 8 then some (Sum.inl (σ, cs, ls, vI (iMax v1 v0) :: st)) else none) = some out := h
      split at h
      · rename_i hc
        cases h
        exact ⟨v0, v1, st, rfl, hc, rfl⟩
      · exact nomatch (show (none : Option Out) = some out from h)
    · exact nomatch (show (none : Option Out) = some out from h)
    · exact nomatch (show (none : Option Out) = some out from h)
  · exact nomatch (show (none : Option Out) = some out from h)
  · exact nomatch (show (none : Option Out) = some out from h)

theorem inv_76 {M : Nat → List LI} {σ : St} {a b c : Nat} {z : Int} {cs : List LI} {ls : Ls} {st0 : List Vl} {out : Out} (h : step M σ ((76, a, b, c, z) :: cs) ls st0 = some out) : ∃ (v0 : Int) (v1 : Int) (st : List Vl), st0 = vI v0 :: vI v1 :: st ∧ (stW st ≤ 8) ∧ out = .inl (σ, cs, ls, vI (iMin v1 v0) :: st) := by
  rcases st0 with _ | ⟨w, st⟩
  · exact nomatch (show (none : Option Out) = some out from h)
  rcases w with v0 | v0 | ⟨t0, q0⟩
  · skip
    rcases st with _ | ⟨w, st⟩
    · exact nomatch (show (none : Option Out) = some out from h)
    rcases w with v1 | v1 | ⟨t1, q1⟩
    · skip
      have h : (if stW st ≤ 8 then some (Sum.inl (σ, cs, ls, vI (iMin v1 v0) :: st)) else none) = some out := h
      split at h
      · rename_i hc
        cases h
        exact ⟨v0, v1, st, rfl, hc, rfl⟩
      · exact nomatch (show (none : Option Out) = some out from h)
    · exact nomatch (show (none : Option Out) = some out from h)
    · exact nomatch (show (none : Option Out) = some out from h)
  · exact nomatch (show (none : Option Out) = some out from h)
  · exact nomatch (show (none : Option Out) = some out from h)

theorem inv_1 {M : Nat → List LI} {σ : St} {a b c : Nat} {z : Int} {cs : List LI} {ls : Ls} {st : List Vl} {out : Out} (h : step M σ ((1, a, b, c, z) :: cs) ls st = some out) : ∃ x : Int, ls[a]? = some (some (vI x)) ∧ out = .inl (σ, cs, ls, vI x :: st) := by
  have h : s_load σ cs ls st 1 a = some out := h
  unfold s_load at h
  rcases e : ls[a]? with _ | _ | x | x | x <;> rw [e] at h
  · exact nomatch h
  · exact nomatch h
  · cases h
    exact ⟨x, rfl, rfl⟩
  · exact nomatch h
  · exact nomatch h
theorem inv_2 {M : Nat → List LI} {σ : St} {a b c : Nat} {z : Int} {cs : List LI} {ls : Ls} {st : List Vl} {out : Out} (h : step M σ ((2, a, b, c, z) :: cs) ls st = some out) : ∃ x : BitVec 64, ls[a]? = some (some (vL x)) ∧ out = .inl (σ, cs, ls, vL x :: st) := by
  have h : s_load σ cs ls st 2 a = some out := h
  unfold s_load at h
  rcases e : ls[a]? with _ | _ | x | x | x <;> rw [e] at h
  · exact nomatch h
  · exact nomatch h
  · exact nomatch h
  · cases h
    exact ⟨x, rfl, rfl⟩
  · exact nomatch h
theorem inv_3 {M : Nat → List LI} {σ : St} {a b c : Nat} {z : Int} {cs : List LI} {ls : Ls} {st : List Vl} {out : Out} (h : step M σ ((3, a, b, c, z) :: cs) ls st = some out) : ∃ (t : Nat) (q : Option Nat), ls[a]? = some (some (vR t q)) ∧ out = .inl (σ, cs, ls, vR t q :: st) := by
  have h : s_load σ cs ls st 3 a = some out := h
  unfold s_load at h
  rcases e : ls[a]? with _ | _ | x | x | ⟨t, q⟩ <;> rw [e] at h
  · exact nomatch h
  · exact nomatch h
  · exact nomatch h
  · exact nomatch h
  · cases h
    exact ⟨t, q, rfl, rfl⟩
theorem inv_35 {M : Nat → List LI} {σ : St} {a b c : Nat} {z : Int} {cs : List LI} {ls : Ls} {st : List Vl} {out : Out} (h : step M σ ((35, a, b, c, z) :: cs) ls st = some out) : ∃ x : Int, ls[a]? = some (some (vI x)) ∧ Rg (x + z) ∧ out = .inl (σ, cs, lSet1 ls a (vI (x + z)), st) := by
  have h : s_inc σ cs ls st a z = some out := h
  unfold s_inc at h
  rcases e : ls[a]? with _ | _ | x | x | x <;> rw [e] at h
  · exact nomatch h
  · exact nomatch h
  · dsimp only at h
    split at h
    · rename_i hc
      cases h
      exact ⟨x, rfl, (rgB_iff _).mp hc, rfl⟩
    · exact nomatch h
  · exact nomatch h
  · exact nomatch h
theorem inv_7 {M : Nat → List LI} {σ : St} {a b c : Nat} {z : Int} {cs : List LI} {ls : Ls} {st : List Vl} {out : Out} (h : step M σ ((7, a, b, c, z) :: cs) ls st = some out) : Rg z ∧ out = .inl (σ, cs, ls, vI z :: st) := by
  have h : (if rgB z = true then some (Sum.inl (σ, cs, ls, vI z :: st)) else none) = some out := h
  split at h
  · rename_i hc
    cases h
    exact ⟨(rgB_iff _).mp hc, rfl⟩
  · exact nomatch h
theorem inv_51 {M : Nat → List LI} {σ : St} {a b c : Nat} {z : Int} {cs : List LI} {ls : Ls} {st : List Vl} {out : Out} (h : step M σ ((51, a, b, c, z) :: cs) ls st = some out) : ∃ q, stA σ a = some q ∧ out = .inl (σ, cs, ls, vR 20 (some q) :: st) := by
  have h : (match stA σ a with | some q => some (Sum.inl (σ, cs, ls, vR 20 (some q) :: st)) | none => none) = some out := h
  cases e : stA σ a with
  | none => rw [e] at h; exact nomatch h
  | some q =>
    rw [e] at h
    cases h
    exact ⟨q, rfl, rfl⟩
theorem inv_66 {M : Nat → List LI} {σ : St} {a b c : Nat} {z : Int} {cs : List LI} {ls : Ls} {st : List Vl} {out : Out} (h : step M σ ((66, a, b, c, z) :: cs) ls st = some out) : out = .inl (mk σ a 0 c, cs, ls, vR a (some (nx σ)) :: st) := by
  have h : some (Sum.inl (mk σ a 0 c, cs, ls, vR a (some (nx σ)) :: st)) = some out := h
  cases h
  rfl
theorem inv_36 {M : Nat → List LI} {σ : St} {a b c : Nat} {z : Int} {cs : List LI} {ls : Ls} {st0 : List Vl} {out : Out} (h : step M σ ((36, a, b, c, z) :: cs) ls st0 = some out) : ∃ (y x : Int) (st : List Vl), st0 = vI y :: vI x :: st ∧ ((cmpB a x y = true ∧ out = .inl (σ, M b, ls, st)) ∨ (cmpB a x y = false ∧ out = .inl (σ, cs, ls, st))) := by
  rcases st0 with _ | ⟨y | y | y, _ | ⟨x | x | x, st⟩⟩
  · exact nomatch (show (none : Option Out) = some out from h)
  · exact nomatch (show (none : Option Out) = some out from h)
  · have h : (if cmpB a x y = true then some (Sum.inl (σ, M b, ls, st)) else some (Sum.inl (σ, cs, ls, st))) = some out := h
    split at h
    · rename_i hc
      cases h
      exact ⟨y, x, st, rfl, Or.inl ⟨hc, rfl⟩⟩
    · rename_i hc
      cases h
      exact ⟨y, x, st, rfl, Or.inr ⟨by simpa using hc, rfl⟩⟩
  all_goals exact nomatch (show (none : Option Out) = some out from h)
theorem inv_37 {M : Nat → List LI} {σ : St} {a b c : Nat} {z : Int} {cs : List LI} {ls : Ls} {st0 : List Vl} {out : Out} (h : step M σ ((37, a, b, c, z) :: cs) ls st0 = some out) : ∃ (x : Int) (st : List Vl), st0 = vI x :: st ∧ ((cmpB a x 0 = true ∧ out = .inl (σ, M b, ls, st)) ∨ (cmpB a x 0 = false ∧ out = .inl (σ, cs, ls, st))) := by
  rcases st0 with _ | ⟨x | x | x, st⟩
  · exact nomatch (show (none : Option Out) = some out from h)
  · have h : (if cmpB a x 0 = true then some (Sum.inl (σ, M b, ls, st)) else some (Sum.inl (σ, cs, ls, st))) = some out := h
    split at h
    · rename_i hc
      cases h
      exact ⟨x, st, rfl, Or.inl ⟨hc, rfl⟩⟩
    · rename_i hc
      cases h
      exact ⟨x, st, rfl, Or.inr ⟨by simpa using hc, rfl⟩⟩
  all_goals exact nomatch (show (none : Option Out) = some out from h)
theorem inv_38 {M : Nat → List LI} {σ : St} {a b c : Nat} {z : Int} {cs : List LI} {ls : Ls} {st0 : List Vl} {out : Out} (h : step M σ ((38, a, b, c, z) :: cs) ls st0 = some out) : ∃ (t : Nat) (q : Option Nat) (st : List Vl), st0 = vR t q :: st ∧ ((q = none ∧ out = .inl (σ, M b, ls, st)) ∨ (q ≠ none ∧ out = .inl (σ, cs, ls, st))) := by
  rcases st0 with _ | ⟨x | x | ⟨t, _ | q⟩, st⟩
  · exact nomatch (show (none : Option Out) = some out from h)
  · exact nomatch (show (none : Option Out) = some out from h)
  · exact nomatch (show (none : Option Out) = some out from h)
  · have h : some (Sum.inl (σ, M b, ls, st)) = some out := h
    cases h
    exact ⟨t, none, st, rfl, Or.inl ⟨rfl, rfl⟩⟩
  · have h : some (Sum.inl (σ, cs, ls, st)) = some out := h
    cases h
    exact ⟨t, some q, st, rfl, Or.inr ⟨by simp, rfl⟩⟩
theorem inv_39 {M : Nat → List LI} {σ : St} {a b c : Nat} {z : Int} {cs : List LI} {ls : Ls} {st0 : List Vl} {out : Out} (h : step M σ ((39, a, b, c, z) :: cs) ls st0 = some out) : ∃ (t : Nat) (q : Option Nat) (st : List Vl), st0 = vR t q :: st ∧ ((q = none ∧ out = .inl (σ, cs, ls, st)) ∨ (q ≠ none ∧ out = .inl (σ, M b, ls, st))) := by
  rcases st0 with _ | ⟨x | x | ⟨t, _ | q⟩, st⟩
  · exact nomatch (show (none : Option Out) = some out from h)
  · exact nomatch (show (none : Option Out) = some out from h)
  · exact nomatch (show (none : Option Out) = some out from h)
  · have h : some (Sum.inl (σ, cs, ls, st)) = some out := h
    cases h
    exact ⟨t, none, st, rfl, Or.inl ⟨rfl, rfl⟩⟩
  · have h : some (Sum.inl (σ, M b, ls, st)) = some out := h
    cases h
    exact ⟨t, some q, st, rfl, Or.inr ⟨by simp, rfl⟩⟩
theorem inv_41 {M : Nat → List LI} {σ : St} {a b c : Nat} {z : Int} {cs : List LI} {ls : Ls} {st0 : List Vl} {out : Out} (h : step M σ ((41, a, b, c, z) :: cs) ls st0 = some out) : ∃ (x : Int) (st : List Vl), st0 = vI x :: st ∧ (((0 ≤ x ∧ x < a) ∧ out = .inl (σ, M (100000 + x.toNat), ls, st)) ∨ (¬ (0 ≤ x ∧ x < a) ∧ out = .inl (σ, M b, ls, st))) := by
  rcases st0 with _ | ⟨x | x | x, st⟩
  · exact nomatch (show (none : Option Out) = some out from h)
  · have h : (if 0 ≤ x ∧ x < (a : Int) then some (Sum.inl (σ, M (100000 + x.toNat), ls, st)) else some (Sum.inl (σ, M b, ls, st))) = some out := h
    split at h
    · rename_i hc
      cases h
      exact ⟨x, st, rfl, Or.inl ⟨hc, rfl⟩⟩
    · rename_i hc
      cases h
      exact ⟨x, st, rfl, Or.inr ⟨hc, rfl⟩⟩
  all_goals exact nomatch (show (none : Option Out) = some out from h)
theorem inv_69 {M : Nat → List LI} {σ : St} {a b c : Nat} {z : Int} {cs : List LI} {ls : Ls} {st0 : List Vl} {out : Out} (h : step M σ ((69, a, b, c, z) :: cs) ls st0 = some out) : ∃ (n dp sp : Int) (d q : Nat) (st : List Vl), st0 = vI n :: vI dp :: vR 14 (some d) :: vI sp :: vR 14 (some q) :: st ∧ (0 ≤ n ∧ 0 ≤ dp ∧ 0 ≤ sp ∧ sp + n ≤ (ln σ q : Int) ∧ dp + n ≤ (ln σ d : Int)) ∧ stW st ≤ 8 ∧ out = .inl (aI σ d (cpyF (gI σ q) (gI σ d) sp.toNat dp.toNat n.toNat), cs, ls, st) := by
  replace h : s_cpy σ cs ls st0 69 = some out := h
  unfold s_cpy at h
  split at h
  · split at h
    · rename_i hc
      rw [if_pos rfl] at h
      split at h
      · rename_i ht
        obtain ⟨rfl, rfl⟩ := ht
        cases h
        exact ⟨_, _, _, _, _, _, rfl, ⟨hc.1, hc.2.1, hc.2.2.1, hc.2.2.2.1, hc.2.2.2.2.1⟩, hc.2.2.2.2.2, rfl⟩
      · exact nomatch h
    · exact nomatch h
  · exact nomatch h
theorem inv_70 {M : Nat → List LI} {σ : St} {a b c : Nat} {z : Int} {cs : List LI} {ls : Ls} {st0 : List Vl} {out : Out} (h : step M σ ((70, a, b, c, z) :: cs) ls st0 = some out) : ∃ (n dp sp : Int) (d q : Nat) (st : List Vl), st0 = vI n :: vI dp :: vR 15 (some d) :: vI sp :: vR 15 (some q) :: st ∧ (0 ≤ n ∧ 0 ≤ dp ∧ 0 ≤ sp ∧ sp + n ≤ (ln σ q : Int) ∧ dp + n ≤ (ln σ d : Int)) ∧ stW st ≤ 8 ∧ out = .inl (aL σ d (cpyF (gL σ q) (gL σ d) sp.toNat dp.toNat n.toNat), cs, ls, st) := by
  replace h : s_cpy σ cs ls st0 70 = some out := h
  unfold s_cpy at h
  split at h
  · split at h
    · rename_i hc
      rw [if_neg (by decide)] at h
      split at h
      · rename_i ht
        obtain ⟨rfl, rfl⟩ := ht
        cases h
        exact ⟨_, _, _, _, _, _, rfl, ⟨hc.1, hc.2.1, hc.2.2.1, hc.2.2.2.1, hc.2.2.2.2.1⟩, hc.2.2.2.2.2, rfl⟩
      · exact nomatch h
    · exact nomatch h
  · exact nomatch h
theorem inv_67 {M : Nat → List LI} {σ : St} {a b c : Nat} {z : Int} {cs : List LI} {ls : Ls} {st0 : List Vl} {out : Out} (h : step M σ ((67, a, b, c, z) :: cs) ls st0 = some out) : ∃ (as st : List Vl), st0 = as.reverse ++ st ∧ as.length = b ∧ stW st ≤ 8 ∧ (2 * stW as : Int) ≤ z ∧ out = .inr (.inl (a, as, cs, st)) ∧ (z % 2 = 0 ∨ ∃ (q : Nat) (as0 : List Vl), as = vR c (some q) :: as0) := by
  replace h : s_inv cs st0 a b c z = some out := h
  unfold s_inv takeA at h
  by_cases hb : b ≤ st0.length
  · rw [if_pos hb] at h
    dsimp only at h
    split at h
    · rename_i hw
      have e1 : st0 = ((st0.take b).reverse).reverse ++ st0.drop b := by rw [List.reverse_reverse, List.take_append_drop]
      have e2 : ((st0.take b).reverse).length = b := by simp [hb]
      split at h
      · rename_i hz
        cases h
        exact ⟨_, _, e1, e2, hw.1, hw.2, rfl, Or.inl hz⟩
      · split at h
        · rename_i q as0 hq
          split at h
          · rename_i hc
            subst hc
            cases h
            exact ⟨_, _, e1, e2, hw.1, hw.2, rfl, Or.inr ⟨_, _, hq⟩⟩
          · exact nomatch h
        · exact nomatch h
    · exact nomatch h
  · rw [if_neg hb] at h
    exact nomatch h
theorem inv_71 {M : Nat → List LI} {σ : St} {a b c : Nat} {z : Int} {cs : List LI} {ls : Ls} {st : List Vl} {out : Out} (h : step M σ ((71, a, b, c, z) :: cs) ls st = some out) : ∃ v : Int, st = [vI v] ∧ (a = 0 ∨ (0 ≤ v ∧ v ≤ 1)) ∧ out = .inr (.inr [vI v]) := by
  have h : s_ret st 71 a = some out := h
  rcases st with _ | ⟨x | x | x, _ | ⟨y, st⟩⟩ <;> first | exact nomatch (show (none : Option Out) = some out from h) | skip
  have h : (if a = 0 ∨ (0 ≤ x ∧ x ≤ 1) then some (Sum.inr (Sum.inr [vI x])) else none) = some out := h
  split at h
  · rename_i hc
    cases h
    exact ⟨x, rfl, hc, rfl⟩
  · exact nomatch h
theorem inv_72 {M : Nat → List LI} {σ : St} {a b c : Nat} {z : Int} {cs : List LI} {ls : Ls} {st : List Vl} {out : Out} (h : step M σ ((72, a, b, c, z) :: cs) ls st = some out) : ∃ v : BitVec 64, st = [vL v] ∧ out = .inr (.inr [vL v]) := by
  have h : s_ret st 72 a = some out := h
  rcases st with _ | ⟨x | x | x, _ | ⟨y, st⟩⟩ <;> first | exact nomatch (show (none : Option Out) = some out from h) | skip
  have h : some (Sum.inr (Sum.inr [vL x])) = some out := h
  cases h
  exact ⟨x, rfl, rfl⟩
theorem inv_73 {M : Nat → List LI} {σ : St} {a b c : Nat} {z : Int} {cs : List LI} {ls : Ls} {st : List Vl} {out : Out} (h : step M σ ((73, a, b, c, z) :: cs) ls st = some out) : ∃ (t : Nat) (q : Option Nat), st = [vR t q] ∧ out = .inr (.inr [vR t q]) := by
  have h : s_ret st 73 a = some out := h
  rcases st with _ | ⟨x | x | ⟨t, q⟩, _ | ⟨y, st⟩⟩ <;> first | exact nomatch (show (none : Option Out) = some out from h) | skip
  have h : some (Sum.inr (Sum.inr [vR t q])) = some out := h
  cases h
  exact ⟨t, q, rfl, rfl⟩
theorem inv_74 {M : Nat → List LI} {σ : St} {a b c : Nat} {z : Int} {cs : List LI} {ls : Ls} {st : List Vl} {out : Out} (h : step M σ ((74, a, b, c, z) :: cs) ls st = some out) : st = [] ∧ out = .inr (.inr []) := by
  have h : s_ret st 74 a = some out := h
  rcases st with _ | ⟨x | x | x, _ | ⟨y, st⟩⟩
  · have h : some (Sum.inr (Sum.inr [])) = some out := h
    cases h
    exact ⟨rfl, rfl⟩
  all_goals exact nomatch (show (none : Option Out) = some out from h)
