/-! gap: the row of settled packets -/
theorem x_settleAll {σ : St} {f : FI} {g : FL} {B : Nat} {nn : Nat → Nat} {b : Int} (hs : Sh5 σ (B + 43)) (hT : TCs f B nn) (hb : 0 ≤ b ∧ b ≤ 255) : ∃ f' : FI, Ex mt 2 81 (il σ f g) [vR 5 (some (B + 144)), vI b] (il σ f' g, []) ∧ (∀ c, c ≠ B + 151 → f' c = f c) ∧ ∀ t, Vw (fun _ z => GB f g B b z) t (fun p => f' (B + 151) (2 * p)) (fun p => f' (B + 151) (2 * p + 1)) := by
  have loop : ∀ k i : Nat, i + k = 512 → ∀ fi : FI, (∀ c, c ≠ B + 151 → fi c = f c) → (∀ p : Nat, p < i → ∀ t, (1 ≤ fi (B + 151) (2 * p + 1) ∧ fi (B + 151) (2 * p + 1) ≤ 101) ∧ ∀ k : Nat, k ≤ 100 → sn (fun _ z => GB f g B b z) k t (p : Int) = if fi (B + 151) (2 * p + 1) ≤ (k : Int) then fi (B + 151) (2 * p) else -3) → ∃ f' : FI, A_X5_settleAll_2 σ fi g (B + 43) b (i : Int) (il σ f' g, []) ∧ (∀ c, c ≠ B + 151 → f' c = f c) ∧ (∀ p : Nat, p < 512 → ∀ t, (1 ≤ f' (B + 151) (2 * p + 1) ∧ f' (B + 151) (2 * p + 1) ≤ 101) ∧ ∀ k : Nat, k ≤ 100 → sn (fun _ z => GB f g B b z) k t (p : Int) = if f' (B + 151) (2 * p + 1) ≤ (k : Int) then f' (B + 151) (2 * p) else -3) := by
    intro k
    induction k with
    | zero =>
      intro i hi fi h1 h2
      obtain rfl : i = 512 := by omega
      exact ⟨fi, bk_X5_settleAll_2 hs ⟨fun _ => rfl, fun z => absurd (by decide) z⟩, h1, h2⟩
    | succ k ih =>
      intro i hi fi h1 h2
      have eT : SameT f fi B := fun a h3 h4 => h1 a (by omega)
      have cg : ∀ (k : Nat) (t : Int), sn (fun _ z => GB fi g B b z) k t (i : Int) = sn (fun _ z => GB f g B b z) k t (i : Int) := fun k t => sn_cong (fun _ p hp => GB_of hp eT rfl) k t _ (by omega)
      obtain ⟨q', s, hq, s100, K⟩ := set_one (σ := σ) (f := fi) (g := g) (p := (i : Int)) hs (hT.of eT) hb 100 0 rfl (i : Int) (by omega)
      have i1 : (2 * (i : Int) + 1).toNat = 2 * i + 1 := by omega
      have i2 : (2 * (i : Int)).toNat = 2 * i := by omega
      have put : ∀ x y : Int, (1 ≤ y ∧ y ≤ 101) → (∀ (k : Nat) (t : Int), k ≤ 100 → sn (fun _ z => GB f g B b z) k t (i : Int) = if y ≤ (k : Int) then x else -3) → ∃ f' : FI, A_X5_settleAll_2 σ (up2 (up2 fi (B + 151) (2 * i) x) (B + 151) (2 * i + 1) y) g (B + 43) b ((i : Int) + 1) (il σ f' g, []) ∧ (∀ c, c ≠ B + 151 → f' c = f c) ∧ (∀ p : Nat, p < 512 → ∀ t, (1 ≤ f' (B + 151) (2 * p + 1) ∧ f' (B + 151) (2 * p + 1) ≤ 101) ∧ ∀ k : Nat, k ≤ 100 → sn (fun _ z => GB f g B b z) k t (p : Int) = if f' (B + 151) (2 * p + 1) ≤ (k : Int) then f' (B + 151) (2 * p) else -3) := fun x y hy hx => ih (i + 1) (by omega) _ (fun c hc => by rw [up2_ne hc, up2_ne hc]; exact h1 c hc) (fun p hp t => by
        by_cases z : p = i
        · subst z
          rw [u2_s, u2_i (by omega), u2_s]
          exact ⟨hy, fun k hk => hx k t hk⟩
        · rw [u2_i (by omega), u2_i (by omega), u2_i (by omega), u2_i (by omega)]
          exact h2 p (by omega) t)
      rcases hq with ⟨a1, a2⟩ | ⟨a1, a2, a3, a4, a5⟩
      · obtain ⟨f', A, r⟩ := put (-3) 101 (by omega) (fun k t hk => by
          rw [if_neg (by omega), ← cg]
          exact a2 k hk t)
        refine ⟨f', bk_X5_settleAll_2 hs ⟨fun z => absurd z (by omega), fun _ => K _ (bk_X5_settleAll_57 hs ⟨by omega, fun z => absurd a1 z, fun _ => ⟨⟨by omega, by omega, by omega⟩, fun z => absurd a1 z, fun _ => ⟨⟨by omega, by omega⟩, ?_⟩⟩⟩)⟩, r⟩
        rw [i1, i2]
        exact A
      · obtain ⟨f', A, r⟩ := put (endB_ q') (s : Int) (by omega) (fun k t hk => by
          rw [← cg, a5 k hk t]
          by_cases y : s ≤ 0 + k
          · rw [if_pos y, if_pos (by omega)]
          · rw [if_neg y, if_neg (by omega)])
        refine ⟨f', bk_X5_settleAll_2 hs ⟨fun z => absurd z (by omega), fun _ => K _ (bk_X5_settleAll_57 hs ⟨by omega, fun _ => ⟨a4, ⟨by omega, by omega, by omega⟩, fun _ => ⟨⟨by omega, by omega⟩, ?_⟩, fun z => absurd z a1⟩, fun z => absurd z a1⟩)⟩, r⟩
        rw [i1, i2]
        exact A
  obtain ⟨f', A, r1, r2⟩ := loop 512 0 rfl f (fun _ _ => rfl) fun p hp => absurd hp (Nat.not_lt_zero p)
  exact ⟨f', bk_X5_settleAll_0 hs A, r1, fun t p hp => r2 p hp t⟩
