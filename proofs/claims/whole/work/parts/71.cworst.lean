/-! worst: the call pair -/
theorem Lu_of {f f' : FI} {g g' : FL} {B : Nat} {nn : Nat → Nat} (e : SameT f f' B) (eg : g' (B + 43) 1 = g (B + 43) 1) {l : Nat} (hl : l < 64) : Lu f' g' B nn l ↔ Lu f g B nn l := by
  unfold Lu
  rw [eg, e (tB B (l / 8) + 3) (by unfold tB; omega) (by unfold tB; omega)]
theorem Lst.cong {L L' : Nat → Prop} {e : Nat → Int} {m : Nat} (h : Lst L e m 64) (hL : ∀ l, l < 64 → (L l ↔ L' l)) : Lst L' e m 64 := by
  refine ⟨fun i hi => ?_, h.2.1, fun c hc hl => h.2.2 c hc ((hL c hc).mpr hl)⟩
  have := h.1 i hi
  exact ⟨this.1, this.2.1, (hL _ (by omega)).mp this.2.2⟩
theorem enB_of {f f' : FI} {g g' : FL} {B q : Nat} (e : SameT f f' B) (e2 : f' (B + 43) 2 = f (B + 43) 2) (eg : g' (B + 43) 1 = g (B + 43) 1) : enB f' g' B q = enB f g B q := by
  unfold enB
  rw [e2, enD_cong (G := GB f' g' B 0) (G' := GB f g B 0) fun z hz => GB_of hz e eg]
theorem tbB_of {f f' : FI} {g g' : FL} {B l : Nat} {p : Int} (e : SameT f f' B) (eg : g' (B + 43) 1 = g (B + 43) 1) : tbB (GB f' g' B 0) p l = tbB (GB f g B 0) p l := by
  refine bool_of ?_
  rw [tbB_iff, tbB_iff]
  have c := fun k => itr_cong (G := GB f' g' B 0) (G' := GB f g B 0) (p := p) (fun z hz => GB_of hz e eg) k
  unfold Tb
  constructor
  · rintro ⟨j, h1, h2⟩
    rw [c] at h1
    rw [c, c] at h2
    exact ⟨j, h1, h2⟩
  · rintro ⟨j, h1, h2⟩
    exact ⟨j, by rw [c]; exact h1, by rw [c, c]; exact h2⟩
theorem Lst.some {L : Nat → Prop} {e : Nat → Int} {m : Nat} {n : Int} (h : Lst L e m 64) (hn : n = 1 ∨ n = 2) (hm : n ≤ (m : Int)) : ∃ a b, Ad L n a b := by
  have h0 := h.1 0 (by omega)
  rcases hn with rfl | rfl
  · exact ⟨(e 0).toNat, (e 0).toNat, Or.inl ⟨rfl, rfl, by omega, h0.2.2⟩⟩
  · have h1 := h.1 1 (by omega)
    have h2 := h.2.1 0 1 (by omega) (by omega)
    exact ⟨(e 0).toNat, (e 1).toNat, Or.inr ⟨rfl, by omega, by omega, h0.2.2, h1.2.2⟩⟩
abbrev ScT (B : Nat) : Nat → Nat → Prop := fun a k => ScS B a k ∨ (a = B + 165 ∧ ((38 ≤ k ∧ k ≤ 41) ∨ k = 54)) ∨ a = B + 165 + 23 ∨ a = B + 165 + 24 ∨ a = B + 165 + 34 ∨ a = B + 165 + 35
theorem c_worst {σ : St} {f : FI} {g : FL} {B : Nat} (hs : Sh11 σ B) (hm : Sh12 σ (B + 165)) {nn : Nat → Nat} {s : Int} (hB0 : ITb f B nn) (hL : IL f g B) (hE : IE f B) (hI : IF f B) (hS : IS f B s) (hsl : s < 1999990000) {x : Int} (rx : -2147483648 ≤ x ∧ x ≤ 2147483647) : ∃ (v : Int) (f1 f2 : FI) (g1 g2 : FL), Ex mt 7 168 (il σ f g) [vR 11 (some B), vI x] (il σ f1 g1, [vI v]) ∧ Ex mt 5 271 (il σ f1 g1) [vR 12 (some (B + 165)), vI x] (il σ f2 g2, [vI v]) ∧ (IF f2 B ∧ ∃ s2, IS f2 B s2 ∧ s2 ≤ s + 512) ∧ (∀ a, a ≠ B + 156 → a ≠ B + 165 + 25 → g2 a = g a) ∧ Fr (ScT B) f f2 := by
  by_cases hx : 1 ≤ x ∧ x ≤ 2
  · have hn : x = 1 ∨ x = 2 := by omega
    obtain ⟨f1, g1, v, L, hLu, E1, hc, hg1, F1⟩ := x_strike (g := g) hs.o11 hB0.tcs hE.2 hn
    have eT1 : SameT f f1 B := fun a h1 h2 => by
      funext k
      exact F1 a k (by omega)
    have eg1 : g1 (B + 43) 1 = g (B + 43) 1 := by rw [hg1 _ (by omega)]
    have hB1 : ITb f1 B nn := hB0.fr eT1 fun a h1 h2 => by
      funext k
      exact F1 a k (by omega)
    have hL1 : IL f1 g1 B := hL.fr (by
      funext k
      exact F1 _ k (by omega)) (F1 _ _ (by omega)) eg1
    have hE1 : IE f1 B := by
      unfold IE at hE ⊢
      rw [F1 _ _ (by omega), F1 _ _ (by omega)]
      exact hE
    have hS1 : IS f1 B s := hS.of (F1 _ _ (by omega)) (by
      funext k
      exact F1 _ k (by omega))
    obtain ⟨f3, F3, l3, K3⟩ := m_lines (σ := σ) (f := f1) (g := g1) (L := L) (n := x) hm hB1 hL1 (fun l hl => (hLu l hl).trans (Lu_of eT1 eg1 hl).symm) 64 0 rfl f1 Fr.rfl' ⟨fun i hi => absurd hi (Nat.not_lt_zero i), fun i j _ hj => absurd hj (Nat.not_lt_zero j), fun c hc => absurd hc (Nat.not_lt_zero c)⟩
    have l3' : Lst (Lu f g B nn) (f3 (B + 165 + 35)) (pc L) 64 := l3.cong fun l hl => Lu_of eT1 eg1 hl
    have C1 : Ex mt 7 168 (il σ f g) [vR 11 (some B), vI x] (il σ f1 g1, [vI v]) := bk_X11_worst_0 hs ⟨fun z => absurd ⟨by omega, by omega⟩ z, fun _ => ⟨fun z => absurd z (by omega), fun _ => ⟨f1, g1, v, E1, rfl⟩⟩⟩
    rcases hc with ⟨c1, rfl, rfl, rfl⟩ | ⟨c1, c2, c3, y, c4, c5⟩
    · refine ⟨-1, f1, f3, g1, g1, C1, bk_X12_worst_0 hm ⟨rx, fun _ => K3 _ (bk_X12_worst_18 hm ⟨fun _ => ⟨fun z => absurd z c1, fun _ => rfl⟩, fun z => absurd (by decide) z⟩), fun z => absurd hx z⟩, ⟨?_, s, hS.of (F3 _ _ (by omega)) (by
        funext k
        exact F3 _ k (by omega)), by omega⟩, fun _ _ _ => rfl, fun a k hk => F3 a k (by omega)⟩
      unfold IF at hI ⊢
      rw [F3 _ _ (by omega), F3 _ _ (by omega), show f3 (B + 155) = f1 (B + 155) from by
        funext k
        exact F3 _ k (by omega), show f3 (B + 165 + 34) = f1 (B + 165 + 34) from by
        funext k
        exact F3 _ k (by omega)]
      exact hI
    · have eT3 : SameT f1 f3 B := fun a h1 h2 => by
        funext k
        exact F3 a k (by omega)
      have hB3 : ITb f3 B nn := hB1.fr eT3 fun a h1 h2 => by
        funext k
        exact F3 a k (by omega)
      have hL3 : IL f3 g1 B := hL1.fr (by
        funext k
        exact F3 _ k (by omega)) (F3 _ _ (by omega)) rfl
      have hE3 : IE f3 B := by
        unfold IE at hE1 ⊢
        rw [F3 _ _ (by omega), F3 _ _ (by omega)]
        exact hE1
      have hS3 : IS f3 B s := hS1.of (F3 _ _ (by omega)) (by
        funext k
        exact F3 _ k (by omega))
      have eT : SameT f f3 B := fun a h1 h2 => by rw [eT3 a h1 h2, eT1 a h1 h2]
      have e2 : f3 (B + 43) 2 = f (B + 43) 2 := by rw [F3 _ _ (by omega), F1 _ _ (by omega)]
      obtain ⟨f4, g4, s4, F4, hg4, S4, b4, U4, K4⟩ := m_uses (σ := σ) (f := f3) (g := g1) (n := x) (mm := (pc L : Int)) (s := s) hm hB3 hL3 hE3 hsl 512 0 rfl f3 g1 s Fr.rfl' (fun _ _ => rfl) hS3 (by omega) (fun p hp => absurd hp (Nat.not_lt_zero p))
      have l4 : Lst (Lu f g B nn) (f4 (B + 165 + 35)) (pc L) 64 := by
        rw [show f4 (B + 165 + 35) = f3 (B + 165 + 35) from by
          funext k
          exact F4 _ k (by unfold Scr; omega)]
        exact l3'
      obtain ⟨f5, w, F5, B5, A5⟩ := m_pick (σ := σ) (f := f4) (f0 := f) (g := g4) (g0 := g) (B := B) (m := pc L) (nn := nn) (n := x) hm hn (fun p hp l hl => by
        rw [U4 p hp l hl, enB_of eT e2 eg1, tbB_of eT eg1]) (pc_le L) l4 (pc L) 0 (by omega) f4 (-1) Fr.rfl' (Or.inl ⟨rfl, fun a b z => z.2.elim fun i h => absurd h.1 (Nat.not_lt_zero i)⟩)
      obtain ⟨o1, o2, o3⟩ := c4.one B5 (l4.some hn c1)
      rw [c3] at o1 c5
      subst o1
      have v0 : 0 ≤ v := by
        rcases c4 with ⟨_, z⟩ | ⟨a, b, _, _, _, z, _⟩
        · obtain ⟨a, b, h⟩ := l4.some hn c1
          exact absurd h (z a b)
        · rw [c3] at z
          omega
      have k15 : ∀ a k, ¬ (a = B + 165 + 34) → ¬ (a = B + 165 ∧ k = 54) → ¬ Scr B a k → ¬ a = B + 165 + 35 → up2 f5 (B + 165) 54 x a k = f1 a k := fun a k h1 h2 h3 h4 => by
        unfold up2
        rw [if_neg h2, F5 a k h1, F4 a k h3, F3 a k h4]
      refine ⟨v, f1, up2 f5 (B + 165) 54 x, g1, g4, C1, bk_X12_worst_0 hm ⟨rx, fun _ => K3 _ (bk_X12_worst_18 hm ⟨fun _ => ⟨fun _ => K4 _ A5, fun z => absurd c1 z⟩, fun z => absurd (by decide) z⟩), fun z => absurd hx z⟩, ⟨?_, s4, S4.of ?_ ?_, b4⟩, fun a h1 h2 => by rw [hg4 a h2, hg1 a h1], fun a k hk => ?_⟩
      · have e154 : up2 f5 (B + 165) 54 x (B + 154) 2 = x := by rw [k15 _ _ (by omega) (by omega) (by unfold Scr; omega) (by omega)]; exact c2
        refine ⟨Or.inr ⟨by rw [u2_s, e154], by rw [e154]; omega, by rw [e154]; omega⟩, fun i hi => ?_⟩
        rw [e154] at hi
        rw [k15 _ _ (by omega) (by omega) (by unfold Scr; omega) (by omega), u2_a (by omega)]
        by_cases z : i = 0
        · subst z
          exact o2
        · obtain rfl : i = 1 := by omega
          rw [c5 (by omega) v0]
          exact o3
      · rw [u2_i (by decide), F5 _ _ (by omega)]
      · rw [up2_ne (by omega)]
        funext k
        exact F5 _ k (by omega)
      · rw [k15 a k (by omega) (by omega) (by unfold Scr; omega) (by omega), F1 a k (by omega)]
  · refine ⟨-1, f, f, g, g, bk_X11_worst_0 hs ⟨fun _ => rfl, fun z => ⟨fun _ => rfl, fun y => absurd (show 1 ≤ x ∧ x ≤ 2 by omega) hx⟩⟩, bk_X12_worst_0 hm ⟨rx, fun z => absurd z hx, fun _ => rfl⟩, ⟨hI, s, hS, by omega⟩, fun _ _ _ => rfl, Fr.rfl'⟩
