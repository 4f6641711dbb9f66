/-! writes -/
theorem up1_at' {α : Type} {f : Nat → Nat → α} {a : Nat} {h : Nat → α} : up1 f a h a = h := by simp [up1]
theorem up1_ne' {α : Type} {f : Nat → Nat → α} {a b : Nat} {h : Nat → α} (e : b ≠ a) : up1 f a h b = f b := by simp [up1, e]
theorem cb_12 {u : Nat} (h : u < 256) : cb 12 u = cb 8 u := by
  unfold cb
  rw [show (12 : Nat) = 8 + 4 from rfl, fb_ct_split]
  have z : fb_ct (fun k => u.testBit (8 + k)) 4 = 0 := fb_ct_zero.mpr fun k _ => big_bit (n := 8) h (by omega)
  rw [z, Nat.add_zero]
theorem cb_0 : cb 8 0 = 0 := by decide
theorem UL.of {f f' : FI} {B : Nat} {nn : Nat → Nat} {u : Nat} (h : UL f B nn u) (e : SameT f f' B) : UL f' B nn u := by
  have q : ∀ t k : Nat, t < 16 → k ≤ 5 → f' (tB B t + k) = f (tB B t + k) := fun t k h1 h2 => e _ (by unfold tB; omega) (by unfold tB; omega)
  refine ⟨h.1, fun b hb => ?_⟩
  rw [h.2 b hb]
  unfold AL
  rw [q b 1 (by omega) (by omega), q b 2 (by omega) (by omega), q b 3 (by omega) (by omega), q (8 + b) 1 (by omega) (by omega), q (8 + b) 2 (by omega) (by omega), q (8 + b) 3 (by omega) (by omega)]
theorem UL.one {f : FI} {B : Nat} {nn : Nat → Nat} {u v : Nat} (h : UL f B nn u) (h2 : UL f B nn v) : u = v := bit_ext (n := 8) h.1 h2.1 fun i hi => by
  have a := h.2 i hi
  have b := h2.2 i hi
  cases x : u.testBit i <;> cases y : v.testBit i
  · rfl
  · exact absurd (a.mpr (b.mp y)) (by rw [x]; decide)
  · exact absurd (b.mpr (a.mp x)) (by rw [y]; decide)
  · rfl
theorem Pt.lim {all : Nat} {G : Nat → Prop} {tr tr' : Nat → Int} : ∀ (n S : Nat), (∀ i, cb 8 S ≤ i → i < cb 8 S + n → tr' i = tr i) → Pt all G tr n S → Pt all G tr' n S
  | 0, _, _, h => h
  | n + 1, S, e, ⟨h0, b, h1, h2, h3, h4⟩ => ⟨h0, b, by rw [e _ (Nat.le_refl _) (by omega)]; exact h1, h2, h3, Pt.lim n _ (fun i hi hj => e i (by rw [cb_or h2.1 h2.2.2.1] at hi; omega) (by rw [cb_or h2.1 h2.2.2.1] at hj; omega)) h4⟩
theorem x_findOrder {σ : St} {f : FI} {g : FL} {B : Nat} {nn : Nat → Nat} (hs : Sh11 σ B) (hB0 : ITb f B nn) (hE : IE f B) : ∃ (u : Nat) (f' : FI) (v : Int), UL f B nn u ∧ Ex mt 107 73 (il σ f g) [vR 5 (some (B + 144))] (il σ f' g, [vI v]) ∧ ((Ld u (Gd f g B) 0 ∧ v = (cb 8 u : Int) ∧ f' (B + 144) 3 = (cb 8 u : Int) ∧ Pt u (Gd f g B) (f' (B + 146)) (cb 8 u) 0) ∨ (¬ Ld u (Gd f g B) 0 ∧ v = -2 ∧ f' (B + 144) 3 = f (B + 144) 3 ∧ f' (B + 146) = f (B + 146))) ∧ Fr (fun a k => a = B + 143 ∨ (B + 146 ≤ a ∧ a ≤ B + 150) ∨ (a = B + 144 ∧ k = 3)) f f' := by
  obtain ⟨u, hu, E0⟩ := x_unlikeBoxes (g := g) hs.net hB0
  have u8 := hu.1
  obtain ⟨fa, Ea, a1, a2⟩ := x_fillEnds (f := f) (g := g) (e := B + 149) (b := 0) hs.net hs.o10.l6 (by omega) (by omega) hB0.tcs hE.2
  have eTa : SameT f fa B := fun a h1 h2 => a1 a (by omega)
  obtain ⟨fb, Eb, b1, b2⟩ := x_fillEnds (f := fa) (g := g) (e := B + 150) (b := 255) hs.net hs.o10.l7 (by omega) (by omega) (hB0.tcs.of eTa) (by rw [a1 _ (by omega)]; exact hE.2)
  have Ec := x_fillI (σ := σ) (f := fb) (g := g) (w := B + 148) (v := 0) hs.o10.l5 (by omega)
  obtain ⟨fc, hfc⟩ : ∃ fc, fc = up1 fb (B + 148) (fun k => if k < 256 then 0 else fb (B + 148) k) := ⟨_, rfl⟩
  rw [← hfc] at Ec
  have c1 : ∀ a, a ≠ B + 148 → fc a = fb a := fun a ha => by rw [hfc, up1_ne' ha]
  have ec : ∀ a, a ≠ B + 148 → a ≠ B + 149 → a ≠ B + 150 → fc a = f a := fun a h1 h2 h3 => by rw [c1 a h1, b1 a h3, a1 a h2]
  have eT : SameT f fc B := fun a h1 h2 => ec a (by omega) (by omega) (by omega)
  have e43 : fc (B + 43) = f (B + 43) := ec _ (by omega) (by omega) (by omega)
  have eG : Gd fc g B = Gd f g B := funext fun S => propext (Gd_of eT (by rw [e43]))
  have eV : ∀ b q : Int, enD (GB fc g B b) q = enD (GB f g B b) q := fun b q => enD_cong fun z hz => GB_of hz eT rfl
  have fil : Fil fc g B := fun q hq hEq => by
    have hEq' : En f B q := by unfold En at hEq ⊢; rw [e43] at hEq; exact hEq
    rw [eV, eV, c1 _ (by omega), c1 _ (by omega)]
    constructor
    · rw [b1 _ (by omega)]
      exact a2 q hq hEq'
    · rw [b2 q hq (by unfold En at hEq' ⊢; rw [a1 _ (by omega)]; exact hEq')]
      exact enD_cong fun z hz => GB_of hz eTa rfl
  obtain ⟨fd, v, Ed, v1, v2, v3, -, sd, -⟩ := x_leadsOn (f0 := fc) (g := g) hs.o10 (hB0.tcs.of eT) (by rw [e43]; exact hE.2) fil u8 76 0 fc (by omega) (fun i _ z => by rw [Nat.zero_testBit] at z; exact absurd z (by decide)) (by rw [cb_0]; omega) (fun _ _ _ _ => rfl) (fun T hT z => absurd (by rw [hfc, up1_at', if_pos hT]) z)
  rw [cb_0, eG] at *
  have fr : Fr (fun a k => a = B + 143 ∨ (B + 146 ≤ a ∧ a ≤ B + 150) ∨ (a = B + 144 ∧ k = 3)) f fd := fun a k hk => by rw [sd a (by omega) (by omega) (by omega), ec a (by omega) (by omega) (by omega)]
  rcases v1 with rfl | rfl
  · exact ⟨u, fd, -2, hu, bk_X5_findOrder_0 hs.o10 ⟨f, g, _, E0, fa, g, Ea, fb, g, Eb, fc, g, Ec, fd, g, _, Ed, fun z => absurd rfl z, fun _ => rfl⟩, Or.inr ⟨fun z => absurd (v2.mpr z) (by decide), rfl, by rw [sd _ (by omega) (by omega) (by omega), ec _ (by omega) (by omega) (by omega)], by rw [sd _ (by omega) (by omega) (by omega), ec _ (by omega) (by omega) (by omega)]⟩, fr⟩
  · have pc : pcI (u : Int) = (cb 8 u : Int) := by rw [pcI_cb, cb_12 u8]
    obtain ⟨fe, hfe⟩ : ∃ fe, fe = up1 (up2 fd (B + 144) 3 (pcI (u : Int))) (B + 146) (cpyF (up2 fd (B + 144) 3 (pcI (u : Int)) (B + 147)) (up2 fd (B + 144) 3 (pcI (u : Int)) (B + 146)) 0 0 8) := ⟨_, rfl⟩
    have e3 : fe (B + 144) 3 = (cb 8 u : Int) := by rw [hfe, up1_ne' (by omega), u2_s, pc]
    have c8 := cb_le 8 u
    have e146 : ∀ i, i < 8 → fe (B + 146) i = fd (B + 147) i := fun i hi => by
      rw [hfe, up1_at']
      unfold cpyF
      rw [if_pos ⟨by omega, by omega⟩, up2_ne (by omega), show 0 + (i - 0) = i by omega]
    refine ⟨u, fe, cb 8 u, hu, bk_X5_findOrder_0 hs.o10 ⟨f, g, _, E0, fa, g, Ea, fb, g, Eb, fc, g, Ec, fd, g, _, Ed, fun _ => ⟨⟨by omega, by omega, by omega, by omega, by rw [show B + 43 + 104 = B + 147 from rfl, hs.o10.l4]; omega, by rw [show B + 43 + 103 = B + 146 from rfl, hs.o10.l2]; omega⟩, fun f21 h21 => ?_⟩, fun z => absurd z (by decide)⟩, Or.inl ⟨v2.mp rfl, rfl, e3, ?_⟩, fun a k hk => ?_⟩
    · have : f21 = fe := by rw [h21, hfe]
      subst this
      rw [show B + 43 + 101 = B + 144 from rfl, e3]
    · have p := v3 rfl
      rw [Nat.sub_zero] at p
      refine Pt.lim (cb 8 u) 0 (fun i h1 h2 => e146 i (by rw [cb_0] at h2; omega)) p
    · rw [hfe, up1_ne' (by omega)]
      by_cases z : a = B + 144
      · subst z
        rw [u2_i (by omega)]
        exact fr _ _ (by omega)
      · rw [u2_a z]
        exact fr _ _ (by omega)
abbrev ScW (B : Nat) : Nat → Nat → Prop := fun a k => (a = B + 165 ∧ 38 ≤ k ∧ k ≤ 41) ∨ a = B + 165 + 23 ∨ a = B + 165 + 24 ∨ a = B + 165 + 26 ∨ a = B + 165 + 27 ∨ (B + 165 + 31 ≤ a ∧ a ≤ B + 165 + 33) ∨ (a = B + 165 ∧ k = 51)
theorem x_writesM {σ : St} {f : FI} {g : FL} {B : Nat} {nn : Nat → Nat} {s : Int} (hm : Sh12 σ (B + 165)) (hB0 : ITb f B nn) (hL : IL f g B) (hE : IE f B) (hS : IS f B s) (hsl : s < 1999700000) {u : Nat} (hu : UL f B nn u) : ∃ (f' : FI) (v s' : Int), Ex mt 6 269 (il σ f g) [vR 12 (some (B + 165))] (il σ f' g, [vI v]) ∧ ((Ld u (Gd f g B) 0 ∧ v = (cb 8 u : Int) ∧ f' (B + 165) 51 = (cb 8 u : Int) ∧ Pt u (Gd f g B) (f' (B + 165 + 33)) (cb 8 u) 0) ∨ (¬ Ld u (Gd f g B) 0 ∧ v = -2 ∧ f' (B + 165) 51 = f (B + 165) 51 ∧ f' (B + 165 + 33) = f (B + 165 + 33))) ∧ (IS f' B s' ∧ s' ≤ s + 140000) ∧ Fr (ScW B) f f' := by
  have u8 := hu.1
  obtain ⟨f1, s1, E1, o1, ⟨S1, l1⟩, F1⟩ := x_endsM (f := f) (g := g) hm hB0 hL hS (by omega)
  have eT1 := Scr3.T F1
  have eV : ∀ b q : Int, enD (GB f1 g B b) q = enD (GB f g B b) q := fun b q => enD_cong fun z hz => GB_of hz eT1 rfl
  have hB1 := Scr3.itb hB0 F1
  have hE1 : IE f1 B := by
    unfold IE at hE ⊢
    rw [F1 _ _ (by omega), F1 _ _ (by omega)]
    exact hE
  have eG : Gd f1 g B = Gd f g B := funext fun S => propext (Gd_of eT1 (F1 _ _ (by omega)))
  obtain ⟨f2, s2, S2, l2, F2, g2, K2⟩ := m_goods (all := u) (s := s1) hm hB1 (Scr3.il hL F1) hE1 u8 (by omega) (fun q hq => by rw [eV, eV]; exact o1 q hq) 256 0 rfl f1 s1 S1 (by omega) Fr.rfl' (fun T hT => absurd hT (Nat.not_lt_zero T))
  rw [eG] at g2
  obtain ⟨f3, F3, l3, K3⟩ := m_leads (g := g) hm u8 g2 256 (by omega) f2 Fr.rfl' (fun T h1 h2 => absurd h1 (by omega))
  have go : ∀ r, A_X12_writes_133 σ f3 g (B + 165) (u : Int) (-1) r → Ex mt 6 269 (il σ f g) [vR 12 (some (B + 165))] r := fun r A => by
    have A40 := K2 r (K3 r A)
    have loop : ∀ k i : Nat, i + k = 8 → ∀ a : Nat, a < 2 ^ i → (∀ b, b < i → a.testBit b = u.testBit b) → A_X12_writes_8 σ f1 g (B + 165) (a : Int) (i : Int) r := by
      intro k
      induction k with
      | zero =>
        intro i hi a ha hb
        obtain rfl : i = 8 := by omega
        have : a = u := bit_ext ha u8 hb
        subst this
        exact bk_X12_writes_8 hm ⟨fun _ => A40, fun z => absurd (by decide) z⟩
      | succ k ih =>
        intro i hi a ha hb
        have al : a < 2147483648 := by
          have := pow31 (n := i) (by omega)
          omega
        obtain ⟨v, v1, v2, v3⟩ := x_isUnlike (f := f1) (f' := f1) (g := g) hm hB1.ms (b := i) (by omega)
        have hbi := (hu.of eT1).2 i (by omega)
        rcases v1 with rfl | rfl
        · have nb : u.testBit i = false := by
            have : ¬ u.testBit i = true := fun z => hbi.mp z (v2.mp rfl)
            simpa using this
          have A := ih (i + 1) (by omega) a (by rw [Nat.pow_succ]; omega) (fun b h => by
            by_cases z : b = i
            · rw [z, nb]; exact big_bit ha (Nat.le_refl _)
            · exact hb b (by omega))
          refine bk_X12_writes_8 hm ⟨fun z => absurd z (by omega), fun _ => ⟨f1, g, _, v3, fun _ => ⟨by omega, ?_⟩, fun z => absurd rfl z⟩⟩
          rw [iOr_0 al]
          exact A
        · have nb : u.testBit i = true := hbi.mpr fun z => absurd (v2.mpr z) (by decide)
          have A := ih (i + 1) (by omega) (a ||| 2 ^ i) (or_lt (by rw [Nat.pow_succ]; omega) (by omega)) (fun b h => by
            rw [or_bit]
            by_cases z : b = i
            · rw [z, nb]; simp
            · rw [hb b (by omega)]
              have : ¬ i = b := fun y => z y.symm
              simp [this])
          refine bk_X12_writes_8 hm ⟨fun z => absurd z (by omega), fun _ => ⟨f1, g, _, v3, fun z => absurd z (by decide), fun _ => ⟨by omega, by omega, ?_⟩⟩⟩
          rw [iOr_p2 al (by omega)]
          exact A
    exact bk_X12_writes_0 hm ⟨f1, g, E1, loop 8 0 rfl 0 (by decide) fun b hb => absurd hb (Nat.not_lt_zero b)⟩
  have F03 : Fr (ScW B) f f3 := fun a k hk => by rw [F3 a k (by omega), F2 a k (by omega), F1 a k (by omega)]
  have S3 : IS f3 B s2 := S2.of (F3 _ _ (by omega)) (by
    funext k
    exact F3 _ k (by omega))
  have g0 : Sub 0 u ∧ Gd f g B 0 := ⟨fun i _ z => by rw [Nat.zero_testBit] at z; exact absurd z (by decide), fun q _ _ => Or.inl rfl⟩
  by_cases h0 : f3 (B + 165 + 32) 0 = 0
  · exact ⟨f3, -2, s2, go _ (bk_X12_writes_133 hm ⟨fun _ => ⟨fun z => absurd h0 z, fun _ => rfl⟩, fun z => absurd (by decide) z⟩), Or.inr ⟨fun z => (l3 0 (by omega)).t.mpr ⟨g0, z⟩ h0, rfl, by rw [F3 _ _ (by omega), F2 _ _ (by omega), F1 _ _ (by omega)], by
      funext k
      rw [F3 _ k (by omega), F2 _ k (by omega), F1 _ k (by omega)]⟩, ⟨S3, by omega⟩, F03⟩
  · have ld := ((l3 0 (by omega)).t.mp h0).2
    obtain ⟨f4, A4, a1, a2, -, F4⟩ := m_order (g := g) hm u8 (cb 8 u) 0 (up2 f3 (B + 165) 51 0) (by rw [cb_0]; omega) (by omega) g0.1 ld (by rw [u2_s, cb_0]; rfl) (fun T hT => by
      rw [u2_a (by omega)]
      exact l3 T hT)
    refine ⟨f4, cb 8 u, s2, go _ (bk_X12_writes_133 hm ⟨fun _ => ⟨fun _ => A4, fun z => absurd z h0⟩, fun z => absurd (by decide) z⟩), Or.inl ⟨ld, rfl, a1, a2⟩, ⟨S3.of ?_ ?_, by omega⟩, fun a k hk => ?_⟩
    · rw [F4 _ _ (by omega), u2_i (by omega)]
    · funext k
      rw [F4 _ k (by omega), u2_a (by omega)]
    · rw [F4 a k (by omega)]
      by_cases z : a = B + 165
      · subst z
        rw [u2_i (by omega)]
        exact F03 _ _ hk
      · rw [u2_a z]
        exact F03 _ _ hk
theorem c_writes {σ : St} {f : FI} {g : FL} {B : Nat} (hs : Sh11 σ B) (hm : Sh12 σ (B + 165)) {nn : Nat → Nat} {s : Int} (hB0 : ITb f B nn) (hL : IL f g B) (hE : IE f B) (hO : IO f B) (hS : IS f B s) (hsl : s < 1999700000) : ∃ (v : Int) (f1 f2 : FI), Ex mt 108 166 (il σ f g) [vR 11 (some B)] (il σ f1 g, [vI v]) ∧ Ex mt 6 269 (il σ f1 g) [vR 12 (some (B + 165))] (il σ f2 g, [vI v]) ∧ (IO f2 B ∧ ∃ s2, IS f2 B s2 ∧ s2 ≤ s + 140000) ∧ Fr (fun a k => a = B + 143 ∨ (B + 146 ≤ a ∧ a ≤ B + 150) ∨ (a = B + 144 ∧ k = 3) ∨ ScW B a k) f f2 := by
  obtain ⟨u, f1, v, hu, E1, R1, F1⟩ := x_findOrder (g := g) hs hB0 hE
  have eT : SameT f f1 B := fun a h1 h2 => by
    funext k
    exact F1 a k (by omega)
  have hB1 : ITb f1 B nn := hB0.fr eT fun a h1 h2 => by
    funext k
    exact F1 a k (by omega)
  have hL1 : IL f1 g B := hL.fr (by
    funext k
    exact F1 _ k (by omega)) (F1 _ _ (by omega)) rfl
  have hE1 : IE f1 B := by
    unfold IE at hE ⊢
    rw [F1 _ _ (by omega), F1 _ _ (by omega)]
    exact hE
  have hS1 : IS f1 B s := hS.of (F1 _ _ (by omega)) (by
    funext k
    exact F1 _ k (by omega))
  obtain ⟨f2, v2, s2, E2, R2, S2, F2⟩ := x_writesM (f := f1) (g := g) hm hB1 hL1 hE1 hS1 hsl (hu.of eT)
  have eG : Gd f1 g B = Gd f g B := funext fun S => propext (Gd_of eT (F1 _ _ (by omega)))
  rw [eG] at R2
  have q3 : f2 (B + 144) 3 = f1 (B + 144) 3 := F2 _ _ (by omega)
  have q146 : ∀ i, f2 (B + 146) i = f1 (B + 146) i := fun i => F2 _ i (by omega)
  have c8 := cb_le 8 u
  have fin : v = v2 ∧ IO f2 B := by
    rcases R1 with ⟨a1, rfl, a3, a4⟩ | ⟨a1, rfl, a3, a4⟩ <;> rcases R2 with ⟨b1, rfl, b3, b4⟩ | ⟨b1, rfl, b3, b4⟩
    · refine ⟨rfl, ⟨by rw [q3, a3, b3], by rw [q3, a3]; omega, by rw [q3, a3]; omega⟩, fun i hi => ?_, fun i j hij hj => ?_⟩
      · rw [q3, a3] at hi
        have := Pt.one _ _ a4 b4 i (by rw [cb_0]; omega) (by rw [cb_0]; omega)
        obtain ⟨b, hb, e, -⟩ := Pt.new _ _ a4 i (by rw [cb_0]; omega) (by rw [cb_0]; omega)
        rw [q146]
        exact ⟨this, by omega, by omega⟩
      · rw [q3, a3] at hj
        rw [q146, q146]
        exact Pt.dis _ _ a4 i j (by rw [cb_0]; omega) hij (by rw [cb_0]; omega)
    · exact absurd a1 b1
    · exact absurd b1 a1
    · have w3 : f1 (B + 165) 51 = f (B + 165) 51 := F1 _ _ (by omega)
      have w33 : f1 (B + 165 + 33) = f (B + 165 + 33) := by
        funext k
        exact F1 _ k (by omega)
      refine ⟨rfl, ?_⟩
      unfold IO at hO ⊢
      rw [q3, a3, b3, w3, b4, w33, show f2 (B + 146) = f (B + 146) from by
        funext i
        rw [q146, a4]]
      exact hO
  obtain ⟨rfl, hO2⟩ := fin
  exact ⟨v, f1, f2, bk_X11_writes_0 hs ⟨f1, g, v, E1, rfl⟩, E2, ⟨hO2, s2, S2⟩, fun a k hk => by rw [F2 a k (by omega), F1 a k (by omega)]⟩
