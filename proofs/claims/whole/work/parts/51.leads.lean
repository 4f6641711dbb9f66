/-! writes: both -/
theorem or_same {S b : Nat} : S ||| 2 ^ b = S ↔ S.testBit b = true := by
  constructor
  · intro h
    rw [← h, or_bit]
    simp
  · intro h
    apply Nat.eq_of_testBit_eq
    intro i
    rw [or_bit]
    by_cases z : b = i
    · rw [← z, h]; simp
    · simp [z]
theorem sub_or {S all b : Nat} (h : Sub S all) : (b < 8 ∧ all.testBit b = true) → Sub (S ||| 2 ^ b) all := fun hb i hi z => by
  rw [or_bit] at z
  by_cases y : b = i
  · rw [← y]; exact hb.2
  · simp [y] at z; exact h i hi z
theorem nx_iff {all S b : Nat} {G : Nat → Prop} (hsub : Sub S all) (hb : b < 8) : Nx all G S b ↔ (¬ S ||| 2 ^ b = S) ∧ Sub (S ||| 2 ^ b) all ∧ ((Sub (S ||| 2 ^ b) all ∧ G (S ||| 2 ^ b)) ∧ Ld all G (S ||| 2 ^ b)) := by
  rw [or_same]
  constructor
  · rintro ⟨_, h1, h2, h3, h4⟩
    exact ⟨by rw [h2]; decide, sub_or hsub ⟨hb, h1⟩, ⟨sub_or hsub ⟨hb, h1⟩, h3⟩, h4⟩
  · rintro ⟨h1, h2, ⟨_, h3⟩, h4⟩
    exact ⟨hb, h2 b hb (by rw [or_bit]; simp), by simpa using h1, h3, h4⟩
theorem m_lead {σ : St} {f : FI} {g : FL} {M S all : Nat} {G : Nat → Prop} (hm : Sh12 σ M) (hS : S < 256) (ha : all < 256) (hg : b01 (f (M + 31) S) (Sub S all ∧ G S)) (hl : ∀ T, S < T → T < 256 → b01 (f (M + 32) T) ((Sub T all ∧ G T) ∧ Ld all G T)) : ∀ k b : Nat, b + k = 8 → ∀ fi : FI, Fr (fun a k => a = M + 32 ∧ k = S) f fi → b01 (fi (M + 32) S) ((Sub S all ∧ G S) ∧ (S = all ∨ ∃ c, c < b ∧ Nx all G S c)) → ∃ f1 : FI, Fr (fun a k => a = M + 32 ∧ k = S) f f1 ∧ b01 (f1 (M + 32) S) ((Sub S all ∧ G S) ∧ Ld all G S) ∧ ∀ r, A_X12_writes_133 σ f1 g M (all : Int) ((S : Int) + (-1)) r → A_X12_writes_164 σ fi g M (all : Int) (S : Int) (b : Int) r := by
  intro k
  induction k with
  | zero =>
    intro b hb fi hF hv
    obtain rfl : b = 8 := by omega
    exact ⟨fi, hF, hv.cong ⟨fun z => ⟨z.1, Ld_iff.mpr (z.2.elim Or.inl fun ⟨c, _, h⟩ => Or.inr ⟨c, h⟩)⟩, fun z => ⟨z.1, (Ld_iff.mp z.2).elim Or.inl fun ⟨c, h⟩ => Or.inr ⟨c, h.1, h⟩⟩⟩, fun r A => bk_X12_writes_164 hm ⟨fun _ => ⟨by omega, A⟩, fun z => absurd (by decide) z⟩⟩
  | succ k ih =>
    intro b hb fi hF hv
    have e31 : fi (M + 31) S = f (M + 31) S := hF _ _ (by omega)
    by_cases hgood : Sub S all ∧ G S
    · have n31 : ¬ fi (M + 31) (S : Int).toNat = 0 := by
        show ¬ fi (M + 31) S = 0
        rw [e31]
        exact hg.t.mpr hgood
      have eor := iOr_p2 (a := S) (i := b) (by omega) (by omega)
      have hlt : S ||| 2 ^ b < 256 := or_lt (n := 8) hS (by omega)
      have otn : (iOr (S : Int) (p2 (b : Int))).toNat = S ||| 2 ^ b := by rw [eor]; rfl
      have nx := nx_iff (G := G) hgood.1 (b := b) (by omega)
      have up : ∀ v : Int, Fr (fun a k => a = M + 32 ∧ k = S) f (up2 fi (M + 32) S v) := fun v => hF.up ⟨rfl, rfl⟩
      have ext : ∀ x : Int, b01 x (S = all ∨ ∃ c, c < b + 1 ∧ Nx all G S c) → ∃ f1 : FI, Fr (fun a k => a = M + 32 ∧ k = S) f f1 ∧ b01 (f1 (M + 32) S) ((Sub S all ∧ G S) ∧ Ld all G S) ∧ ∀ r, A_X12_writes_133 σ f1 g M (all : Int) ((S : Int) + (-1)) r → A_X12_writes_164 σ (up2 fi (M + 32) S x) g M (all : Int) (S : Int) ((b : Int) + 1) r := fun x hx => ih (b + 1) (by omega) (up2 fi (M + 32) S x) (up x) (by
        rw [u2_s]
        exact hx.cong ⟨fun z => ⟨hgood, z⟩, fun z => z.2⟩)
      have no : ¬ (S = all ∨ ∃ c, c < b ∧ Nx all G S c) → ¬ Nx all G S b → ¬ (S = all ∨ ∃ c, c < b + 1 ∧ Nx all G S c) := fun h1 h2 z => z.elim (fun y => h1 (Or.inl y)) fun ⟨c, hc, hn⟩ => by
        by_cases y : c = b
        · rw [y] at hn; exact h2 hn
        · exact h1 (Or.inr ⟨c, by omega, hn⟩)
      rcases hv with ⟨v1, v2⟩ | ⟨v1, v2⟩
      · obtain ⟨f1, F1, b1, K⟩ := ext 1 (Or.inl ⟨rfl, v2.2.elim Or.inl fun ⟨c, hc, hn⟩ => Or.inr ⟨c, by omega, hn⟩⟩)
        exact ⟨f1, F1, b1, fun r A => bk_X12_writes_164 hm ⟨fun z => absurd z (by omega), fun _ => ⟨by omega, fun z => absurd z n31, fun _ => ⟨⟨by omega, by omega⟩, fun _ => ⟨⟨by omega, by omega⟩, K r A⟩, fun z => absurd (by show fi (M + 32) S = 1; exact v1) (by rw [show fi (M + 32) (S : Int).toNat = fi (M + 32) S from rfl] at z; rw [z]; decide)⟩⟩⟩⟩
      · have v0 : fi (M + 32) (S : Int).toNat = 0 := v1
        have v2' : ¬ (S = all ∨ ∃ c, c < b ∧ Nx all G S c) := fun z => v2 ⟨hgood, z⟩
        by_cases h1 : S ||| 2 ^ b = S
        · obtain ⟨f1, F1, b1, K⟩ := ext 0 (Or.inr ⟨rfl, no v2' fun z => (nx.mp z).1 h1⟩)
          exact ⟨f1, F1, b1, fun r A => bk_X12_writes_164 hm ⟨fun z => absurd z (by omega), fun _ => ⟨by omega, fun z => absurd z n31, fun _ => ⟨⟨by omega, by omega⟩, fun z => absurd v0 z, fun _ => ⟨fun _ => ⟨⟨by omega, by omega⟩, K r A⟩, fun z => absurd (by rw [eor, h1]) z⟩⟩⟩⟩⟩
        · have h1' : ¬ iOr (S : Int) (p2 (b : Int)) = (S : Int) := by rw [eor]; omega
          by_cases h2 : Sub (S ||| 2 ^ b) all
          · have h2' : iAnd (iOr (S : Int) (p2 (b : Int))) (-1 - (all : Int)) = 0 := by rw [eor]; exact (sub_iff hlt ha).mpr h2
            have gt : S < S ||| 2 ^ b := by
              have := Nat.left_le_or (n := S) (m := 2 ^ b)
              omega
            have e32 : fi (M + 32) (iOr (S : Int) (p2 (b : Int))).toNat = f (M + 32) (S ||| 2 ^ b) := by rw [otn]; exact hF _ _ (by omega)
            have lead := hl _ gt hlt
            by_cases h3 : f (M + 32) (S ||| 2 ^ b) = 0
            · obtain ⟨f1, F1, b1, K⟩ := ext 0 (Or.inr ⟨rfl, no v2' fun z => lead.t.mpr (nx.mp z).2.2 h3⟩)
              exact ⟨f1, F1, b1, fun r A => bk_X12_writes_164 hm ⟨fun z => absurd z (by omega), fun _ => ⟨by omega, fun z => absurd z n31, fun _ => ⟨⟨by omega, by omega⟩, fun z => absurd v0 z, fun _ => ⟨fun z => absurd z h1', fun _ => ⟨by omega, fun z => absurd h2' z, fun _ => ⟨by rw [eor]; omega, fun _ => ⟨⟨by omega, by omega⟩, K r A⟩, fun z => absurd (by rw [e32]; exact h3) z⟩⟩⟩⟩⟩⟩⟩
            · obtain ⟨f1, F1, b1, K⟩ := ext 1 (Or.inl ⟨rfl, Or.inr ⟨b, by omega, nx.mpr ⟨h1, h2, lead.t.mp h3⟩⟩⟩)
              exact ⟨f1, F1, b1, fun r A => bk_X12_writes_164 hm ⟨fun z => absurd z (by omega), fun _ => ⟨by omega, fun z => absurd z n31, fun _ => ⟨⟨by omega, by omega⟩, fun z => absurd v0 z, fun _ => ⟨fun z => absurd z h1', fun _ => ⟨by omega, fun z => absurd h2' z, fun _ => ⟨by rw [eor]; omega, fun z => absurd (by rw [e32] at z; exact z) h3, fun _ => ⟨⟨by omega, by omega⟩, K r A⟩⟩⟩⟩⟩⟩⟩⟩
          · have h2' : ¬ iAnd (iOr (S : Int) (p2 (b : Int))) (-1 - (all : Int)) = 0 := by rw [eor]; exact fun z => h2 ((sub_iff hlt ha).mp z)
            obtain ⟨f1, F1, b1, K⟩ := ext 0 (Or.inr ⟨rfl, no v2' fun z => h2 (nx.mp z).2.1⟩)
            exact ⟨f1, F1, b1, fun r A => bk_X12_writes_164 hm ⟨fun z => absurd z (by omega), fun _ => ⟨by omega, fun z => absurd z n31, fun _ => ⟨⟨by omega, by omega⟩, fun z => absurd v0 z, fun _ => ⟨fun z => absurd z h1', fun _ => ⟨by omega, fun _ => ⟨⟨by omega, by omega⟩, K r A⟩, fun z => absurd z h2'⟩⟩⟩⟩⟩⟩
    · have z31 : fi (M + 31) (S : Int).toNat = 0 := by
        show fi (M + 31) S = 0
        rw [e31]
        exact Decidable.byContradiction fun z => hgood (hg.t.mp z)
      exact ⟨fi, hF, hv.cong ⟨fun z => absurd z.1 hgood, fun z => absurd z.1 hgood⟩, fun r A => bk_X12_writes_164 hm ⟨fun z => absurd z (by omega), fun _ => ⟨by omega, fun _ => ⟨by omega, A⟩, fun z => absurd z31 z⟩⟩⟩
theorem m_leads {σ : St} {f : FI} {g : FL} {M all : Nat} {G : Nat → Prop} (hm : Sh12 σ M) (ha : all < 256) (hg : ∀ T, T < 256 → b01 (f (M + 31) T) (Sub T all ∧ G T)) : ∀ k : Nat, k ≤ 256 → ∀ fi : FI, Fr (fun a _ => a = M + 32) f fi → (∀ T, k ≤ T → T < 256 → b01 (fi (M + 32) T) ((Sub T all ∧ G T) ∧ Ld all G T)) → ∃ f1 : FI, Fr (fun a _ => a = M + 32) f f1 ∧ (∀ T, T < 256 → b01 (f1 (M + 32) T) ((Sub T all ∧ G T) ∧ Ld all G T)) ∧ ∀ r, A_X12_writes_133 σ f1 g M (all : Int) (-1) r → A_X12_writes_133 σ fi g M (all : Int) ((k : Int) - 1) r := by
  intro k
  induction k with
  | zero =>
    intro hk fi hF hT
    exact ⟨fi, hF, fun T h => hT T (by omega) h, fun r A => A⟩
  | succ k ih =>
    intro hk fi hF hT
    have ek : ((k + 1 : Nat) : Int) - 1 = (k : Int) := by omega
    rw [ek]
    have g31 : ∀ v : Int, b01 (up2 fi (M + 32) k v (M + 31) k) (Sub k all ∧ G k) := fun v => by
      rw [u2_a (by omega), hF _ _ (by omega)]
      exact hg k (by omega)
    have l32 : ∀ (v : Int) (T : Nat), k < T → T < 256 → b01 (up2 fi (M + 32) k v (M + 32) T) ((Sub T all ∧ G T) ∧ Ld all G T) := fun v T h1 h2 => by
      rw [u2_i (by omega)]
      exact hT T (by omega) h2
    have step : ∀ v : Int, b01 v ((Sub k all ∧ G k) ∧ k = all) → ∃ f1 : FI, Fr (fun a _ => a = M + 32) f f1 ∧ (∀ T, T < 256 → b01 (f1 (M + 32) T) ((Sub T all ∧ G T) ∧ Ld all G T)) ∧ ∀ r, A_X12_writes_133 σ f1 g M (all : Int) (-1) r → A_X12_writes_164 σ (up2 fi (M + 32) k v) g M (all : Int) (k : Int) 0 r := fun v hv => by
      obtain ⟨f1, F1, b1, K⟩ := m_lead (g := g) hm (by omega) ha (g31 v) (l32 v) 8 0 rfl (up2 fi (M + 32) k v) Fr.rfl' (by
        rw [u2_s]
        exact hv.cong ⟨fun z => ⟨z.1, Or.inl z.2⟩, fun z => ⟨z.1, z.2.elim id fun ⟨c, hc, _⟩ => absurd hc (Nat.not_lt_zero c)⟩⟩)
      obtain ⟨f2, F2, b2, K2⟩ := ih (by omega) f1 (fun a j hj => by rw [F1 a j (by omega), up2_ne hj, hF a j hj]) (fun T h1 h2 => by
        by_cases z : T = k
        · rw [z]; exact b1
        · rw [F1 _ _ (by omega)]
          exact l32 v T (by omega) h2)
      exact ⟨f2, F2, b2, fun r A => K r (by rw [show (k : Int) + -1 = (k : Int) - 1 by omega]; exact K2 r A)⟩
    have e31 : fi (M + 31) (k : Int).toNat = f (M + 31) k := hF _ _ (by omega)
    have hgk := hg k (by omega)
    by_cases h1 : f (M + 31) k = 0
    · obtain ⟨f1, F1, b1, K⟩ := step 0 (Or.inr ⟨rfl, fun z => hgk.t.mpr z.1 h1⟩)
      exact ⟨f1, F1, b1, fun r A => bk_X12_writes_133 hm ⟨fun z => absurd z (by omega), fun _ => ⟨by omega, fun _ => ⟨by omega, K r A⟩, fun z => absurd (by rw [e31]; exact h1) z⟩⟩⟩
    · by_cases h2 : k = all
      · obtain ⟨f1, F1, b1, K⟩ := step 1 (Or.inl ⟨rfl, hgk.t.mp h1, h2⟩)
        exact ⟨f1, F1, b1, fun r A => bk_X12_writes_133 hm ⟨fun z => absurd z (by omega), fun _ => ⟨by omega, fun z => absurd (by rw [e31] at z; exact z) h1, fun _ => ⟨fun z => absurd (by omega) z, fun _ => ⟨by omega, K r A⟩⟩⟩⟩⟩
      · obtain ⟨f1, F1, b1, K⟩ := step 0 (Or.inr ⟨rfl, fun z => h2 z.2⟩)
        exact ⟨f1, F1, b1, fun r A => bk_X12_writes_133 hm ⟨fun z => absurd z (by omega), fun _ => ⟨by omega, fun z => absurd (by rw [e31] at z; exact z) h1, fun _ => ⟨fun _ => ⟨by omega, K r A⟩, fun z => absurd z (by omega)⟩⟩⟩⟩
/-- the order is told off the table -/
theorem m_order {σ : St} {g : FL} {M all : Nat} {G : Nat → Prop} (hm : Sh12 σ M) (ha : all < 256) : ∀ (n S : Nat) (fi : FI), cb 8 S + n = cb 8 all → S < 256 → Sub S all → Ld all G S → fi M 51 = (cb 8 S : Int) → (∀ T, T < 256 → b01 (fi (M + 32) T) ((Sub T all ∧ G T) ∧ Ld all G T)) → ∃ f1 : FI, A_X12_writes_262 σ fi g M (all : Int) (S : Int) (il σ f1 g, [vI (cb 8 all : Int)]) ∧ f1 M 51 = (cb 8 all : Int) ∧ Pt all G (f1 (M + 33)) n S ∧ (∀ i, i < cb 8 S → f1 (M + 33) i = fi (M + 33) i) ∧ Fr (fun a k => a = M + 33 ∨ (a = M ∧ k = 51)) fi f1 := by
  intro n
  induction n with
  | zero =>
    intro S fi hn hS hsub hld h51 hl
    have : S = all := (Ld_iff.mp hld).elim id fun ⟨b, hb⟩ => by
      have h1 : cb 8 (S ||| 2 ^ b) = cb 8 S + 1 := cb_or hb.1 hb.2.2.1
      have h2 : cb 8 (S ||| 2 ^ b) ≤ cb 8 all := fb_ct_sub fun i hi z => sub_or hsub ⟨hb.1, hb.2.1⟩ i hi z
      omega
    subst this
    exact ⟨fi, bk_X12_writes_262 hm ⟨fun _ => by rw [h51], fun z => absurd rfl z⟩, h51, rfl, fun _ _ => rfl, Fr.rfl'⟩
  | succ n ih =>
    intro S fi hn hS hsub hld h51 hl
    have he : ¬ S = all := fun z => by subst z; omega
    obtain ⟨b0, hb0⟩ : ∃ b, Nx all G S b := (Ld_iff.mp hld).elim (fun z => absurd z he) id
    obtain ⟨b, -, hb, hmin⟩ := fb_least (P := Nx all G S) b0 hb0
    have ecb : cb 8 (S ||| 2 ^ b) = cb 8 S + 1 := cb_or hb.1 hb.2.2.1
    have c8 := cb_le 8 (S ||| 2 ^ b)
    have hlt : S ||| 2 ^ b < 256 := or_lt (n := 8) hS hb.1
    have hb8 := hb.1
    obtain ⟨f1, A, a1, a2, a3, a4⟩ := ih (S ||| 2 ^ b) (up2 (up2 fi (M + 33) (cb 8 S) (b : Int)) M 51 ((cb 8 S : Int) + 1)) (by omega) hlt (sub_or hsub ⟨hb.1, hb.2.1⟩) hb.2.2.2.2 (by rw [u2_s, ecb]; omega) (fun T hT => by
      rw [u2_a (by omega), u2_a (by omega)]
      exact hl T hT)
    have eor := iOr_p2 (a := S) (i := b) (by omega) (by omega)
    have seek : ∀ k c : Nat, c + k = b → A_X12_writes_269 σ fi g M (all : Int) (S : Int) (c : Int) (il σ f1 g, [vI (cb 8 all : Int)]) := by
      intro k
      induction k with
      | zero =>
        intro c hc
        obtain rfl : c = b := by omega
        refine bk_X12_writes_269 hm ⟨⟨by omega, by omega⟩, fun z => absurd (hB_nat.mp z) (by rw [hb.2.2.1]; decide), fun _ => ⟨⟨by omega, by omega⟩, fun z => absurd (hB_nat.mpr hb.2.1) (by omega), fun _ => ⟨⟨by omega, by rw [eor]; omega⟩, fun _ => ⟨by rw [h51]; omega, ?_⟩, fun z => ?_⟩⟩⟩
        · rw [h51, eor]
          exact A
        · rw [eor] at z
          exact absurd z ((hl _ hlt).t.mpr ((nx_iff hsub hb.1).mp hb).2.2)
      | succ k ihk =>
        intro c hc
        have A' := ihk (c + 1) (by omega)
        have eo := iOr_p2 (a := S) (i := c) (by omega) (by omega)
        have hlc : S ||| 2 ^ c < 256 := or_lt (n := 8) hS (by omega)
        by_cases h1 : hB (S : Int) (c : Int)
        · exact bk_X12_writes_269 hm ⟨⟨by omega, by omega⟩, fun _ => ⟨by omega, A'⟩, fun z => absurd h1 z⟩
        · by_cases h2 : (all : Int) / p2 (c : Int) % 2 = 0
          · exact bk_X12_writes_269 hm ⟨⟨by omega, by omega⟩, fun z => absurd z h1, fun _ => ⟨⟨by omega, by omega⟩, fun _ => ⟨by omega, A'⟩, fun z => absurd h2 z⟩⟩
          · have h2' : all.testBit c = true := hB_nat.mp (by unfold hB; omega)
            refine bk_X12_writes_269 hm ⟨⟨by omega, by omega⟩, fun z => absurd z h1, fun _ => ⟨⟨by omega, by omega⟩, fun z => absurd z h2, fun _ => ⟨⟨by omega, by rw [eo]; omega⟩, fun z => ?_, fun _ => ⟨by omega, A'⟩⟩⟩⟩
            rw [eo] at z
            have := (hl _ hlc).t.mp z
            exact absurd ((nx_iff hsub (by omega)).mpr ⟨fun y => h1 (hB_nat.mpr (or_same.mp y)), this.1.1, this⟩) (hmin c (by omega))
    refine ⟨f1, bk_X12_writes_262 hm ⟨fun z => absurd (by omega) he, fun _ => seek b 0 (by omega)⟩, a1, ⟨he, b, ?_, hb, hmin, a2⟩, fun i hi => ?_, fun a k hk => ?_⟩
    · rw [a3 _ (by omega), u2_a (by omega), u2_s]
    · rw [a3 i (by omega), u2_a (by omega), u2_i (by omega)]
    · rw [a4 a k hk]
      by_cases z : a = M
      · subst z
        rw [u2_i (by omega), u2_a (by omega)]
      · rw [u2_a z, u2_a (by omega)]
