/-! what each part of the state looks at -/
theorem ff_IT {f f' : FI} {B : Nat} (h : IT f B) (e : ∀ a k, ((a = B ∧ k = 1) ∨ a = B + 1 ∨ (a = B + 165 ∧ k = 1) ∨ a = B + 165 + 1) → f' a k = f a k) : IT f' B := by
  have e0 : f' (B) 1 = f (B) 1 := e _ _ (by omega)
  have e1 : f' (B + 1) = f (B + 1) := funext fun k => e _ _ (by omega)
  have e2 : f' (B + 165) 1 = f (B + 165) 1 := e _ _ (by omega)
  have e3 : f' (B + 165 + 1) = f (B + 165 + 1) := funext fun k => e _ _ (by omega)
  unfold IT at h ⊢
  simp only [e0, e1, e2, e3]
  exact h
theorem ff_IR {f f' : FI} {B : Nat} (h : IR f B) (e : ∀ a k, (a = B + 3 ∨ a = B + 165 + 13 ∨ a = B + 165 + 14 ∨ a = B + 165 + 15 ∨ a = B + 165 + 16) → f' a k = f a k) : IR f' B := by
  have e0 : f' (B + 3) = f (B + 3) := funext fun k => e _ _ (by omega)
  have e1 : f' (B + 165 + 13) = f (B + 165 + 13) := funext fun k => e _ _ (by omega)
  have e2 : f' (B + 165 + 14) = f (B + 165 + 14) := funext fun k => e _ _ (by omega)
  have e3 : f' (B + 165 + 15) = f (B + 165 + 15) := funext fun k => e _ _ (by omega)
  have e4 : f' (B + 165 + 16) = f (B + 165 + 16) := funext fun k => e _ _ (by omega)
  unfold IR at h ⊢
  simp only [e0, e1, e2, e3, e4]
  exact h
theorem ff_IK {f f' : FI} {B : Nat} (h : IK f B) (e : ∀ a k, (a = B + 4 ∨ a = B + 165 + 17) → f' a k = f a k) : IK f' B := by
  have e0 : f' (B + 4) = f (B + 4) := funext fun k => e _ _ (by omega)
  have e1 : f' (B + 165 + 17) = f (B + 165 + 17) := funext fun k => e _ _ (by omega)
  unfold IK at h ⊢
  simp only [e0, e1]
  exact h
theorem ff_IE {f f' : FI} {B : Nat} (h : IE f B) (e : ∀ a k, ((a = B + 43 ∧ k = 2) ∨ (a = B + 165 ∧ k = 33)) → f' a k = f a k) : IE f' B := by
  have e0 : f' (B + 43) 2 = f (B + 43) 2 := e _ _ (by omega)
  have e1 : f' (B + 165) 33 = f (B + 165) 33 := e _ _ (by omega)
  unfold IE at h ⊢
  simp only [e0, e1]
  exact h
theorem ff_IC {f f' : FI} {B : Nat} (h : IC f B) (e : ∀ a k, ((a = B + 162 ∧ k = 2) ∨ (a = B + 162 ∧ k = 3) ∨ (a = B + 165 ∧ k = 69) ∨ (a = B + 165 ∧ k = 70) ∨ a = B + 163 ∨ a = B + 164 ∨ a = B + 165 + 47 ∨ a = B + 165 + 48) → f' a k = f a k) : IC f' B := by
  have e0 : f' (B + 162) 2 = f (B + 162) 2 := e _ _ (by omega)
  have e1 : f' (B + 162) 3 = f (B + 162) 3 := e _ _ (by omega)
  have e2 : f' (B + 165) 69 = f (B + 165) 69 := e _ _ (by omega)
  have e3 : f' (B + 165) 70 = f (B + 165) 70 := e _ _ (by omega)
  have e4 : f' (B + 163) = f (B + 163) := funext fun k => e _ _ (by omega)
  have e5 : f' (B + 164) = f (B + 164) := funext fun k => e _ _ (by omega)
  have e6 : f' (B + 165 + 47) = f (B + 165 + 47) := funext fun k => e _ _ (by omega)
  have e7 : f' (B + 165 + 48) = f (B + 165 + 48) := funext fun k => e _ _ (by omega)
  unfold IC at h ⊢
  simp only [e0, e1, e2, e3, e4, e5, e6, e7]
  exact h
theorem ff_ID {f f' : FI} {B : Nat} (h : ID f B) (e : ∀ a k, (a = B + 145 ∨ a = B + 165 + 53) → f' a k = f a k) : ID f' B := by
  have e0 : f' (B + 145) = f (B + 145) := funext fun k => e _ _ (by omega)
  have e1 : f' (B + 165 + 53) = f (B + 165 + 53) := funext fun k => e _ _ (by omega)
  unfold ID at h ⊢
  simp only [e0, e1]
  exact h
theorem ff_IY {f f' : FI} {B : Nat} (h : IY f B) (e : ∀ a k, ((a = B + 165 ∧ k = 37) ∨ (a = B + 43 ∧ k = 4) ∨ a = B + 141 ∨ a = B + 165 + 28) → f' a k = f a k) : IY f' B := by
  have e0 : f' (B + 165) 37 = f (B + 165) 37 := e _ _ (by omega)
  have e1 : f' (B + 43) 4 = f (B + 43) 4 := e _ _ (by omega)
  have e2 : f' (B + 141) = f (B + 141) := funext fun k => e _ _ (by omega)
  have e3 : f' (B + 165 + 28) = f (B + 165 + 28) := funext fun k => e _ _ (by omega)
  unfold IY at h ⊢
  simp only [e0, e1, e2, e3]
  exact h
theorem ff_IO {f f' : FI} {B : Nat} (h : IO f B) (e : ∀ a k, ((a = B + 144 ∧ k = 3) ∨ (a = B + 165 ∧ k = 51) ∨ a = B + 146 ∨ a = B + 165 + 33) → f' a k = f a k) : IO f' B := by
  have e0 : f' (B + 144) 3 = f (B + 144) 3 := e _ _ (by omega)
  have e1 : f' (B + 165) 51 = f (B + 165) 51 := e _ _ (by omega)
  have e2 : f' (B + 146) = f (B + 146) := funext fun k => e _ _ (by omega)
  have e3 : f' (B + 165 + 33) = f (B + 165 + 33) := funext fun k => e _ _ (by omega)
  unfold IO at h ⊢
  simp only [e0, e1, e2, e3]
  exact h
theorem ff_IF {f f' : FI} {B : Nat} (h : IF f B) (e : ∀ a k, ((a = B + 165 ∧ k = 54) ∨ (a = B + 154 ∧ k = 2) ∨ a = B + 155 ∨ a = B + 165 + 34) → f' a k = f a k) : IF f' B := by
  have e0 : f' (B + 165) 54 = f (B + 165) 54 := e _ _ (by omega)
  have e1 : f' (B + 154) 2 = f (B + 154) 2 := e _ _ (by omega)
  have e2 : f' (B + 155) = f (B + 155) := funext fun k => e _ _ (by omega)
  have e3 : f' (B + 165 + 34) = f (B + 165 + 34) := funext fun k => e _ _ (by omega)
  unfold IF at h ⊢
  simp only [e0, e1, e2, e3]
  exact h
theorem ff_IX {f f' : FI} {B : Nat} (h : IX f B) (e : ∀ a k, ((a = B + 36 ∧ k = 1) ∨ (a = B + 165 ∧ k = 67) ∨ a = B + 37 ∨ a = B + 165 + 45) → f' a k = f a k) : IX f' B := by
  have e0 : f' (B + 36) 1 = f (B + 36) 1 := e _ _ (by omega)
  have e1 : f' (B + 165) 67 = f (B + 165) 67 := e _ _ (by omega)
  have e2 : f' (B + 37) = f (B + 37) := funext fun k => e _ _ (by omega)
  have e3 : f' (B + 165 + 45) = f (B + 165 + 45) := funext fun k => e _ _ (by omega)
  unfold IX at h ⊢
  simp only [e0, e1, e2, e3]
  exact h
theorem ff_IG {f f' : FI} {B : Nat} (h : IG f B) (e : ∀ a k, (a = B + 159 ∨ a = B + 165 + 38 ∨ a = B + 160 ∨ a = B + 161 ∨ a = B + 165 + 39 ∨ a = B + 165 + 40) → f' a k = f a k) : IG f' B := by
  have e0 : f' (B + 159) = f (B + 159) := funext fun k => e _ _ (by omega)
  have e1 : f' (B + 165 + 38) = f (B + 165 + 38) := funext fun k => e _ _ (by omega)
  have e2 : f' (B + 160) = f (B + 160) := funext fun k => e _ _ (by omega)
  have e3 : f' (B + 161) = f (B + 161) := funext fun k => e _ _ (by omega)
  have e4 : f' (B + 165 + 39) = f (B + 165 + 39) := funext fun k => e _ _ (by omega)
  have e5 : f' (B + 165 + 40) = f (B + 165 + 40) := funext fun k => e _ _ (by omega)
  unfold IG at h ⊢
  simp only [e0, e1, e2, e3, e4, e5]
  exact h
theorem ff_ITb {f f' : FI} {B : Nat} {nn : Nat → Nat} (h : ITb f B nn) (e : ∀ a k, ((B + 45 ≤ a ∧ a < B + 141) ∨ (B + 165 + 18 ≤ a ∧ a ≤ B + 165 + 21)) → f' a k = f a k) : ITb f' B nn := h.fr (fun a h1 h2 => funext fun k => e a k (by omega)) (fun a h1 h2 => funext fun k => e a k (by omega))
theorem ff_IS {f f' : FI} {B : Nat} {s : Int} (h : IS f B s) (e : ∀ a k, ((a = B + 165 ∧ k = 39) ∨ a = B + 165 + 24) → f' a k = f a k) : IS f' B s := h.of (e _ _ (by omega)) (funext fun k => e _ _ (by omega))
theorem ff_IL {f f' : FI} {g g' : FL} {B : Nat} (h : IL f g B) (e : ∀ a k, ((a = B + 165 ∧ k = 34) ∨ a = B + 165 + 22) → f' a k = f a k) (eg : g' (B + 43) 1 = g (B + 43) 1) : IL f' g' B := h.fr (funext fun k => e _ _ (by omega)) (e _ _ (by omega)) eg
def FIv (f : FI) (B : Nat) (nn : Nat → Nat) (s : Int) : Prop := IT f B ∧ IR f B ∧ IK f B ∧ IE f B ∧ IC f B ∧ ID f B ∧ IY f B ∧ IO f B ∧ IF f B ∧ IX f B ∧ IG f B ∧ ITb f B nn ∧ IS f B s
def BaS (σ : St) (f : FI) (B : Nat) : Prop := Sh11 σ B ∧ Sh12 σ (B + 165) ∧ Stat σ f ∧ Lo σ B ∧ 0 < B ∧ B + 220 ≤ nx σ
def Inv (σ : St) (f : FI) (g : FL) (B w : Nat) (q md tr rn wt nn : Nat → Nat) (s : Int) : Prop := BaS σ f B ∧ FIv f B nn s ∧ IL f g B ∧ WI σ f g B w q md tr rn wt
/-- the state after n calls -/
def Mst (σ : St) (f : FI) (g : FL) (B S0 n : Nat) : Prop := ∃ (w : Nat) (q md tr rn wt nn : Nat → Nat) (s : Int), Inv σ f g B w q md tr rn wt nn s ∧ s ≤ 140000 * (n : Int) ∧ nx σ ≤ B + 220 + 27 * n ∧ sl σ ≤ S0 + 234 * n + 90000 * w
def StpP (σ : St) (f : FI) (g : FL) (B S0 n d1 i d2 j : Nat) (as : List Vl) : Prop := ∃ (v : Int) (f1 f2 : FI) (g1 g2 : FL), Ex mt d1 i (il σ f g) (vR 11 (some B) :: as) (il σ f1 g1, [vI v]) ∧ Ex mt d2 j (il σ f1 g1) (vR 12 (some (B + 165)) :: as) (il σ f2 g2, [vI v]) ∧ Mst σ f2 g2 B S0 (n + 1)
def StpS (σ : St) (f : FI) (g : FL) (B S0 n d1 i d2 j : Nat) (as : List Vl) : Prop := ∃ (σ1 : St) (v : Int) (f1 f2 : FI) (g1 g2 : FL), Ex mt d1 i (il σ f g) (vR 11 (some B) :: as) (il σ1 f1 g1, [vI v]) ∧ Ex mt d2 j (il σ1 f1 g1) (vR 12 (some (B + 165)) :: as) (il σ1 f2 g2, [vI v]) ∧ Mst σ1 f2 g2 B S0 (n + 1)
theorem BaS.fr {σ : St} {f f' : FI} {B : Nat} (h : BaS σ f B) (e : ∀ a k, a < B → f' a k = f a k) : BaS σ f' B := ⟨h.1, h.2.1, h.2.2.1.fr3 h.2.2.2.1 e, h.2.2.2⟩
theorem KWs.rfl' {B : Nat} {σ : St} : KWs B σ σ := ⟨Nat.le_refl _, fun _ _ => ⟨rfl, fun _ _ => rfl⟩⟩
