/-! a row that nobody holds isn't written -/
def Nk (p : Nat) (st : List Vl) : Prop := ∀ t, (.inr (.inr (t, some p)) : Vl) ∉ st
def Nl (p : Nat) (ls : Ls) : Prop := ∀ t, some (.inr (.inr (t, some p)) : Vl) ∉ ls
def Ns (p : Nat) (σ : St) : Prop := p < nx σ ∧ ∀ a k, gR σ a k ≠ some p
def Nb (p : Nat) (σ σ' : St) : Prop := Ns p σ' ∧ gI σ' p = gI σ p ∧ ln σ' p = ln σ p
def Nc (p : Nat) (σ : St) (o : Out) : Prop := match o with
  | .inl (σ', _, ls', st') => Nb p σ σ' ∧ Nl p ls' ∧ Nk p st'
  | .inr (.inl (_, as, _, st')) => Nk p as ∧ Nk p st'
  | .inr (.inr r) => Nk p r
theorem Nk_nil {p : Nat} : Nk p [] := fun _ h => absurd h List.not_mem_nil
theorem Nk_I {p : Nat} {x : Int} {st : List Vl} : Nk p (.inl x :: st) ↔ Nk p st := ⟨fun h t m => h t (List.mem_cons_of_mem _ m), fun h t m => by
  rcases List.mem_cons.mp m with e | e
  · cases e
  · exact h t e⟩
theorem Nk_L {p : Nat} {x : BitVec 64} {st : List Vl} : Nk p (.inr (.inl x) :: st) ↔ Nk p st := ⟨fun h t m => h t (List.mem_cons_of_mem _ m), fun h t m => by
  rcases List.mem_cons.mp m with e | e
  · cases e
  · exact h t e⟩
theorem Nk_R {p t : Nat} {x : Option Nat} {st : List Vl} : Nk p (.inr (.inr (t, x)) :: st) ↔ x ≠ some p ∧ Nk p st := ⟨fun h => ⟨fun e => h t (by rw [e]; exact List.mem_cons_self), fun t m => h t (List.mem_cons_of_mem _ m)⟩, fun h u m => by
  rcases List.mem_cons.mp m with e | e
  · cases e
    exact h.1 rfl
  · exact h.2 u e⟩
theorem Nk_V {p : Nat} {v : Vl} {st : List Vl} : Nk p (v :: st) ↔ Nk p [v] ∧ Nk p st := ⟨fun h => ⟨fun t m => h t (by rw [List.mem_singleton.mp m]; exact List.mem_cons_self), fun t m => h t (List.mem_cons_of_mem _ m)⟩, fun h t m => by
  rcases List.mem_cons.mp m with e | e
  · exact h.1 t (List.mem_singleton.mpr e)
  · exact h.2 t e⟩
theorem Nk_app {p : Nat} {a b : List Vl} : Nk p (a ++ b) ↔ Nk p a ∧ Nk p b := ⟨fun h => ⟨fun t m => h t (List.mem_append_left _ m), fun t m => h t (List.mem_append_right _ m)⟩, fun h t m => by
  rcases List.mem_append.mp m with e | e
  · exact h.1 t e
  · exact h.2 t e⟩
theorem Nl_get {p i t : Nat} {x : Option Nat} {ls : Ls} (h : Nl p ls) (e : ls[i]? = some (some (.inr (.inr (t, x))))) : x ≠ some p := fun z => h t (List.mem_of_getElem? (i := i) (by rw [e, z]))
theorem Nl_inv {p i : Nat} {ls : Ls} (h : Nl p ls) : Nl p (lInv ls i) := by
  unfold lInv
  split
  · exact h
  · split
    · intro t m
      rcases List.mem_or_eq_of_mem_set m with e | e
      · exact h t e
      · cases e
    · exact h
theorem Nl_set1 {p i : Nat} {v : Vl} {ls : Ls} (h : Nl p ls) (hv : Nk p [v]) : Nl p (lSet1 ls i v) := fun t m => by
  rcases List.mem_or_eq_of_mem_set m with e | e
  · exact Nl_inv h t e
  · exact hv t (by rw [Option.some.inj e]; exact List.mem_singleton.mpr rfl)
theorem Nl_set2 {p i : Nat} {v : Vl} {ls : Ls} (h : Nl p ls) (hv : Nk p [v]) : Nl p (lSet2 ls i v) := fun t m => by
  rcases List.mem_or_eq_of_mem_set m with e | e
  · rcases List.mem_or_eq_of_mem_set e with e | e
    · exact Nl_inv h t e
    · exact hv t (by rw [Option.some.inj e]; exact List.mem_singleton.mpr rfl)
  · cases e
theorem Nl_ent {p n : Nat} {as : List Vl} (h : Nk p as) : Nl p (entL as n) := fun t m => by
  unfold entL at m
  rcases List.mem_append.mp m with e | e
  · exact h t (lEnt_in e)
  · cases (List.mem_replicate.mp e).2
theorem Nb.rfl' {p : Nat} {σ : St} (h : Ns p σ) : Nb p σ σ := ⟨h, rfl, rfl⟩
theorem Nb.wI {p q k : Nat} {σ : St} {v : Int} (h : Ns p σ) (hq : some q ≠ some p) : Nb p σ (wI σ q k v) := ⟨h, up2_ne (fun e => hq (by rw [e])), rfl⟩
theorem Nb.wL {p q k : Nat} {σ : St} {v : BitVec 64} (h : Ns p σ) : Nb p σ (wL σ q k v) := ⟨h, rfl, rfl⟩
theorem Nb.wR {p q k : Nat} {σ : St} {v : Option Nat} (h : Ns p σ) (hv : v ≠ some p) : Nb p σ (wR σ q k v) := ⟨⟨h.1, fun a j => by
  rw [wR_gR]
  split
  · exact hv
  · exact h.2 a j⟩, rfl, rfl⟩
theorem Nb.aI {p q : Nat} {σ : St} {v : Nat → Int} (h : Ns p σ) (hq : some q ≠ some p) : Nb p σ (aI σ q v) := ⟨h, up1_ne (fun e => hq (by rw [e])), rfl⟩
theorem Nb.aL {p q : Nat} {σ : St} {v : Nat → BitVec 64} (h : Ns p σ) : Nb p σ (aL σ q v) := ⟨h, rfl, rfl⟩
theorem nb_mk {p t n s : Nat} {σ : St} (h : Ns p σ) : Nb p σ (mk σ t n s) := ⟨⟨by rw [mk_nx]; have := h.1; omega, fun a k => by
  show up1 (gR σ) (nx σ) (fun _ => none) a k ≠ some p
  unfold up1
  split
  · exact fun e => by cases e
  · exact h.2 a k⟩, up1_ne (Nat.ne_of_lt h.1), up1_ne (Nat.ne_of_lt h.1)⟩
theorem Nb.trans {p : Nat} {σ σ1 σ2 : St} (h : Nb p σ σ1) (h2 : Nb p σ1 σ2) : Nb p σ σ2 := ⟨h2.1, h2.2.1.trans h.2.1, h2.2.2.trans h.2.2⟩
theorem nb_mkN {p : Nat} {σ : St} (h : Ns p σ) : ∀ n, Nb p σ (mkN σ n)
  | 0 => Nb.rfl' h
  | n + 1 => (nb_mkN h n).trans (nb_mk (nb_mkN h n).1)
theorem nb_mkX {p n : Nat} {σ : St} (h : Ns p σ) : Nb p σ (mkX σ n) := by
  have a := (nb_mk (t := 19) (n := n) (s := n) h).trans (nb_mkN (nb_mk (t := 19) (n := n) (s := n) h).1 n)
  refine ⟨⟨a.1.1, fun b k => ?_⟩, a.2⟩
  show up1 (gR (mkN (mk σ 19 n n) n)) (nx σ) (fun k => if k < n then some (nx σ + 1 + k) else none) b k ≠ some p
  unfold up1
  split
  · have := h.1
    dsimp only
    split
    · exact fun e => by cases e; omega
    · exact fun e => by cases e
  · exact a.1.2 b k
theorem ite_el {c : Prop} [Decidable c] {a b : Option Out} {o : Out} {P : Prop} (h : (if c then a else b) = some o) (h1 : a = some o → P) (h2 : b = some o → P) : P := by
  by_cases e : c
  · rw [if_pos e] at h
    exact h1 h
  · rw [if_neg e] at h
    exact h2 h
theorem nr_load {p op a : Nat} {σ : St} {cs : List LI} {ls : Ls} {st : List Vl} {o : Out} (h : s_load σ cs ls st op a = some o) (hS : Ns p σ) (hl : Nl p ls) (hk : Nk p st) : Nc p σ o := by
  unfold s_load oN at h
  repeat' split at h
  all_goals first
    | (cases h; done)
    | (cases h; exact ⟨Nb.rfl' hS, hl, Nk_I.mpr hk⟩)
    | (cases h; exact ⟨Nb.rfl' hS, hl, Nk_L.mpr hk⟩)
    | (rename_i e; cases h; exact ⟨Nb.rfl' hS, hl, Nk_R.mpr ⟨Nl_get hl e, hk⟩⟩)
theorem nr_store {p op a : Nat} {σ : St} {cs : List LI} {ls : Ls} {st : List Vl} {o : Out} (h : s_store σ cs ls st op a = some o) (hS : Ns p σ) (hl : Nl p ls) (hk : Nk p st) : Nc p σ o := by
  unfold s_store oN at h
  repeat' split at h
  all_goals first
    | (cases h; done)
    | (cases h; exact ⟨Nb.rfl' hS, Nl_set1 hl (Nk_V.mp hk).1, (Nk_V.mp hk).2⟩)
    | (cases h; exact ⟨Nb.rfl' hS, Nl_set2 hl (Nk_V.mp hk).1, (Nk_V.mp hk).2⟩)
theorem nr_ar {p op : Nat} {σ : St} {cs : List LI} {ls : Ls} {st : List Vl} {o : Out} (h : s_ar σ cs ls st op = some o) (hS : Ns p σ) (hl : Nl p ls) (hk : Nk p st) : Nc p σ o := by
  unfold s_ar oN at h
  repeat' split at h
  all_goals first
    | (cases h; done)
    | (cases h; exact ⟨Nb.rfl' hS, hl, Nk_I.mpr (Nk_I.mp (Nk_I.mp hk))⟩)
theorem nr_lar {p op : Nat} {σ : St} {cs : List LI} {ls : Ls} {st : List Vl} {o : Out} (h : s_lar σ cs ls st op = some o) (hS : Ns p σ) (hl : Nl p ls) (hk : Nk p st) : Nc p σ o := by
  unfold s_lar oN at h
  repeat' split at h
  all_goals first
    | (cases h; done)
    | (cases h; exact ⟨Nb.rfl' hS, hl, Nk_L.mpr (Nk_L.mp (Nk_L.mp hk))⟩)
    | (cases h; exact ⟨Nb.rfl' hS, hl, Nk_I.mpr (Nk_L.mp (Nk_L.mp hk))⟩)
theorem nr_lsh {p op : Nat} {σ : St} {cs : List LI} {ls : Ls} {st : List Vl} {o : Out} (h : s_lsh σ cs ls st op = some o) (hS : Ns p σ) (hl : Nl p ls) (hk : Nk p st) : Nc p σ o := by
  unfold s_lsh oN at h
  repeat' split at h
  all_goals first
    | (cases h; done)
    | (cases h; exact ⟨Nb.rfl' hS, hl, Nk_L.mpr (Nk_L.mp (Nk_I.mp hk))⟩)
theorem nr_un {p op : Nat} {σ : St} {cs : List LI} {ls : Ls} {st : List Vl} {o : Out} (h : s_un σ cs ls st op = some o) (hS : Ns p σ) (hl : Nl p ls) (hk : Nk p st) : Nc p σ o := by
  unfold s_un oN at h
  repeat' split at h
  all_goals first
    | (cases h; done)
    | (cases h; exact ⟨Nb.rfl' hS, hl, Nk_L.mpr (Nk_L.mp hk)⟩)
    | (cases h; exact ⟨Nb.rfl' hS, hl, Nk_L.mpr (Nk_I.mp hk)⟩)
    | (cases h; exact ⟨Nb.rfl' hS, hl, Nk_I.mpr (Nk_L.mp hk)⟩)
    | (cases h; exact ⟨Nb.rfl' hS, hl, Nk_I.mpr (Nk_I.mp hk)⟩)
    | (cases h; exact ⟨Nb.rfl' hS, hl, Nk_V.mpr ⟨(Nk_V.mp hk).1, hk⟩⟩)
    | (cases h; exact ⟨Nb.rfl' hS, hl, Nk_V.mpr ⟨(Nk_V.mp hk).1, Nk_V.mpr ⟨(Nk_V.mp (Nk_V.mp hk).2).1, hk⟩⟩⟩)
    | (cases h; exact ⟨Nb.rfl' hS, hl, (Nk_V.mp hk).2⟩)
theorem nr_inc {p a : Nat} {z : Int} {σ : St} {cs : List LI} {ls : Ls} {st : List Vl} {o : Out} (h : s_inc σ cs ls st a z = some o) (hS : Ns p σ) (hl : Nl p ls) (hk : Nk p st) : Nc p σ o := by
  unfold s_inc oN at h
  repeat' split at h
  all_goals first
    | (cases h; done)
    | (cases h; exact ⟨Nb.rfl' hS, Nl_set1 hl (Nk_I.mpr Nk_nil), hk⟩)
theorem nr_br {p op a b : Nat} {M : Nat → List LI} {σ : St} {cs : List LI} {ls : Ls} {st : List Vl} {o : Out} (h : s_br M σ cs ls st op a b = some o) (hS : Ns p σ) (hl : Nl p ls) (hk : Nk p st) : Nc p σ o := by
  unfold s_br oN at h
  repeat' split at h
  all_goals first
    | (cases h; done)
    | (cases h; exact ⟨Nb.rfl' hS, hl, Nk_I.mp (Nk_I.mp hk)⟩)
    | (cases h; exact ⟨Nb.rfl' hS, hl, (Nk_V.mp hk).2⟩)
theorem nr_fld {p op a b c : Nat} {σ : St} {cs : List LI} {ls : Ls} {st : List Vl} {o : Out} (h : s_fld σ cs ls st op a b c = some o) (hS : Ns p σ) (hl : Nl p ls) (hk : Nk p st) : Nc p σ o := by
  unfold s_fld oN at h
  repeat' split at h
  all_goals first
    | (cases h; done)
    | (cases h; exact ⟨Nb.rfl' hS, hl, Nk_I.mpr (Nk_R.mp hk).2⟩)
    | (cases h; exact ⟨Nb.rfl' hS, hl, Nk_L.mpr (Nk_R.mp hk).2⟩)
    | (cases h; exact ⟨Nb.rfl' hS, hl, Nk_R.mpr ⟨hS.2 _ _, (Nk_R.mp hk).2⟩⟩)
    | (cases h; exact ⟨Nb.wI hS (Nk_R.mp (Nk_I.mp hk)).1, hl, (Nk_R.mp (Nk_I.mp hk)).2⟩)
    | (cases h; exact ⟨Nb.wL hS, hl, (Nk_R.mp (Nk_L.mp hk)).2⟩)
    | (cases h; exact ⟨Nb.wR hS (Nk_R.mp hk).1, hl, (Nk_R.mp (Nk_R.mp hk).2).2⟩)
theorem nr_arr {p op a c : Nat} {σ : St} {cs : List LI} {ls : Ls} {st : List Vl} {o : Out} (h : s_arr σ cs ls st op a c = some o) (hS : Ns p σ) (hl : Nl p ls) (hk : Nk p st) : Nc p σ o := by
  unfold s_arr oN at h
  refine ite_el h (fun h => ?_) fun h => ite_el h (fun h => ?_) fun h => ite_el h (fun h => ?_) fun h => ite_el h (fun h => ?_) fun h => ite_el h (fun h => ?_) fun h => ite_el h (fun h => ?_) fun h => ite_el h (fun h => ?_) fun h => ite_el h (fun h => ?_) fun h => ite_el h (fun h => ?_) fun h => ite_el h (fun h => ?_) fun h => ite_el h (fun h => ?_) fun h => ?_
  all_goals (repeat' split at h)
  all_goals first
    | (cases h; done)
    | (cases h; exact ⟨Nb.rfl' hS, hl, Nk_I.mpr (Nk_R.mp (Nk_I.mp hk)).2⟩)
    | (cases h; exact ⟨Nb.rfl' hS, hl, Nk_L.mpr (Nk_R.mp (Nk_I.mp hk)).2⟩)
    | (cases h; exact ⟨Nb.rfl' hS, hl, Nk_R.mpr ⟨hS.2 _ _, (Nk_R.mp (Nk_I.mp hk)).2⟩⟩)
    | (cases h; exact ⟨Nb.wI hS (Nk_R.mp (Nk_I.mp (Nk_I.mp hk))).1, hl, (Nk_R.mp (Nk_I.mp (Nk_I.mp hk))).2⟩)
    | (cases h; exact ⟨Nb.wL hS, hl, (Nk_R.mp (Nk_I.mp (Nk_L.mp hk))).2⟩)
    | (cases h; exact ⟨Nb.wR hS (Nk_R.mp hk).1, hl, (Nk_R.mp (Nk_I.mp (Nk_R.mp hk).2)).2⟩)
    | (cases h; exact ⟨Nb.rfl' hS, hl, Nk_I.mpr (Nk_R.mp hk).2⟩)
theorem nr_new {p op a c : Nat} {σ : St} {cs : List LI} {ls : Ls} {st : List Vl} {o : Out} (h : s_new σ cs ls st op a c = some o) (hS : Ns p σ) (hl : Nl p ls) (hk : Nk p st) : Nc p σ o := by
  have hn : some (nx σ) ≠ some p := fun e => by cases e; exact Nat.lt_irrefl _ hS.1
  unfold s_new oN at h
  repeat' split at h
  all_goals first
    | (cases h; done)
    | (cases h; exact ⟨nb_mk hS, hl, Nk_R.mpr ⟨hn, Nk_I.mp hk⟩⟩)
    | (cases h; exact ⟨nb_mk hS, hl, Nk_R.mpr ⟨hn, hk⟩⟩)
theorem nr_cpy {p op : Nat} {σ : St} {cs : List LI} {ls : Ls} {st : List Vl} {o : Out} (h : s_cpy σ cs ls st op = some o) (hS : Ns p σ) (hl : Nl p ls) (hk : Nk p st) : Nc p σ o := by
  unfold s_cpy oN at h
  repeat' split at h
  all_goals first
    | (cases h; done)
    | (cases h; exact ⟨Nb.aI hS (Nk_R.mp (Nk_I.mp (Nk_I.mp hk))).1, hl, (Nk_R.mp (Nk_I.mp (Nk_R.mp (Nk_I.mp (Nk_I.mp hk))).2)).2⟩)
    | (cases h; exact ⟨Nb.aL hS, hl, (Nk_R.mp (Nk_I.mp (Nk_R.mp (Nk_I.mp (Nk_I.mp hk))).2)).2⟩)
theorem nr_inv {p a b c : Nat} {z : Int} {σ : St} {cs : List LI} {st : List Vl} {o : Out} (h : s_inv cs st a b c z = some o) (hk : Nk p st) : Nc p σ o := by
  have key : ∀ as st', takeA b st = some (as, st') → Nk p as ∧ Nk p st' := fun as st' e => by
    unfold takeA at e
    split at e
    · cases e
      exact ⟨fun t m => hk t (List.mem_of_mem_take (List.mem_reverse.mp m)), fun t m => hk t (List.mem_of_mem_drop m)⟩
    · cases e
  unfold s_inv at h
  split at h
  · rename_i as st' e
    have k := key as st' e
    split at h
    · split at h
      · cases h
        exact k
      · split at h
        · split at h
          · cases h
            exact k
          · cases h
        · cases h
    · cases h
  · cases h
theorem nr_ret {p op a : Nat} {σ : St} {st : List Vl} {o : Out} (h : s_ret st op a = some o) (hk : Nk p st) : Nc p σ o := by
  unfold s_ret at h
  repeat' split at h
  all_goals first
    | (cases h; done)
    | (cases h; exact hk)
theorem nr_mm {p op : Nat} {σ : St} {cs : List LI} {ls : Ls} {st : List Vl} {o : Out} (h : s_mm σ cs ls st op = some o) (hS : Ns p σ) (hl : Nl p ls) (hk : Nk p st) : Nc p σ o := by
  unfold s_mm oN at h
  repeat' split at h
  all_goals first
    | (cases h; done)
    | (cases h; exact ⟨Nb.rfl' hS, hl, Nk_I.mpr (Nk_I.mp (Nk_I.mp hk))⟩)
theorem nr_step {p : Nat} {M : Nat → List LI} {σ : St} {cs : List LI} {ls : Ls} {st : List Vl} {o : Out} (h : step M σ cs ls st = some o) (hS : Ns p σ) (hl : Nl p ls) (hk : Nk p st) : Nc p σ o := by
  cases cs with
  | nil => cases h
  | cons i cs =>
    obtain ⟨op, a, b, c, z⟩ := i
    unfold step at h
    refine ite_el h (fun h => ?_) fun h => ?_
    · cases h
      exact ⟨Nb.rfl' hS, hl, hk⟩
    refine ite_el h (fun h => nr_load h hS hl hk) fun h => ?_
    refine ite_el h (fun h => nr_store h hS hl hk) fun h => ?_
    refine ite_el h (fun h => ite_el h (fun h => ?_) fun h => ?_) fun h => ?_
    · cases h
      exact ⟨Nb.rfl' hS, hl, Nk_I.mpr hk⟩
    · cases h
    refine ite_el h (fun h => ?_) fun h => ?_
    · cases h
      exact ⟨Nb.rfl' hS, hl, Nk_L.mpr hk⟩
    refine ite_el h (fun h => ?_) fun h => ?_
    · cases h
      exact ⟨Nb.rfl' hS, hl, Nk_R.mpr ⟨fun e => (by cases e), hk⟩⟩
    refine ite_el h (fun h => nr_un h hS hl hk) fun h => ?_
    refine ite_el h (fun h => nr_ar h hS hl hk) fun h => ?_
    refine ite_el h (fun h => nr_lar h hS hl hk) fun h => ?_
    refine ite_el h (fun h => nr_lsh h hS hl hk) fun h => ?_
    refine ite_el h (fun h => nr_un h hS hl hk) fun h => ?_
    refine ite_el h (fun h => nr_inc h hS hl hk) fun h => ?_
    refine ite_el h (fun h => nr_br h hS hl hk) fun h => ?_
    refine ite_el h (fun h => ?_) fun h => ?_
    · cases h
      exact ⟨Nb.rfl' hS, hl, hk⟩
    refine ite_el h (fun h => nr_br h hS hl hk) fun h => ?_
    refine ite_el h (fun h => nr_un h hS hl hk) fun h => ?_
    refine ite_el h (fun h => nr_fld h hS hl hk) fun h => ?_
    refine ite_el h (fun h => ?_) fun h => ?_
    · split at h
      · rename_i q e
        cases h
        exact ⟨Nb.rfl' hS, hl, Nk_R.mpr ⟨fun z => hS.2 0 _ (e.trans z), hk⟩⟩
      · cases h
    refine ite_el h (fun h => nr_arr h hS hl hk) fun h => ?_
    refine ite_el h (fun h => ?_) fun h => ?_
    · split at h
      · refine ite_el h (fun h => ?_) fun h => ?_
        · cases h
          exact ⟨nb_mkX hS, hl, Nk_R.mpr ⟨fun e => by cases e; exact Nat.lt_irrefl _ hS.1, Nk_I.mp (Nk_I.mp hk)⟩⟩
        · cases h
      · cases h
    refine ite_el h (fun h => nr_new h hS hl hk) fun h => ?_
    refine ite_el h (fun h => nr_inv h hk) fun h => ?_
    refine ite_el h (fun h => ?_) fun h => ?_
    · split at h
      · refine ite_el h (fun h => ?_) fun h => ?_
        · cases h
          exact ⟨Nb.rfl' hS, hl, (Nk_R.mp hk).2⟩
        · cases h
      · cases h
    refine ite_el h (fun h => nr_cpy h hS hl hk) fun h => ?_
    refine ite_el h (fun h => nr_ret h hk) fun h => ?_
    exact nr_mm h hS hl hk
theorem nr_exec {mt : Nat → Nat × (Nat → List LI)} {p : Nat} : ∀ {n d : Nat} {M : Nat → List LI} {σ : St} {cs : List LI} {ls : Ls} {st : List Vl} {r : St × List Vl}, exec mt n d M σ cs ls st = some r → Ns p σ → Nl p ls → Nk p st → Nb p σ r.1 ∧ Nk p r.2
  | 0, _, _, _, _, _, _, _, h, _, _, _ => by simp [exec] at h
  | n + 1, d, M, σ, cs, ls, st, r, h, hS, hl, hk => by
    rw [exec] at h
    cases e : step M σ cs ls st with
    | none => rw [e] at h; cases h
    | some o =>
      rw [e] at h
      have q := nr_step e hS hl hk
      rcases o with ⟨σ', cs', ls', st'⟩ | ⟨i, as, cs', st'⟩ | q'
      · obtain ⟨b, l, k⟩ := q
        obtain ⟨b2, k2⟩ := nr_exec h b.1 l k
        exact ⟨b.trans b2, k2⟩
      · obtain ⟨k1, k2⟩ := q
        dsimp only at h
        cases d with
        | zero => cases h
        | succ d1 =>
          dsimp only at h
          cases e2 : exec mt n d1 (mt i).2 σ ((mt i).2 0) (entL as (mt i).1) [] with
          | none => rw [e2] at h; cases h
          | some o2 =>
            rw [e2] at h
            obtain ⟨b, k⟩ := nr_exec e2 hS (Nl_ent k1) Nk_nil
            obtain ⟨b2, k3⟩ := nr_exec h b.1 hl (Nk_app.mpr ⟨k, k2⟩)
            exact ⟨b.trans b2, k3⟩
      · cases h
        exact ⟨Nb.rfl' hS, q⟩
theorem nr_ex {d i p : Nat} {σ : St} {as : List Vl} {r : St × List Vl} (h : Ex mt d i σ as r) (hS : Ns p σ) (hk : Nk p as) : Nb p σ r.1 := by
  obtain ⟨n, h⟩ := h
  exact (nr_exec h hS (Nl_ent hk) Nk_nil).1
