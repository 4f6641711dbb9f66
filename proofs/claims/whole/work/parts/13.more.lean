/-! a run makes cells and changes no old one's type -/
def Mn (σ σ' : St) : Prop := nx σ ≤ nx σ' ∧ sl σ ≤ sl σ' ∧ ∀ b, b < nx σ → tg σ' b = tg σ b
theorem Mn.rfl' {σ : St} : Mn σ σ := ⟨Nat.le_refl _, Nat.le_refl _, fun _ _ => rfl⟩
theorem Mn.trans {σ σ1 σ2 : St} (h : Mn σ σ1) (h2 : Mn σ1 σ2) : Mn σ σ2 := ⟨Nat.le_trans h.1 h2.1, Nat.le_trans h.2.1 h2.2.1, fun b hb => (h2.2.2 b (Nat.lt_of_lt_of_le hb h.1)).trans (h.2.2 b hb)⟩
theorem Mn.mk' {σ : St} {t n s : Nat} : Mn σ (mk σ t n s) := ⟨Nat.le_succ _, Nat.le_add_right _ _, fun b hb => up1_ne (by omega)⟩
theorem Mn.mkN' {σ : St} : ∀ n, Mn σ (mkN σ n)
  | 0 => Mn.rfl'
  | n + 1 => (Mn.mkN' n).trans Mn.mk'
theorem Mn.mkX' {σ : St} (n : Nat) : Mn σ (mkX σ n) := by
  have h := (Mn.mk' (σ := σ) (t := 19) (n := n) (s := n)).trans (Mn.mkN' n)
  exact ⟨h.1, h.2.1, h.2.2⟩
theorem Mn.mkM' {σ : St} : Mn σ (mkM σ) := Mn.mkX' 20
theorem oN_mn2 {σ σ1 σ' : St} {cs cs' : List LI} {ls ls' : Ls} {st st' : List Vl} (h : oN σ1 cs ls st = some (.inl (σ', cs', ls', st'))) (hm : Mn σ σ1) : Mn σ σ' := by
  cases h
  exact hm
theorem oN_mn {σ σ1 σ' : St} {cs cs' : List LI} {ls ls' : Ls} {st st' : List Vl} (hm : Mn σ σ1) (h : oN σ1 cs ls st = some (.inl (σ', cs', ls', st'))) : Mn σ σ' := by
  cases h
  exact hm
set_option maxRecDepth 100000 in
theorem mn_load {σ σ' : St} {cs cs' : List LI} {ls ls' : Ls} {st st' : List Vl} {op a : Nat} (h : s_load σ cs ls st op a = some (.inl (σ', cs', ls', st'))) : Mn σ σ' := by
  unfold s_load at h
  repeat' split at h
  all_goals first | exact oN_mn2 h Mn.rfl' | (cases h; done)
set_option maxRecDepth 100000 in
theorem mn_store {σ σ' : St} {cs cs' : List LI} {ls ls' : Ls} {st st' : List Vl} {op a : Nat} (h : s_store σ cs ls st op a = some (.inl (σ', cs', ls', st'))) : Mn σ σ' := by
  unfold s_store at h
  repeat' split at h
  all_goals first | exact oN_mn2 h Mn.rfl' | (cases h; done)
set_option maxRecDepth 100000 in
theorem mn_ar {σ σ' : St} {cs cs' : List LI} {ls ls' : Ls} {st st' : List Vl} {op : Nat} (h : s_ar σ cs ls st op = some (.inl (σ', cs', ls', st'))) : Mn σ σ' := by
  unfold s_ar at h
  repeat' split at h
  all_goals first | exact oN_mn2 h Mn.rfl' | (cases h; done)
set_option maxRecDepth 100000 in
theorem mn_lar {σ σ' : St} {cs cs' : List LI} {ls ls' : Ls} {st st' : List Vl} {op : Nat} (h : s_lar σ cs ls st op = some (.inl (σ', cs', ls', st'))) : Mn σ σ' := by
  unfold s_lar at h
  repeat' split at h
  all_goals first | exact oN_mn2 h Mn.rfl' | (cases h; done)
set_option maxRecDepth 100000 in
theorem mn_lsh {σ σ' : St} {cs cs' : List LI} {ls ls' : Ls} {st st' : List Vl} {op : Nat} (h : s_lsh σ cs ls st op = some (.inl (σ', cs', ls', st'))) : Mn σ σ' := by
  unfold s_lsh at h
  repeat' split at h
  all_goals first | exact oN_mn2 h Mn.rfl' | (cases h; done)
set_option maxRecDepth 100000 in
theorem mn_un {σ σ' : St} {cs cs' : List LI} {ls ls' : Ls} {st st' : List Vl} {op : Nat} (h : s_un σ cs ls st op = some (.inl (σ', cs', ls', st'))) : Mn σ σ' := by
  unfold s_un at h
  repeat' split at h
  all_goals first | exact oN_mn2 h Mn.rfl' | (cases h; done)
set_option maxRecDepth 100000 in
theorem mn_inc {σ σ' : St} {cs cs' : List LI} {ls ls' : Ls} {st st' : List Vl} {a : Nat} {z : Int} (h : s_inc σ cs ls st a z = some (.inl (σ', cs', ls', st'))) : Mn σ σ' := by
  unfold s_inc at h
  repeat' split at h
  all_goals first | exact oN_mn2 h Mn.rfl' | (cases h; done)
set_option maxRecDepth 100000 in
theorem mn_br {σ σ' : St} {cs cs' : List LI} {ls ls' : Ls} {st st' : List Vl} {M : Nat → List LI} {op a b : Nat} (h : s_br M σ cs ls st op a b = some (.inl (σ', cs', ls', st'))) : Mn σ σ' := by
  unfold s_br at h
  repeat' split at h
  all_goals first | exact oN_mn2 h Mn.rfl' | (cases h; done)
set_option maxRecDepth 100000 in
theorem mn_fld {σ σ' : St} {cs cs' : List LI} {ls ls' : Ls} {st st' : List Vl} {op a b c : Nat} (h : s_fld σ cs ls st op a b c = some (.inl (σ', cs', ls', st'))) : Mn σ σ' := by
  unfold s_fld at h
  repeat' split at h
  all_goals first | exact oN_mn2 h ⟨Nat.le_refl _, Nat.le_refl _, fun _ _ => rfl⟩ | (cases h; done)
set_option maxRecDepth 100000 in
theorem mn_arr {σ σ' : St} {cs cs' : List LI} {ls ls' : Ls} {st st' : List Vl} {op a c : Nat} (h : s_arr σ cs ls st op a c = some (.inl (σ', cs', ls', st'))) : Mn σ σ' := by
  unfold s_arr at h
  by_cases e52 : op = 52
  · rw [if_pos e52] at h
    repeat' split at h
    all_goals first | exact oN_mn2 h ⟨Nat.le_refl _, Nat.le_refl _, fun _ _ => rfl⟩ | (cases h; done)
  rw [if_neg e52] at h
  by_cases e53 : op = 53
  · rw [if_pos e53] at h
    repeat' split at h
    all_goals first | exact oN_mn2 h ⟨Nat.le_refl _, Nat.le_refl _, fun _ _ => rfl⟩ | (cases h; done)
  rw [if_neg e53] at h
  by_cases e54 : op = 54
  · rw [if_pos e54] at h
    repeat' split at h
    all_goals first | exact oN_mn2 h ⟨Nat.le_refl _, Nat.le_refl _, fun _ _ => rfl⟩ | (cases h; done)
  rw [if_neg e54] at h
  by_cases e55 : op = 55
  · rw [if_pos e55] at h
    repeat' split at h
    all_goals first | exact oN_mn2 h ⟨Nat.le_refl _, Nat.le_refl _, fun _ _ => rfl⟩ | (cases h; done)
  rw [if_neg e55] at h
  by_cases e56 : op = 56
  · rw [if_pos e56] at h
    repeat' split at h
    all_goals first | exact oN_mn2 h ⟨Nat.le_refl _, Nat.le_refl _, fun _ _ => rfl⟩ | (cases h; done)
  rw [if_neg e56] at h
  by_cases e57 : op = 57
  · rw [if_pos e57] at h
    repeat' split at h
    all_goals first | exact oN_mn2 h ⟨Nat.le_refl _, Nat.le_refl _, fun _ _ => rfl⟩ | (cases h; done)
  rw [if_neg e57] at h
  by_cases e58 : op = 58
  · rw [if_pos e58] at h
    repeat' split at h
    all_goals first | exact oN_mn2 h ⟨Nat.le_refl _, Nat.le_refl _, fun _ _ => rfl⟩ | (cases h; done)
  rw [if_neg e58] at h
  by_cases e59 : op = 59
  · rw [if_pos e59] at h
    repeat' split at h
    all_goals first | exact oN_mn2 h ⟨Nat.le_refl _, Nat.le_refl _, fun _ _ => rfl⟩ | (cases h; done)
  rw [if_neg e59] at h
  by_cases e60 : op = 60
  · rw [if_pos e60] at h
    repeat' split at h
    all_goals first | exact oN_mn2 h ⟨Nat.le_refl _, Nat.le_refl _, fun _ _ => rfl⟩ | (cases h; done)
  rw [if_neg e60] at h
  by_cases e61 : op = 61
  · rw [if_pos e61] at h
    repeat' split at h
    all_goals first | exact oN_mn2 h ⟨Nat.le_refl _, Nat.le_refl _, fun _ _ => rfl⟩ | (cases h; done)
  rw [if_neg e61] at h
  by_cases e62 : op = 62
  · rw [if_pos e62] at h
    repeat' split at h
    all_goals first | exact oN_mn2 h ⟨Nat.le_refl _, Nat.le_refl _, fun _ _ => rfl⟩ | (cases h; done)
  rw [if_neg e62] at h
  cases h
set_option maxRecDepth 100000 in
theorem mn_new {σ σ' : St} {cs cs' : List LI} {ls ls' : Ls} {st st' : List Vl} {op a c : Nat} (h : s_new σ cs ls st op a c = some (.inl (σ', cs', ls', st'))) : Mn σ σ' := by
  unfold s_new at h
  repeat' split at h
  all_goals first | exact oN_mn2 h Mn.mk' | (cases h; done)
set_option maxRecDepth 100000 in
theorem mn_cpy {σ σ' : St} {cs cs' : List LI} {ls ls' : Ls} {st st' : List Vl} {op : Nat} (h : s_cpy σ cs ls st op = some (.inl (σ', cs', ls', st'))) : Mn σ σ' := by
  unfold s_cpy at h
  repeat' split at h
  all_goals first | exact oN_mn2 h ⟨Nat.le_refl _, Nat.le_refl _, fun _ _ => rfl⟩ | (cases h; done)
set_option maxRecDepth 100000 in
theorem mn_mm {σ σ' : St} {cs cs' : List LI} {ls ls' : Ls} {st st' : List Vl} {op : Nat} (h : s_mm σ cs ls st op = some (.inl (σ', cs', ls', st'))) : Mn σ σ' := by
  unfold s_mm at h
  repeat' split at h
  all_goals first | exact oN_mn2 h Mn.rfl' | (cases h; done)
set_option maxRecDepth 100000 in
theorem mn_inv {σ' : St} {cs' : List LI} {ls' : Ls} {st st' : List Vl} {cs0 : List LI} {a b c : Nat} {z : Int} (h : s_inv cs0 st a b c z = some (.inl (σ', cs', ls', st'))) : False := by
  unfold s_inv at h
  repeat' split at h
  all_goals exact nomatch h
set_option maxRecDepth 100000 in
theorem mn_ret {σ' : St} {cs' : List LI} {ls' : Ls} {st st' : List Vl} {op a : Nat} (h : s_ret st op a = some (.inl (σ', cs', ls', st'))) : False := by
  unfold s_ret at h
  repeat' split at h
  all_goals exact nomatch h
set_option maxRecDepth 100000 in
theorem step_mn {M : Nat → List LI} {σ σ' : St} {cs cs' : List LI} {ls ls' : Ls} {st st' : List Vl} (h : step M σ cs ls st = some (.inl (σ', cs', ls', st'))) : Mn σ σ' := by
  rcases cs with _ | ⟨⟨op, a, b, c, z⟩, cs⟩
  · cases h
  · replace h : (if op = 0 then oN σ (M a) ls st else _) = _ := h
    by_cases e0 : op = 0
    · rw [if_pos e0] at h
      exact oN_mn Mn.rfl' h
    rw [if_neg e0] at h
    by_cases e1 : op ≤ 3
    · rw [if_pos e1] at h
      exact mn_load h
    rw [if_neg e1] at h
    by_cases e2 : op ≤ 6
    · rw [if_pos e2] at h
      exact mn_store h
    rw [if_neg e2] at h
    by_cases e3 : op = 7
    · rw [if_pos e3] at h
      split at h
      · exact oN_mn Mn.rfl' h
      · cases h
    rw [if_neg e3] at h
    by_cases e4 : op = 8
    · rw [if_pos e4] at h
      exact oN_mn Mn.rfl' h
    rw [if_neg e4] at h
    by_cases e5 : op = 9
    · rw [if_pos e5] at h
      exact oN_mn Mn.rfl' h
    rw [if_neg e5] at h
    by_cases e6 : op = 24
    · rw [if_pos e6] at h
      exact mn_un h
    rw [if_neg e6] at h
    by_cases e7 : op ≤ 21
    · rw [if_pos e7] at h
      exact mn_ar h
    rw [if_neg e7] at h
    by_cases e8 : op ≤ 27 ∨ op = 31
    · rw [if_pos e8] at h
      exact mn_lar h
    rw [if_neg e8] at h
    by_cases e9 : op ≤ 30
    · rw [if_pos e9] at h
      exact mn_lsh h
    rw [if_neg e9] at h
    by_cases e10 : op ≤ 34
    · rw [if_pos e10] at h
      exact mn_un h
    rw [if_neg e10] at h
    by_cases e11 : op = 35
    · rw [if_pos e11] at h
      exact mn_inc h
    rw [if_neg e11] at h
    by_cases e12 : op ≤ 39
    · rw [if_pos e12] at h
      exact mn_br h
    rw [if_neg e12] at h
    by_cases e13 : op = 40
    · rw [if_pos e13] at h
      exact oN_mn Mn.rfl' h
    rw [if_neg e13] at h
    by_cases e14 : op = 41
    · rw [if_pos e14] at h
      exact mn_br h
    rw [if_neg e14] at h
    by_cases e15 : op ≤ 44
    · rw [if_pos e15] at h
      exact mn_un h
    rw [if_neg e15] at h
    by_cases e16 : op ≤ 50
    · rw [if_pos e16] at h
      exact mn_fld h
    rw [if_neg e16] at h
    by_cases e17 : op = 51
    · rw [if_pos e17] at h
      split at h
      · exact oN_mn Mn.rfl' h
      · cases h
    rw [if_neg e17] at h
    by_cases e18 : op ≤ 62
    · rw [if_pos e18] at h
      exact mn_arr h
    rw [if_neg e18] at h
    by_cases e19 : op = 65
    · rw [if_pos e19] at h
      repeat' split at h
      all_goals first | exact oN_mn Mn.mkM' h | (cases h; done)
    rw [if_neg e19] at h
    by_cases e20 : op ≤ 66
    · rw [if_pos e20] at h
      exact mn_new h
    rw [if_neg e20] at h
    by_cases e21 : op = 67
    · rw [if_pos e21] at h
      exact (mn_inv h).elim
    rw [if_neg e21] at h
    by_cases e22 : op = 68
    · rw [if_pos e22] at h
      repeat' split at h
      all_goals first | exact oN_mn Mn.rfl' h | (cases h; done)
    rw [if_neg e22] at h
    by_cases e23 : op ≤ 70
    · rw [if_pos e23] at h
      exact mn_cpy h
    rw [if_neg e23] at h
    by_cases e24 : op ≤ 74
    · rw [if_pos e24] at h
      exact (mn_ret h).elim
    rw [if_neg e24] at h
    exact mn_mm h
theorem exec_mn : ∀ {n d : Nat} {M : Nat → List LI} {σ : St} {cs : List LI} {ls : Ls} {st : List Vl} {σ' : St} {r : List Vl}, exec mt n d M σ cs ls st = some (σ', r) → Mn σ σ'
  | 0, _, _, _, _, _, _, _, _, h => by simp [exec] at h
  | n + 1, d, M, σ, cs, ls, st, σ', r, h => by
    rw [exec] at h
    cases e : step M σ cs ls st with
    | none => rw [e] at h; cases h
    | some o =>
      rw [e] at h
      rcases o with ⟨σ1, cs1, ls1, st1⟩ | ⟨i, as, cs1, st1⟩ | q
      · exact (step_mn e).trans (exec_mn h)
      · dsimp only at h
        cases d with
        | zero => cases h
        | succ d1 =>
          dsimp only at h
          cases e2 : exec mt n d1 (mt i).2 σ ((mt i).2 0) (entL as (mt i).1) [] with
          | none => rw [e2] at h; cases h
          | some q =>
            rw [e2] at h
            exact (exec_mn e2).trans (exec_mn h)
      · cases h
        exact Mn.rfl'
theorem vr_outer (c : ClassId) (N h0 : Nat) : ∀ i : Nat, Jvm.Free.Multi.outerC c N h0 i = arrV c N (fun j => va_rf (if j < i then some (h0 + 1 + j) else none))
  | 0 => by
    show ({ cls := c, slots := Array.replicate N .null, vm := .none } : Cell) = _
    rw [arrV_new]
    refine congrArg (arrV c N) (funext fun j => ?_)
    simp [va_rf]
  | i + 1 => by
    show (Jvm.Free.Multi.outerC c N h0 i).setSlot i (.ref (h0 + 1 + i)) = _
    rw [vr_outer c N h0 i, arrV_store]
    refine congrArg (arrV c N) (funext fun j => ?_)
    by_cases e : j = i
    · subst e
      simp [updV, va_rf]
    · by_cases h : j < i
      · simp [updV, e, h, Nat.lt_succ_of_lt h]
      · simp [updV, e, h, show ¬ j < i + 1 by omega]
/-! new long[20][0] -/
def phN (x : Cell) (H : Heap) : Nat → Heap
  | 0 => H
  | n + 1 => (phN x H n).push x
theorem phN_size (x : Cell) (H : Heap) : ∀ n, (phN x H n).size = H.size + n
  | 0 => rfl
  | n + 1 => by rw [phN, Array.size_push, phN_size x H n]; omega
theorem phN_get (x : Cell) (H : Heap) : ∀ n q, (phN x H n)[q]? = if q < H.size then H[q]? else if q < H.size + n then some x else none
  | 0, q => by
    rw [phN]
    by_cases h : q < H.size
    · rw [if_pos h]
    · rw [if_neg h, if_neg (by omega), Array.getElem?_eq_none (by omega)]
  | n + 1, q => by
    rw [phN, Array.getElem?_push, phN_size, phN_get x H n q]
    by_cases h : q < H.size
    · rw [if_neg (by omega), if_pos h, if_pos h]
    · by_cases e : q = H.size + n
      · rw [if_pos e, if_neg h, if_pos (by omega)]
      · rw [if_neg e, if_neg h, if_neg h]
        by_cases h2 : q < H.size + n
        · rw [if_pos h2, if_pos (by omega)]
        · rw [if_neg h2, if_neg (by omega)]
theorem mkN_nx (σ : St) : ∀ n, nx (mkN σ n) = nx σ + n
  | 0 => rfl
  | n + 1 => by
    show nx (mkN σ n) + 1 = _
    rw [mkN_nx σ n]; omega
theorem mkN_sl (σ : St) : ∀ n, sl (mkN σ n) = sl σ
  | 0 => rfl
  | n + 1 => by
    show sl (mkN σ n) + 0 = _
    rw [mkN_sl σ n]; rfl
theorem mkN_tg (σ : St) : ∀ n b, tg (mkN σ n) b = if nx σ ≤ b ∧ b < nx σ + n then 15 else tg σ b
  | 0, b => by rw [if_neg (by omega)]; rfl
  | n + 1, b => by
    show up1 (tg (mkN σ n)) (nx (mkN σ n)) 15 b = _
    rw [mkN_nx]
    by_cases e : b = nx σ + n
    · rw [e, up1_at, if_pos (by omega)]
    · rw [up1_ne e, mkN_tg σ n b]
      by_cases h : nx σ ≤ b ∧ b < nx σ + n
      · rw [if_pos h, if_pos (by omega)]
      · rw [if_neg h, if_neg (by omega)]
theorem mkN_old (σ : St) : ∀ n b, b < nx σ → gR (mkN σ n) b = gR σ b ∧ ln (mkN σ n) b = ln σ b
  | 0, b, _ => ⟨rfl, rfl⟩
  | n + 1, b, h => by
    have e : b ≠ nx (mkN σ n) := by rw [mkN_nx]; omega
    refine ⟨?_, ?_⟩
    · show up1 (gR (mkN σ n)) _ _ b = _
      rw [up1_ne e]
      exact (mkN_old σ n b h).1
    · show up1 (ln (mkN σ n)) _ _ b = _
      rw [up1_ne e]
      exact (mkN_old σ n b h).2
theorem Rel.mkN' {G : Gc} {σ : St} {H : Heap} (h : Rel G σ H) : ∀ n, Rel G (mkN σ n) (phN (arrV (gA G 15) 0 (fun _ => .long 0)) H n)
  | 0 => h
  | n + 1 => by
    have ih := Rel.mkN' h n
    refine ih.mk' (by decide) (by rw [phN, Array.size_push]) (fun q hq => by rw [phN, Array.getElem?_push, if_neg (by omega)]) (fun h => absurd h (by decide)) (fun _ => ⟨by decide, ?_⟩)
    rw [phN, Array.getElem?_push, if_pos ih.1.1.symm]
    rfl
theorem Rel.mkX' {G : Gc} {σ : St} {H F : Heap} (n : Nat) (hn : n < 2147483648) (hR : Rel G σ H) (f1 : F.size = H.size + 1 + n) (f2 : F[H.size]? = some (arrV (gA G 19) n (fun j => va_rf (if j < n then some (H.size + 1 + j) else none)))) (hold : ∀ x : Nat, x < H.size → F[x]? = H[x]?) (hrow : ∀ j : Nat, j < n → F[H.size + 1 + j]? = some (arrV (gA G 15) 0 (fun _ => .long 0))) : Rel G (mkX σ n) F ∧ tg (mkX σ n) (nx σ) = 19 ∧ nx (mkX σ n) = nx σ + 1 + n ∧ sl (mkX σ n) = sl σ + n := by
  have hz := hR.1.1
  have R1 : Rel G (mk σ 19 n n) (H.push (arrV (gA G 19) n (fun _ => .null))) := hR.mk' (by decide) (by simp) (fun q hq => by rw [Array.getElem?_push, if_neg (by omega)]) (fun h => absurd h (by decide)) (fun _ => ⟨hn, by
    rw [← hz, Array.getElem?_push, if_pos rfl]
    congr 2
    funext j
    have e2 : gR (mk σ 19 n n) (nx σ) = fun _ => none := up1_at
    show _ = va_rf (gR (mk σ 19 n n) H.size j)
    rw [hz, e2]
    rfl⟩)
  have R2 := R1.mkN' n
  have htg : tg (mkN (mk σ 19 n n) n) (nx σ) = 19 := by
    rw [mkN_tg, if_neg (by show ¬ (nx σ + 1 ≤ nx σ ∧ _); omega)]
    exact up1_at
  have htg2 : ∀ j, j < n → tg (mkN (mk σ 19 n n) n) (nx σ + 1 + j) = 15 := fun j hj => by
    rw [mkN_tg, if_pos]
    show nx σ + 1 ≤ nx σ + 1 + j ∧ nx σ + 1 + j < nx σ + 1 + n
    omega
  have hln : ln (mkN (mk σ 19 n n) n) (nx σ) = n := by
    rw [(mkN_old _ n (nx σ) (Nat.lt_succ_self _)).2]
    exact up1_at
  refine ⟨?_, htg, mkN_nx (mk σ 19 n n) n, mkN_sl (mk σ 19 n n) n⟩
  refine R2.at (a := nx σ) rfl rfl rfl (fun b e => rfl) (fun b e => rfl) (fun b e => up1_ne e) hR.1.2.1 ?_ (fun q hq => ?_) (fun h => by rw [htg] at h; omega) (fun _ _ => ?_) (fun j => R2.2.2.2.2.2.1 _ j) (fun j u hj b hb => ?_)
  · rw [f1, phN_size]
    simp
  · rw [phN_get]
    simp only [Array.size_push]
    by_cases h1 : q < H.size + 1
    · rw [if_pos h1, Array.getElem?_push, if_neg (by omega), hold q (by omega)]
    · rw [if_neg h1]
      by_cases h2 : q < H.size + 1 + n
      · rw [if_pos h2]
        have := hrow (q - (H.size + 1)) (by omega)
        rw [show H.size + 1 + (q - (H.size + 1)) = q by omega] at this
        exact this
      · rw [if_neg h2, Array.getElem?_eq_none (by omega)]
  · rw [htg, hln, ← hz, f2]
    congr 2
    funext j
    show _ = va_rf (up1 (gR (mkN (mk σ 19 n n) n)) (nx σ) (fun k => if k < n then some (nx σ + 1 + k) else none) H.size j)
    rw [hz, up1_at]
  · rw [htg] at hj
    cases hj
    have hb : up1 (gR (mkN (mk σ 19 n n) n)) (nx σ) (fun k => if k < n then some (nx σ + 1 + k) else none) (nx σ) j = some b := hb
    rw [up1_at] at hb
    split at hb
    · rename_i hjn
      cases hb
      exact htg2 j hjn
    · cases hb
section KM
variable {p : Program} {l : Launch} {e : Env} {R : Room} {s : State} {m : MethodId} {args : Array Value} {below : List Frame} {meth : Method} {c : Code} {Q : State → Prop} {G : Gc} {n0 s0 own : Nat} {σ : St} {ls : Ls} {st : List Vl} {pc : Nat}

theorem k_multi (C : Cx G own p s m args) (hd : decode c.code pc = .ok (.multianewarray 11 2, 4)) (ho : own = 2) (hn0 : n0 ≤ nx σ) (hs0 : s0 ≤ sl σ) (hc : nx σ - n0 + 21 ≤ R.cells) (hs : sl σ - s0 + 20 ≤ R.slots)
    (k : KW p l e R s m args below meth c Q G n0 s0 (mkM σ) ls (vR 19 (some (nx σ)) :: st) (pc + 4)) : KW p l e R s m args below meth c Q G n0 s0 σ ls (vI 0 :: vI 20 :: st) pc := by
  intro H locs lsJ hR hlo hL hO
  subst ho
  have hcy : s.vm.findClass (FieldType.array FieldType.long).toString = some (gA G 15) := (C.2.2.2.2.1 15 (by omega) (by omega)).2
  have hcA : s.vm.findClass ("[" ++ (FieldType.array FieldType.long).toString) = some (gA G 19) := (C.2.2.2.2.1 19 (by omega) (by omega)).2
  have hlink : (Cond.classLink (cnm 2) 11 "[[J").before args s = true := C.2.2.1 _ (gt_of (tOd_in _ (by simp [tOd])))
  have harr : (Cond.arrayClass FieldType.long).before args s = true := C.2.2.1 _ (gt_of (tOd_in _ (by simp [tOd])))
  intro T hT Xs
  obtain ⟨vm₁, cA, comp, -, fA, fC, -, -, X', step⟩ := Xs.multianewarray2F (ty := .long) C.1 C.2.1 hlink C.2.2.2.2.2.2.1.2.2 harr (g := F0 m pc lsJ (List.map cv (vI 0 :: vI 20 :: st))) rfl hd (n := 20) (k := 0) rfl (by decide) (by decide) (by decide) (by decide) (by decide) rfl rfl hc hs
  have ec : gA G 15 = comp := Option.some.inj (hcy.symm.trans fC)
  have eA : gA G 19 = cA := Option.some.inj (hcA.symm.trans fA)
  subst ec
  subst eA
  have e20 : (20 : Int32).toNatClampNeg = 20 := by decide
  have e00 : (0 : Int32).toNatClampNeg = 0 := by decide
  rw [e20, e00] at X' step
  generalize hF : Jvm.Free.Multi.fill (T.setVm vm₁) (gA G 19) (gA G 15) 20 0 (defaultValue .long) 20 = F at X' step
  have hTh : (T.setVm vm₁).heap = H := hT
  obtain ⟨f1, f2, -, -⟩ := Jvm.Free.Multi.fill_facts (T.setVm vm₁) (gA G 19) (gA G 15) 20 0 (defaultValue .long) 20
  rw [hF, hTh] at f1 f2
  have hold : ∀ x : Nat, x < H.size → F.heap[x]? = H[x]? := fun x hx => by
    have := Jvm.Free.Multi.fill_old (T.setVm vm₁) (gA G 19) (gA G 15) 20 0 (defaultValue .long) (a := x) (by rw [hTh]; exact hx) 20
    rw [hF, hTh] at this
    exact this
  have hrow : ∀ j : Nat, j < 20 → F.heap[H.size + 1 + j]? = some (arrV (gA G 15) 0 (fun _ => .long 0)) := fun j hj => by
    have := Jvm.Free.Multi.fill_inner (T.setVm vm₁) (gA G 19) (gA G 15) 20 0 (defaultValue .long) 20 j hj
    rw [hF, hTh] at this
    rw [this]
    exact congrArg some (arrV_new (gA G 15) 0 (defaultValue .long))
  have hout : Jvm.Free.Multi.outerC (gA G 19) 20 H.size 20 = arrV (gA G 19) 20 (fun j => va_rf (if j < 20 then some (H.size + 1 + j) else none)) := vr_outer (gA G 19) 20 H.size 20
  rw [hout] at f2
  have hz := hR.1.1
  obtain ⟨R3, ht1, hn1, hs1⟩ := hR.mkX' 20 (by decide) f1 f2 hold hrow
  have hm := Mn.mkX' (σ := σ) 20
  rw [show nx σ - n0 + 1 + 20 = nx (mkX σ 20) - n0 by rw [hn1]; omega, show sl σ - s0 + 20 + 20 * 0 = sl (mkX σ 20) - s0 by rw [hs1]; omega] at X'
  obtain ⟨t, a1, b1⟩ := k F.heap locs lsJ R3 hlo hL ((hO.pop.pop.mono fun b hb => hm.2.2 b (hR.lt hb)).push ⟨by omega, ht1⟩) F rfl X'
  refine ⟨t, step t ?_, b1⟩
  rw [show T.heap.size = nx σ by rw [hT]; exact hz]
  exact a1
theorem k_max (C : Cx G own p s m args) {i : Nat} {x y : Int} (hd : decode c.code pc = .ok (.invokestatic i, 3)) (hl : (own, i) ∈ tMx) (hw : stW st ≤ 8) (hf : 1 ≤ R.frames) (hlo : 40 ≤ R.locals) (hc : nx σ - n0 ≤ R.cells) (hs : sl σ - s0 ≤ R.slots) (k : KW p l e R s m args below meth c Q G n0 s0 σ ls (vI (iMax x y) :: st) (pc + 3)) : KW p l e R s m args below meth c Q G n0 s0 σ ls (vI y :: vI x :: st) pc := by
  intro H locs lsJ hR hl2 hL hO
  refine va_mmax C.1 rfl hL.1.symm C.2.1 (C.2.2.1 _ (gt_of (tMx_in _ (List.mem_map_of_mem hl)))) (C.2.2.1 _ (gt_of (tOd_in _ (by simp [tOd])))) (C.2.2.1 _ (gt_of (tOd_in _ (by simp [tOd])))) (C.2.2.1 _ (gt_of (tOd_in _ (by simp [tOd])))) hf (by rw [cv_sum]; omega) hc hs hd ?_
  have hx := hO.pop.top
  have hy := hO.top
  have e : (if Int32.ofInt x < Int32.ofInt y then Int32.ofInt y else Int32.ofInt x) = Int32.ofInt (iMax x y) := by
    unfold iMax
    by_cases h : x < y
    · rw [if_pos h, if_pos ((rg_lt hx hy).mpr h)]
    · rw [if_neg h, if_neg (fun q => h ((rg_lt hx hy).mp q))]
  rw [e]
  refine k H locs lsJ hR hl2 hL (hO.pop.pop.push (v := vI _) ?_)
  unfold iMax
  split
  · exact hy
  · exact hx
theorem k_min (C : Cx G own p s m args) {i : Nat} {x y : Int} (hd : decode c.code pc = .ok (.invokestatic i, 3)) (hl : (own, i) ∈ tMi) (hw : stW st ≤ 8) (hf : 1 ≤ R.frames) (hlo : 40 ≤ R.locals) (hc : nx σ - n0 ≤ R.cells) (hs : sl σ - s0 ≤ R.slots) (k : KW p l e R s m args below meth c Q G n0 s0 σ ls (vI (iMin x y) :: st) (pc + 3)) : KW p l e R s m args below meth c Q G n0 s0 σ ls (vI y :: vI x :: st) pc := by
  intro H locs lsJ hR hl2 hL hO
  refine va_mmin C.1 rfl hL.1.symm C.2.1 (C.2.2.1 _ (gt_of (tMi_in _ (List.mem_map_of_mem hl)))) (C.2.2.1 _ (gt_of (tOd_in _ (by simp [tOd])))) (C.2.2.1 _ (gt_of (tOd_in _ (by simp [tOd])))) (C.2.2.1 _ (gt_of (tOd_in _ (by simp [tOd])))) hf (by rw [cv_sum]; omega) hc hs hd ?_
  have hx := hO.pop.top
  have hy := hO.top
  have e : (if Int32.ofInt y < Int32.ofInt x then Int32.ofInt y else Int32.ofInt x) = Int32.ofInt (iMin x y) := by
    unfold iMin
    by_cases h : y < x
    · rw [if_pos h, if_pos ((rg_lt hy hx).mpr h)]
    · rw [if_neg h, if_neg (fun q => h ((rg_lt hy hx).mp q))]
  rw [e]
  refine k H locs lsJ hR hl2 hL (hO.pop.pop.push (v := vI _) ?_)
  unfold iMin
  split
  · exact hy
  · exact hx
theorem k_getsN (C : Cx G own p s m args) {i q : Nat} (ho : own = 4) (hi : i = 121) (hd : decode c.code pc = .ok (.getstatic i, 3)) (hq : stA σ 1 = some q) (k : KW p l e R s m args below meth c Q G n0 s0 σ ls (vR 20 (some q) :: st) (pc + 3)) : KW p l e R s m args below meth c Q G n0 s0 σ ls st pc := by
  intro H locs lsJ hR hlo hL hO
  subst ho
  subst hi
  obtain ⟨e1, e2⟩ := hR.2.2.2.2.2.2.2 1 (by omega) q hq
  have hz : va_Z "WishWays" "GREATEST" "[I" (.ref q) (fun x => gB G ≤ x) s (gH G) := by
    rw [e1]; exact C.2.2.2.2.2.2.2.2.2.1.2
  obtain ⟨cf, kf, fi, f, a1, cell, h1, h2, h3, h4, h5, h6, h7, h8⟩ := hz
  exact va_WgetsN C.1 rfl C.2.1 (va_Nw.use rfl C.2.2.2.2.2.2.2.2.1) h1 h2 h3 h4 (by rw [hR.2.1 a1 (by simpa using h8)]; exact h5) (fun hh => by rw [hh] at h6; cases h6) h7 rfl hd (k H locs lsJ hR hlo hL (hO.push ⟨by omega, e2⟩))
end KM
