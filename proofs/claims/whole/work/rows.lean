section
/-! THE LITTLE MACHINE: ints as Int (every sum, product and difference is looked at), longs as BitVec 64, references with a number for their type -/
abbrev Vl : Type := Int ⊕ (BitVec 64 ⊕ (Nat × Option Nat))
abbrev vI (x : Int) : Vl := .inl x
abbrev vL (x : BitVec 64) : Vl := .inr (.inl x)
abbrev vR (t : Nat) (r : Option Nat) : Vl := .inr (.inr (t, r))
abbrev Ls : Type := List (Option Vl)
/-- op, a, b, c, z -/
abbrev LI : Type := Nat × Nat × Nat × Nat × Int
/-- tags, lengths, ints, longs, references, the next address, slots made so far -/
abbrev St : Type := (Nat → Nat) × (Nat → Nat) × (Nat → Nat → Int) × (Nat → Nat → BitVec 64) × (Nat → Nat → Option Nat) × Nat × Nat
def tg (σ : St) : Nat → Nat := σ.1
def ln (σ : St) : Nat → Nat := σ.2.1
def gI (σ : St) : Nat → Nat → Int := σ.2.2.1
def gL (σ : St) : Nat → Nat → BitVec 64 := σ.2.2.2.1
def gR (σ : St) : Nat → Nat → Option Nat := σ.2.2.2.2.1
def nx (σ : St) : Nat := σ.2.2.2.2.2.1
def sl (σ : St) : Nat := σ.2.2.2.2.2.2
def up1 {α : Type} (f : Nat → α) (a : Nat) (v : α) : Nat → α := fun b => if b = a then v else f b
def up2 {α : Type} (f : Nat → Nat → α) (a k : Nat) (v : α) : Nat → Nat → α := fun b j => if b = a ∧ j = k then v else f b j
def wI (σ : St) (a k : Nat) (v : Int) : St := (tg σ, ln σ, up2 (gI σ) a k v, gL σ, gR σ, nx σ, sl σ)
def wL (σ : St) (a k : Nat) (v : BitVec 64) : St := (tg σ, ln σ, gI σ, up2 (gL σ) a k v, gR σ, nx σ, sl σ)
def wR (σ : St) (a k : Nat) (v : Option Nat) : St := (tg σ, ln σ, gI σ, gL σ, up2 (gR σ) a k v, nx σ, sl σ)
/-- the whole row of an address -/
def aI (σ : St) (a : Nat) (f : Nat → Int) : St := (tg σ, ln σ, up1 (gI σ) a f, gL σ, gR σ, nx σ, sl σ)
def aL (σ : St) (a : Nat) (f : Nat → BitVec 64) : St := (tg σ, ln σ, gI σ, up1 (gL σ) a f, gR σ, nx σ, sl σ)
/-- a new cell of type t, of n places, s slots -/
def mk (σ : St) (t n s : Nat) : St := (up1 (tg σ) (nx σ) t, up1 (ln σ) (nx σ) n, up1 (gI σ) (nx σ) (fun _ => 0), up1 (gL σ) (nx σ) (fun _ => 0), up1 (gR σ) (nx σ) (fun _ => none), nx σ + 1, sl σ + s)
abbrev Rg (x : Int) : Prop := -2147483648 ≤ x ∧ x ≤ 2147483647
theorem Rg_iff (x : Int) : Rg x ↔ (-2147483648 ≤ x ∧ x ≤ 2147483647) := Iff.rfl
def rgB (x : Int) : Bool := decide (-2147483648 ≤ x) && decide (x ≤ 2147483647)
theorem rgB_iff (x : Int) : rgB x = true ↔ Rg x := by simp [rgB, Rg]
def iAnd (a b : Int) : Int := (Int32.ofInt a &&& Int32.ofInt b).toInt
def iOr (a b : Int) : Int := (Int32.ofInt a ||| Int32.ofInt b).toInt
def iXor (a b : Int) : Int := (Int32.ofInt a ^^^ Int32.ofInt b).toInt
def iShl (a b : Int) : Int := (Int32.ofInt a <<< (Int32.ofInt b &&& 31)).toInt
def iShr (a b : Int) : Int := (Int32.ofInt a >>> (Int32.ofInt b &&& 31)).toInt
def iUshr (a b : Int) : Int := ((Int32.ofInt a).toUInt32 >>> ((Int32.ofInt b).toUInt32 &&& Int32.toUInt32 31)).toInt32.toInt
def lShl (x : BitVec 64) (k : Int) : BitVec 64 := (Int64.ofBitVec x <<< ((Int32.ofInt k).toInt64 &&& 63)).toBitVec
def lShr (x : BitVec 64) (k : Int) : BitVec 64 := (Int64.ofBitVec x >>> ((Int32.ofInt k).toInt64 &&& 63)).toBitVec
def lUshr (x : BitVec 64) (k : Int) : BitVec 64 := ((Int64.ofBitVec x).toUInt64 >>> ((Int32.ofInt k).toInt64.toUInt64 &&& Int64.toUInt64 63)).toInt64.toBitVec
def lCmp (x y : BitVec 64) : Int := if y.toInt < x.toInt then 1 else if x.toInt = y.toInt then 0 else -1
def i2b (a : Int) : Int := (Int32.ofInt a).toInt8.toInt32.toInt
def l2i (x : BitVec 64) : Int := (Int64.ofBitVec x).toInt32.toInt
def cat (v : Vl) : Nat := match v with | .inr (.inl _) => 2 | _ => 1
/-- a local below i that is a long is lost when i is written -/
def lInv (ls : Ls) (i : Nat) : Ls := match i with
  | 0 => ls
  | j + 1 => match ls[j]? with
    | some (some (.inr (.inl _))) => ls.set j none
    | _ => ls
def lSet1 (ls : Ls) (i : Nat) (v : Vl) : Ls := (lInv ls i).set i (some v)
def lSet2 (ls : Ls) (i : Nat) (v : Vl) : Ls := ((lInv ls i).set i (some v)).set (i + 1) none
def lEnt (as : List Vl) : Ls := as.flatMap fun v => if cat v = 2 then [some v, none] else [some v]
def entL (as : List Vl) (n : Nat) : Ls := lEnt as ++ List.replicate (n - (lEnt as).length) none
def stW (st : List Vl) : Nat := (st.map cat).sum
def cmpB (c : Nat) (a b : Int) : Bool := match c with
  | 0 => decide (a = b)
  | 1 => !decide (a = b)
  | 2 => decide (a < b)
  | 3 => decide (b ≤ a)
  | 4 => decide (b < a)
  | _ => decide (a ≤ b)
/-- an index that lies within -/
def inbB (i : Int) (n : Nat) : Bool := decide (0 ≤ i) && decide (i < n)
abbrev Out : Type := (St × List LI × Ls × List Vl) ⊕ ((Nat × List Vl × List LI × List Vl) ⊕ List Vl)
def oN (σ : St) (cs : List LI) (ls : Ls) (st : List Vl) : Option Out := some (.inl (σ, cs, ls, st))
def cpyF {α : Type} (f g : Nat → α) (sp dp n : Nat) : Nat → α := fun k => if dp ≤ k ∧ k < dp + n then f (sp + (k - dp)) else g k
def s_load (σ : St) (cs : List LI) (ls : Ls) (st : List Vl) (op a : Nat) : Option Out :=
  if op = 1 then (match ls[a]? with | some (some (.inl x)) => oN σ cs ls (.inl x :: st) | _ => none)
  else if op = 2 then (match ls[a]? with | some (some (.inr (.inl x))) => oN σ cs ls (.inr (.inl x) :: st) | _ => none)
  else if op = 3 then (match ls[a]? with | some (some (.inr (.inr x))) => oN σ cs ls (.inr (.inr x) :: st) | _ => none)
  else none
def s_store (σ : St) (cs : List LI) (ls : Ls) (st : List Vl) (op a : Nat) : Option Out :=
  if op = 4 then (match st with | .inl x :: st => if a < ls.length then oN σ cs (lSet1 ls a (.inl x)) st else none | _ => none)
  else if op = 5 then (match st with | .inr (.inl x) :: st => if a + 1 < ls.length then oN σ cs (lSet2 ls a (.inr (.inl x))) st else none | _ => none)
  else if op = 6 then (match st with | .inr (.inr x) :: st => if a < ls.length then oN σ cs (lSet1 ls a (.inr (.inr x))) st else none | _ => none)
  else none
def s_ar (σ : St) (cs : List LI) (ls : Ls) (st : List Vl) (op : Nat) : Option Out := match st with
  | .inl b :: .inl a :: st =>
    if op = 10 then (if rgB (a + b) then oN σ cs ls (.inl (a + b) :: st) else none)
    else if op = 11 then (if rgB (a - b) then oN σ cs ls (.inl (a - b) :: st) else none)
    else if op = 12 then (if rgB (a * b) then oN σ cs ls (.inl (a * b) :: st) else none)
    else if op = 13 then (if 0 ≤ a ∧ 0 < b then oN σ cs ls (.inl (a / b) :: st) else none)
    else if op = 14 then (if 0 ≤ a ∧ 0 < b then oN σ cs ls (.inl (a % b) :: st) else none)
    else if op = 16 then (oN σ cs ls (.inl (iShl a b) :: st))
    else if op = 17 then (oN σ cs ls (.inl (iShr a b) :: st))
    else if op = 18 then (oN σ cs ls (.inl (iUshr a b) :: st))
    else if op = 19 then (oN σ cs ls (.inl (iAnd a b) :: st))
    else if op = 20 then (oN σ cs ls (.inl (iOr a b) :: st))
    else if op = 21 then (oN σ cs ls (.inl (iXor a b) :: st))
    else none
  | _ => none
def s_lar (σ : St) (cs : List LI) (ls : Ls) (st : List Vl) (op : Nat) : Option Out := match st with
  | .inr (.inl b) :: .inr (.inl a) :: st =>
    if op = 22 then (oN σ cs ls (.inr (.inl (a + b)) :: st))
    else if op = 23 then (oN σ cs ls (.inr (.inl (a - b)) :: st))
    else if op = 25 then (oN σ cs ls (.inr (.inl (a &&& b)) :: st))
    else if op = 26 then (oN σ cs ls (.inr (.inl (a ||| b)) :: st))
    else if op = 27 then (oN σ cs ls (.inr (.inl (a ^^^ b)) :: st))
    else if op = 31 then (oN σ cs ls (.inl (lCmp a b) :: st))
    else none
  | _ => none
def s_lsh (σ : St) (cs : List LI) (ls : Ls) (st : List Vl) (op : Nat) : Option Out := match st with
  | .inl b :: .inr (.inl a) :: st =>
    if op = 28 then (oN σ cs ls (.inr (.inl (lShl a b)) :: st))
    else if op = 29 then (oN σ cs ls (.inr (.inl (lShr a b)) :: st))
    else if op = 30 then (oN σ cs ls (.inr (.inl (lUshr a b)) :: st))
    else none
  | _ => none
def s_un (σ : St) (cs : List LI) (ls : Ls) (st : List Vl) (op : Nat) : Option Out :=
  if op = 24 then (match st with | .inr (.inl a) :: st => oN σ cs ls (.inr (.inl (-a)) :: st) | _ => none)
  else if op = 32 then (match st with | .inl a :: st => oN σ cs ls (.inr (.inl (BitVec.ofInt 64 a)) :: st) | _ => none)
  else if op = 33 then (match st with | .inr (.inl a) :: st => oN σ cs ls (.inl (l2i a) :: st) | _ => none)
  else if op = 34 then (match st with | .inl a :: st => oN σ cs ls (.inl (i2b a) :: st) | _ => none)
  else if op = 42 then (match st with | v :: st => if cat v = 1 then oN σ cs ls (v :: v :: st) else none | _ => none)
  else if op = 43 then (match st with | v :: w :: st => if cat v = 1 ∧ cat w = 1 then oN σ cs ls (v :: w :: v :: w :: st) else none | _ => none)
  else if op = 44 then (match st with | v :: st => if cat v = 1 then oN σ cs ls st else none | _ => none)
  else none
def s_inc (σ : St) (cs : List LI) (ls : Ls) (st : List Vl) (a : Nat) (z : Int) : Option Out := match ls[a]? with
  | some (some (.inl x)) => if rgB (x + z) then oN σ cs (lSet1 ls a (.inl (x + z))) st else none
  | _ => none
def s_br (M : Nat → List LI) (σ : St) (cs : List LI) (ls : Ls) (st : List Vl) (op a b : Nat) : Option Out :=
  if op = 36 then (match st with | .inl y :: .inl x :: st => if cmpB a x y then oN σ (M b) ls st else oN σ cs ls st | _ => none)
  else if op = 37 then (match st with | .inl x :: st => if cmpB a x 0 then oN σ (M b) ls st else oN σ cs ls st | _ => none)
  else if op = 38 then (match st with | .inr (.inr (_, none)) :: st => oN σ (M b) ls st | .inr (.inr (_, some _)) :: st => oN σ cs ls st | _ => none)
  else if op = 39 then (match st with | .inr (.inr (_, none)) :: st => oN σ cs ls st | .inr (.inr (_, some _)) :: st => oN σ (M b) ls st | _ => none)
  else if op = 41 then (match st with | .inl x :: st => if 0 ≤ x ∧ x < a then oN σ (M (100000 + x.toNat)) ls st else oN σ (M b) ls st | _ => none)
  else none
def s_fld (σ : St) (cs : List LI) (ls : Ls) (st : List Vl) (op a b c : Nat) : Option Out :=
  if op = 45 then (match st with | .inr (.inr (t, some q)) :: st => if t = a then oN σ cs ls (.inl (gI σ q b) :: st) else none | _ => none)
  else if op = 46 then (match st with | .inr (.inr (t, some q)) :: st => if t = a then oN σ cs ls (.inr (.inl (gL σ q b)) :: st) else none | _ => none)
  else if op = 47 then (match st with | .inr (.inr (t, some q)) :: st => if t = a then oN σ cs ls (.inr (.inr (c, gR σ q b)) :: st) else none | _ => none)
  else if op = 48 then (match st with | .inl v :: .inr (.inr (t, some q)) :: st => if t = a ∧ (c = 0 ∨ (0 ≤ v ∧ v ≤ 1)) then oN (wI σ q b v) cs ls st else none | _ => none)
  else if op = 49 then (match st with | .inr (.inl v) :: .inr (.inr (t, some q)) :: st => if t = a then oN (wL σ q b v) cs ls st else none | _ => none)
  else if op = 50 then (match st with | .inr (.inr (u, v)) :: .inr (.inr (t, some q)) :: st => if t = a ∧ u = c then oN (wR σ q b v) cs ls st else none | _ => none)
  else none
def s_arr (σ : St) (cs : List LI) (ls : Ls) (st : List Vl) (op a c : Nat) : Option Out :=
  if op = 52 then (match st with | .inl i :: .inr (.inr (t, some q)) :: st => if (t = 14 ∨ t = 20) ∧ inbB i (ln σ q) then oN σ cs ls (.inl (gI σ q i.toNat) :: st) else none | _ => none)
  else if op = 53 then (match st with | .inl i :: .inr (.inr (t, some q)) :: st => if t = 15 ∧ inbB i (ln σ q) then oN σ cs ls (.inr (.inl (gL σ q i.toNat)) :: st) else none | _ => none)
  else if op = 54 then (match st with | .inl i :: .inr (.inr (t, some q)) :: st => if t = 13 ∧ inbB i (ln σ q) then oN σ cs ls (.inl (gI σ q i.toNat) :: st) else none | _ => none)
  else if op = 55 then (match st with | .inl i :: .inr (.inr (t, some q)) :: st => if t = 16 ∧ inbB i (ln σ q) then oN σ cs ls (.inl (gI σ q i.toNat) :: st) else none | _ => none)
  else if op = 56 then (match st with | .inl i :: .inr (.inr (t, some q)) :: st => if t = a ∧ inbB i (ln σ q) then oN σ cs ls (.inr (.inr (c, gR σ q i.toNat)) :: st) else none | _ => none)
  else if op = 57 then (match st with | .inl v :: .inl i :: .inr (.inr (t, some q)) :: st => if t = 14 ∧ inbB i (ln σ q) then oN (wI σ q i.toNat v) cs ls st else none | _ => none)
  else if op = 58 then (match st with | .inr (.inl v) :: .inl i :: .inr (.inr (t, some q)) :: st => if t = 15 ∧ inbB i (ln σ q) then oN (wL σ q i.toNat v) cs ls st else none | _ => none)
  else if op = 59 then (match st with | .inl v :: .inl i :: .inr (.inr (t, some q)) :: st => if t = 13 ∧ inbB i (ln σ q) ∧ -128 ≤ v ∧ v ≤ 127 then oN (wI σ q i.toNat v) cs ls st else none | _ => none)
  else if op = 60 then (match st with | .inl v :: .inl i :: .inr (.inr (t, some q)) :: st => if t = 16 ∧ inbB i (ln σ q) ∧ 0 ≤ v ∧ v ≤ 1 then oN (wI σ q i.toNat v) cs ls st else none | _ => none)
  else if op = 61 then (match st with | .inr (.inr (u, some v)) :: .inl i :: .inr (.inr (t, some q)) :: st => if t = a ∧ u = c ∧ inbB i (ln σ q) then oN (wR σ q i.toNat (some v)) cs ls st else none | _ => none)
  else if op = 62 then (match st with | .inr (.inr (t, some q)) :: st => if (13 ≤ t ∧ t ≤ 20) ∧ (ln σ q : Int) < 2147483648 then oN σ cs ls (.inl (ln σ q) :: st) else none | _ => none)
  else none
/-- n empty rows of longs, one behind the other -/
def mkN (σ : St) : Nat → St
  | 0 => σ
  | n + 1 => mk (mkN σ n) 15 0 0
/-- new long[n][0] -/
def mkX (σ : St) (n : Nat) : St := (tg (mkN (mk σ 19 n n) n), ln (mkN (mk σ 19 n n) n), gI (mkN (mk σ 19 n n) n), gL (mkN (mk σ 19 n n) n), up1 (gR (mkN (mk σ 19 n n) n)) (nx σ) (fun k => if k < n then some (nx σ + 1 + k) else none), nx (mkN (mk σ 19 n n) n), sl (mkN (mk σ 19 n n) n))
def mkM (σ : St) : St := mkX σ 20
def s_new (σ : St) (cs : List LI) (ls : Ls) (st : List Vl) (op a c : Nat) : Option Out :=
  if op = 63 then (match st with | .inl n :: st => if 0 ≤ n ∧ n ≤ 1000000 then oN (mk σ a n.toNat n.toNat) cs ls (.inr (.inr (a, some (nx σ))) :: st) else none | _ => none)
  else if op = 64 then (match st with | .inl n :: st => if 0 ≤ n ∧ n ≤ 1000000 then oN (mk σ a n.toNat n.toNat) cs ls (.inr (.inr (a, some (nx σ))) :: st) else none | _ => none)
  else if op = 66 then oN (mk σ a 0 c) cs ls (.inr (.inr (a, some (nx σ))) :: st)
  else none
def s_cpy (σ : St) (cs : List LI) (ls : Ls) (st : List Vl) (op : Nat) : Option Out := match st with
  | .inl n :: .inl dp :: .inr (.inr (t, some d)) :: .inl sp :: .inr (.inr (u, some q)) :: st =>
    if 0 ≤ n ∧ 0 ≤ dp ∧ 0 ≤ sp ∧ sp + n ≤ ln σ q ∧ dp + n ≤ ln σ d ∧ stW st ≤ 8 then
      if op = 69 then if t = 14 ∧ u = 14 then oN (aI σ d (cpyF (gI σ q) (gI σ d) sp.toNat dp.toNat n.toNat)) cs ls st else none
      else if t = 15 ∧ u = 15 then oN (aL σ d (cpyF (gL σ q) (gL σ d) sp.toNat dp.toNat n.toNat)) cs ls st else none
    else none
  | _ => none
/-- the first n of the stack, the deepest first, and the rest -/
def takeA (n : Nat) (st : List Vl) : Option (List Vl × List Vl) := if n ≤ st.length then some ((st.take n).reverse, st.drop n) else none
def s_inv (cs : List LI) (st : List Vl) (a b c : Nat) (z : Int) : Option Out := match takeA b st with
  | some (as, st') => if stW st' ≤ 8 ∧ (2 * stW as : Int) ≤ z then
      if z % 2 = 0 then some (.inr (.inl (a, as, cs, st')))
      else match as with
        | .inr (.inr (t, some _)) :: _ => if t = c then some (.inr (.inl (a, as, cs, st'))) else none
        | _ => none
    else none
  | none => none
def s_ret (st : List Vl) (op a : Nat) : Option Out :=
  if op = 71 then (match st with | [.inl v] => if a = 0 ∨ (0 ≤ v ∧ v ≤ 1) then some (.inr (.inr [.inl v])) else none | _ => none)
  else if op = 72 then (match st with | [.inr (.inl v)] => some (.inr (.inr [.inr (.inl v)])) | _ => none)
  else if op = 73 then (match st with | [.inr (.inr v)] => some (.inr (.inr [.inr (.inr v)])) | _ => none)
  else if op = 74 then (match st with | [] => some (.inr (.inr [])) | _ => none)
  else none
/-- the number of the two static rows, at the addresses that the start gives -/
def stA (σ : St) (a : Nat) : Option Nat := gR σ 0 (1000 + a)
def iMax (x y : Int) : Int := if x < y then y else x
def iMin (x y : Int) : Int := if y < x then y else x
def s_mm (σ : St) (cs : List LI) (ls : Ls) (st : List Vl) (op : Nat) : Option Out :=
  if op = 75 then (match st with | .inl y :: .inl x :: st => if stW st ≤ 8 then oN σ cs ls (.inl (iMax x y) :: st) else none | _ => none)
  else if op = 76 then (match st with | .inl y :: .inl x :: st => if stW st ≤ 8 then oN σ cs ls (.inl (iMin x y) :: st) else none | _ => none)
  else none
def step (M : Nat → List LI) (σ : St) (cs : List LI) (ls : Ls) (st : List Vl) : Option Out := match cs with
  | [] => none
  | (op, a, b, c, z) :: cs =>
    if op = 0 then oN σ (M a) ls st
    else if op ≤ 3 then s_load σ cs ls st op a
    else if op ≤ 6 then s_store σ cs ls st op a
    else if op = 7 then if rgB z then oN σ cs ls (.inl z :: st) else none
    else if op = 8 then oN σ cs ls (.inr (.inl (BitVec.ofInt 64 z)) :: st)
    else if op = 9 then oN σ cs ls (.inr (.inr (a, none)) :: st)
    else if op = 24 then s_un σ cs ls st op
    else if op ≤ 21 then s_ar σ cs ls st op
    else if op ≤ 27 ∨ op = 31 then s_lar σ cs ls st op
    else if op ≤ 30 then s_lsh σ cs ls st op
    else if op ≤ 34 then s_un σ cs ls st op
    else if op = 35 then s_inc σ cs ls st a z
    else if op ≤ 39 then s_br M σ cs ls st op a b
    else if op = 40 then oN σ (M a) ls st
    else if op = 41 then s_br M σ cs ls st op a b
    else if op ≤ 44 then s_un σ cs ls st op
    else if op ≤ 50 then s_fld σ cs ls st op a b c
    else if op = 51 then match stA σ a with | some q => oN σ cs ls (.inr (.inr (20, some q)) :: st) | none => none
    else if op ≤ 62 then s_arr σ cs ls st op a c
    else if op = 65 then match st with
      | .inl n :: .inl m :: st => if n = 0 ∧ m = 20 then oN (mkM σ) cs ls (.inr (.inr (19, some (nx σ))) :: st) else none
      | _ => none
    else if op ≤ 66 then s_new σ cs ls st op a c
    else if op = 67 then s_inv cs st a b c z
    else if op = 68 then match st with
      | .inr (.inr (_, some _)) :: st => if stW st ≤ 8 then oN σ cs ls st else none
      | _ => none
    else if op ≤ 70 then s_cpy σ cs ls st op
    else if op ≤ 74 then s_ret st op a
    else s_mm σ cs ls st op


/-! running: n steps at most, d calls deep at most -/
def exec (mt : Nat → Nat × (Nat → List LI)) : Nat → Nat → (Nat → List LI) → St → List LI → Ls → List Vl → Option (St × List Vl)
  | 0, _, _, _, _, _, _ => none
  | n + 1, d, M, σ, cs, ls, st => match step M σ cs ls st with
    | none => none
    | some (.inl (σ', cs', ls', st')) => exec mt n d M σ' cs' ls' st'
    | some (.inr (.inl (i, as, cs', st'))) => match d with
      | 0 => none
      | d' + 1 => match exec mt n d' (mt i).2 σ ((mt i).2 0) (entL as (mt i).1) [] with
        | none => none
        | some (σ', r) => exec mt n d M σ' cs' ls (r ++ st')
    | some (.inr (.inr r)) => some (σ, r)
theorem exec_le {mt : Nat → Nat × (Nat → List LI)} : ∀ {n n' d d' : Nat} {M : Nat → List LI} {σ : St} {cs : List LI} {ls : Ls} {st : List Vl} {r : St × List Vl}, n ≤ n' → d ≤ d' → exec mt n d M σ cs ls st = some r → exec mt n' d' M σ cs ls st = some r
  | 0, _, _, _, _, _, _, _, _, _, _, _, h => by simp [exec] at h
  | n + 1, 0, d, d', M, σ, cs, ls, st, r, hn, hd, h => by omega
  | n + 1, n' + 1, d, d', M, σ, cs, ls, st, r, hn, hd, h => by
    have hn : n ≤ n' := by omega
    rw [exec] at h ⊢
    cases e : step M σ cs ls st with
    | none => rw [e] at h; cases h
    | some o =>
      rw [e] at h
      rcases o with ⟨σ', cs', ls', st'⟩ | ⟨i, as, cs', st'⟩ | q
      · exact exec_le hn hd h
      · dsimp only at h ⊢
        cases d with
        | zero => cases h
        | succ d1 =>
          cases d' with
          | zero => omega
          | succ d2 =>
            dsimp only at h ⊢
            cases e2 : exec mt n d1 (mt i).2 σ ((mt i).2 0) (entL as (mt i).1) [] with
            | none => rw [e2] at h; cases h
            | some q =>
              rw [e2] at h
              rw [exec_le hn (by omega) e2]
              exact exec_le hn hd h
      · exact h
/-- from here the method comes to its end with r -/
def Gx (mt : Nat → Nat × (Nat → List LI)) (d : Nat) (M : Nat → List LI) (σ : St) (cs : List LI) (ls : Ls) (st : List Vl) (r : St × List Vl) : Prop := ∃ n, exec mt n d M σ cs ls st = some r
/-- the method i, called so, comes to its end -/
def Ex (mt : Nat → Nat × (Nat → List LI)) (d i : Nat) (σ : St) (as : List Vl) (r : St × List Vl) : Prop := Gx mt d (mt i).2 σ ((mt i).2 0) (entL as (mt i).1) [] r
theorem Ex.up {mt : Nat → Nat × (Nat → List LI)} {d d' i : Nat} {σ : St} {as : List Vl} {r : St × List Vl} (h : Ex mt d i σ as r) (hd : d ≤ d') : Ex mt d' i σ as r := by
  obtain ⟨n, h⟩ := h
  exact ⟨n, exec_le (Nat.le_refl _) hd h⟩
theorem Gx.one {mt : Nat → Nat × (Nat → List LI)} {d : Nat} {M : Nat → List LI} {σ σ' : St} {cs cs' : List LI} {ls ls' : Ls} {st st' : List Vl} {r : St × List Vl} (h : step M σ cs ls st = some (.inl (σ', cs', ls', st'))) (k : Gx mt d M σ' cs' ls' st' r) : Gx mt d M σ cs ls st r := by
  obtain ⟨n, k⟩ := k
  exact ⟨n + 1, by rw [exec, h]; exact k⟩
theorem Gx.ret {mt : Nat → Nat × (Nat → List LI)} {d : Nat} {M : Nat → List LI} {σ : St} {cs : List LI} {ls : Ls} {st r : List Vl} (h : step M σ cs ls st = some (.inr (.inr r))) : Gx mt d M σ cs ls st (σ, r) := ⟨1, by rw [exec, h]⟩
theorem Gx.call {mt : Nat → Nat × (Nat → List LI)} {d d' i : Nat} {M : Nat → List LI} {σ σ' : St} {cs cs' : List LI} {ls : Ls} {st st' as q : List Vl} {r : St × List Vl} (h : step M σ cs ls st = some (.inr (.inl (i, as, cs', st')))) (hd : d' < d) (hc : Ex mt d' i σ as (σ', q)) (k : Gx mt d M σ' cs' ls (q ++ st') r) : Gx mt d M σ cs ls st r := by
  obtain ⟨n, k⟩ := k
  obtain ⟨n2, hc⟩ := hc
  obtain ⟨d1, rfl⟩ : ∃ d1, d = d1 + 1 := ⟨d - 1, by omega⟩
  refine ⟨max n n2 + 1, ?_⟩
  rw [exec, h]
  dsimp only
  rw [exec_le (Nat.le_max_right n n2) (by omega) hc]
  exact exec_le (Nat.le_max_left n n2) (Nat.le_refl _) k
theorem go_fall {mt : Nat → Nat × (Nat → List LI)} {d : Nat} {M : Nat → List LI} {σ : St} {cs : List LI} {ls : Ls} {st : List Vl} {r : St × List Vl} {xa xb xc : Nat} {xz : Int}  (k : Gx mt d M σ (M xa) ls st r) : Gx mt d M σ ((0, xa, xb, xc, xz) :: cs) ls st r := Gx.one (by simp [step, oN, true_and]) k
theorem go_loadI {mt : Nat → Nat × (Nat → List LI)} {d : Nat} {M : Nat → List LI} {σ : St} {cs : List LI} {ls : Ls} {st : List Vl} {r : St × List Vl} {xa xb xc : Nat} {xz : Int} {x : Int} (h : ls[xa]? = some (some (vI x))) (k : Gx mt d M σ cs ls (vI x :: st) r) : Gx mt d M σ ((1, xa, xb, xc, xz) :: cs) ls st r := Gx.one (by simp [step, oN, s_load, h]) k
theorem go_loadL {mt : Nat → Nat × (Nat → List LI)} {d : Nat} {M : Nat → List LI} {σ : St} {cs : List LI} {ls : Ls} {st : List Vl} {r : St × List Vl} {xa xb xc : Nat} {xz : Int} {x : BitVec 64} (h : ls[xa]? = some (some (vL x))) (k : Gx mt d M σ cs ls (vL x :: st) r) : Gx mt d M σ ((2, xa, xb, xc, xz) :: cs) ls st r := Gx.one (by simp [step, oN, s_load, h]) k
theorem go_loadA {mt : Nat → Nat × (Nat → List LI)} {d : Nat} {M : Nat → List LI} {σ : St} {cs : List LI} {ls : Ls} {st : List Vl} {r : St × List Vl} {xa xb xc : Nat} {xz : Int} {t : Nat} {q : Option Nat} (h : ls[xa]? = some (some (vR t q))) (k : Gx mt d M σ cs ls (vR t q :: st) r) : Gx mt d M σ ((3, xa, xb, xc, xz) :: cs) ls st r := Gx.one (by simp [step, oN, s_load, h]) k
theorem go_stoI {mt : Nat → Nat × (Nat → List LI)} {d : Nat} {M : Nat → List LI} {σ : St} {cs : List LI} {ls : Ls} {st : List Vl} {r : St × List Vl} {xa xb xc : Nat} {xz : Int} {x : Int} {ls' : Ls} (h : (decide (xa < ls.length)) = true) (e : lSet1 ls xa (vI x) = ls') (k : Gx mt d M σ cs ls' st r) : Gx mt d M σ ((4, xa, xb, xc, xz) :: cs) ls (vI x :: st) r := Gx.one (by simp [step, oN, s_store, of_decide_eq_true h, ← e]) k
theorem go_stoL {mt : Nat → Nat × (Nat → List LI)} {d : Nat} {M : Nat → List LI} {σ : St} {cs : List LI} {ls : Ls} {st : List Vl} {r : St × List Vl} {xa xb xc : Nat} {xz : Int} {x : BitVec 64} {ls' : Ls} (h : (decide (xa + 1 < ls.length)) = true) (e : lSet2 ls xa (vL x) = ls') (k : Gx mt d M σ cs ls' st r) : Gx mt d M σ ((5, xa, xb, xc, xz) :: cs) ls (vL x :: st) r := Gx.one (by simp [step, oN, s_store, of_decide_eq_true h, ← e]) k
theorem go_stoA {mt : Nat → Nat × (Nat → List LI)} {d : Nat} {M : Nat → List LI} {σ : St} {cs : List LI} {ls : Ls} {st : List Vl} {r : St × List Vl} {xa xb xc : Nat} {xz : Int} {t : Nat} {q : Option Nat} {ls' : Ls} (h : (decide (xa < ls.length)) = true) (e : lSet1 ls xa (vR t q) = ls') (k : Gx mt d M σ cs ls' st r) : Gx mt d M σ ((6, xa, xb, xc, xz) :: cs) ls (vR t q :: st) r := Gx.one (by simp [step, oN, s_store, of_decide_eq_true h, ← e]) k
theorem go_pushI {mt : Nat → Nat × (Nat → List LI)} {d : Nat} {M : Nat → List LI} {σ : St} {cs : List LI} {ls : Ls} {st : List Vl} {r : St × List Vl} {xa xb xc : Nat} {xz : Int} (h : rgB xz = true) (k : Gx mt d M σ cs ls (vI xz :: st) r) : Gx mt d M σ ((7, xa, xb, xc, xz) :: cs) ls st r := Gx.one (by simp [step, oN, h]) k
theorem go_pushL {mt : Nat → Nat × (Nat → List LI)} {d : Nat} {M : Nat → List LI} {σ : St} {cs : List LI} {ls : Ls} {st : List Vl} {r : St × List Vl} {xa xb xc : Nat} {xz : Int} {x : BitVec 64} (h : BitVec.ofInt 64 xz = x) (k : Gx mt d M σ cs ls (vL x :: st) r) : Gx mt d M σ ((8, xa, xb, xc, xz) :: cs) ls st r := Gx.one (by simp [step, oN, h]) k
theorem go_null {mt : Nat → Nat × (Nat → List LI)} {d : Nat} {M : Nat → List LI} {σ : St} {cs : List LI} {ls : Ls} {st : List Vl} {r : St × List Vl} {xa xb xc : Nat} {xz : Int}  (k : Gx mt d M σ cs ls (vR xa none :: st) r) : Gx mt d M σ ((9, xa, xb, xc, xz) :: cs) ls st r := Gx.one (by simp [step, oN, true_and]) k
theorem go_iadd {mt : Nat → Nat × (Nat → List LI)} {d : Nat} {M : Nat → List LI} {σ : St} {cs : List LI} {ls : Ls} {st : List Vl} {r : St × List Vl} {xa xb xc : Nat} {xz : Int} {p q : Int} (h : Rg (p + q)) (k : Gx mt d M σ cs ls (vI (p + q) :: st) r) : Gx mt d M σ ((10, xa, xb, xc, xz) :: cs) ls (vI q :: vI p :: st) r := Gx.one (by simp [step, oN, s_ar, (rgB_iff _).mpr h]) k
theorem go_isub {mt : Nat → Nat × (Nat → List LI)} {d : Nat} {M : Nat → List LI} {σ : St} {cs : List LI} {ls : Ls} {st : List Vl} {r : St × List Vl} {xa xb xc : Nat} {xz : Int} {p q : Int} (h : Rg (p - q)) (k : Gx mt d M σ cs ls (vI (p - q) :: st) r) : Gx mt d M σ ((11, xa, xb, xc, xz) :: cs) ls (vI q :: vI p :: st) r := Gx.one (by simp [step, oN, s_ar, (rgB_iff _).mpr h]) k
theorem go_imul {mt : Nat → Nat × (Nat → List LI)} {d : Nat} {M : Nat → List LI} {σ : St} {cs : List LI} {ls : Ls} {st : List Vl} {r : St × List Vl} {xa xb xc : Nat} {xz : Int} {p q : Int} (h : Rg (p * q)) (k : Gx mt d M σ cs ls (vI (p * q) :: st) r) : Gx mt d M σ ((12, xa, xb, xc, xz) :: cs) ls (vI q :: vI p :: st) r := Gx.one (by simp [step, oN, s_ar, (rgB_iff _).mpr h]) k
theorem go_idiv {mt : Nat → Nat × (Nat → List LI)} {d : Nat} {M : Nat → List LI} {σ : St} {cs : List LI} {ls : Ls} {st : List Vl} {r : St × List Vl} {xa xb xc : Nat} {xz : Int} {p q : Int} (h : 0 ≤ p ∧ 0 < q) (k : Gx mt d M σ cs ls (vI (p / q) :: st) r) : Gx mt d M σ ((13, xa, xb, xc, xz) :: cs) ls (vI q :: vI p :: st) r := Gx.one (by simp [step, oN, s_ar, h.1, h.2]) k
theorem go_irem {mt : Nat → Nat × (Nat → List LI)} {d : Nat} {M : Nat → List LI} {σ : St} {cs : List LI} {ls : Ls} {st : List Vl} {r : St × List Vl} {xa xb xc : Nat} {xz : Int} {p q : Int} (h : 0 ≤ p ∧ 0 < q) (k : Gx mt d M σ cs ls (vI (p % q) :: st) r) : Gx mt d M σ ((14, xa, xb, xc, xz) :: cs) ls (vI q :: vI p :: st) r := Gx.one (by simp [step, oN, s_ar, h.1, h.2]) k
theorem go_ishl {mt : Nat → Nat × (Nat → List LI)} {d : Nat} {M : Nat → List LI} {σ : St} {cs : List LI} {ls : Ls} {st : List Vl} {r : St × List Vl} {xa xb xc : Nat} {xz : Int} {p q x : Int} (h : iShl p q = x) (k : Gx mt d M σ cs ls (vI x :: st) r) : Gx mt d M σ ((16, xa, xb, xc, xz) :: cs) ls (vI q :: vI p :: st) r := Gx.one (by simp [step, oN, s_ar, h]) k
theorem go_ishr {mt : Nat → Nat × (Nat → List LI)} {d : Nat} {M : Nat → List LI} {σ : St} {cs : List LI} {ls : Ls} {st : List Vl} {r : St × List Vl} {xa xb xc : Nat} {xz : Int} {p q x : Int} (h : iShr p q = x) (k : Gx mt d M σ cs ls (vI x :: st) r) : Gx mt d M σ ((17, xa, xb, xc, xz) :: cs) ls (vI q :: vI p :: st) r := Gx.one (by simp [step, oN, s_ar, h]) k
theorem go_iushr {mt : Nat → Nat × (Nat → List LI)} {d : Nat} {M : Nat → List LI} {σ : St} {cs : List LI} {ls : Ls} {st : List Vl} {r : St × List Vl} {xa xb xc : Nat} {xz : Int} {p q x : Int} (h : iUshr p q = x) (k : Gx mt d M σ cs ls (vI x :: st) r) : Gx mt d M σ ((18, xa, xb, xc, xz) :: cs) ls (vI q :: vI p :: st) r := Gx.one (by simp [step, oN, s_ar, h]) k
theorem go_iand {mt : Nat → Nat × (Nat → List LI)} {d : Nat} {M : Nat → List LI} {σ : St} {cs : List LI} {ls : Ls} {st : List Vl} {r : St × List Vl} {xa xb xc : Nat} {xz : Int} {p q x : Int} (h : iAnd p q = x) (k : Gx mt d M σ cs ls (vI x :: st) r) : Gx mt d M σ ((19, xa, xb, xc, xz) :: cs) ls (vI q :: vI p :: st) r := Gx.one (by simp [step, oN, s_ar, h]) k
theorem go_ior {mt : Nat → Nat × (Nat → List LI)} {d : Nat} {M : Nat → List LI} {σ : St} {cs : List LI} {ls : Ls} {st : List Vl} {r : St × List Vl} {xa xb xc : Nat} {xz : Int} {p q x : Int} (h : iOr p q = x) (k : Gx mt d M σ cs ls (vI x :: st) r) : Gx mt d M σ ((20, xa, xb, xc, xz) :: cs) ls (vI q :: vI p :: st) r := Gx.one (by simp [step, oN, s_ar, h]) k
theorem go_ixor {mt : Nat → Nat × (Nat → List LI)} {d : Nat} {M : Nat → List LI} {σ : St} {cs : List LI} {ls : Ls} {st : List Vl} {r : St × List Vl} {xa xb xc : Nat} {xz : Int} {p q x : Int} (h : iXor p q = x) (k : Gx mt d M σ cs ls (vI x :: st) r) : Gx mt d M σ ((21, xa, xb, xc, xz) :: cs) ls (vI q :: vI p :: st) r := Gx.one (by simp [step, oN, s_ar, h]) k
theorem go_ladd {mt : Nat → Nat × (Nat → List LI)} {d : Nat} {M : Nat → List LI} {σ : St} {cs : List LI} {ls : Ls} {st : List Vl} {r : St × List Vl} {xa xb xc : Nat} {xz : Int} {p q : BitVec 64} (k : Gx mt d M σ cs ls (vL (p + q) :: st) r) : Gx mt d M σ ((22, xa, xb, xc, xz) :: cs) ls (vL q :: vL p :: st) r := Gx.one (by simp [step, oN, s_lar]) k
theorem go_lsub {mt : Nat → Nat × (Nat → List LI)} {d : Nat} {M : Nat → List LI} {σ : St} {cs : List LI} {ls : Ls} {st : List Vl} {r : St × List Vl} {xa xb xc : Nat} {xz : Int} {p q : BitVec 64} (k : Gx mt d M σ cs ls (vL (p - q) :: st) r) : Gx mt d M σ ((23, xa, xb, xc, xz) :: cs) ls (vL q :: vL p :: st) r := Gx.one (by simp [step, oN, s_lar]) k
theorem go_land {mt : Nat → Nat × (Nat → List LI)} {d : Nat} {M : Nat → List LI} {σ : St} {cs : List LI} {ls : Ls} {st : List Vl} {r : St × List Vl} {xa xb xc : Nat} {xz : Int} {p q : BitVec 64} (k : Gx mt d M σ cs ls (vL (p &&& q) :: st) r) : Gx mt d M σ ((25, xa, xb, xc, xz) :: cs) ls (vL q :: vL p :: st) r := Gx.one (by simp [step, oN, s_lar]) k
theorem go_lor {mt : Nat → Nat × (Nat → List LI)} {d : Nat} {M : Nat → List LI} {σ : St} {cs : List LI} {ls : Ls} {st : List Vl} {r : St × List Vl} {xa xb xc : Nat} {xz : Int} {p q : BitVec 64} (k : Gx mt d M σ cs ls (vL (p ||| q) :: st) r) : Gx mt d M σ ((26, xa, xb, xc, xz) :: cs) ls (vL q :: vL p :: st) r := Gx.one (by simp [step, oN, s_lar]) k
theorem go_lxor {mt : Nat → Nat × (Nat → List LI)} {d : Nat} {M : Nat → List LI} {σ : St} {cs : List LI} {ls : Ls} {st : List Vl} {r : St × List Vl} {xa xb xc : Nat} {xz : Int} {p q : BitVec 64} (k : Gx mt d M σ cs ls (vL (p ^^^ q) :: st) r) : Gx mt d M σ ((27, xa, xb, xc, xz) :: cs) ls (vL q :: vL p :: st) r := Gx.one (by simp [step, oN, s_lar]) k
theorem go_lcmp {mt : Nat → Nat × (Nat → List LI)} {d : Nat} {M : Nat → List LI} {σ : St} {cs : List LI} {ls : Ls} {st : List Vl} {r : St × List Vl} {xa xb xc : Nat} {xz : Int} {p q : BitVec 64} {x : Int} (h : lCmp p q = x) (k : Gx mt d M σ cs ls (vI x :: st) r) : Gx mt d M σ ((31, xa, xb, xc, xz) :: cs) ls (vL q :: vL p :: st) r := Gx.one (by simp [step, oN, s_lar, h]) k
theorem go_lshl {mt : Nat → Nat × (Nat → List LI)} {d : Nat} {M : Nat → List LI} {σ : St} {cs : List LI} {ls : Ls} {st : List Vl} {r : St × List Vl} {xa xb xc : Nat} {xz : Int} {p x : BitVec 64} {q : Int} (h : lShl p q = x) (k : Gx mt d M σ cs ls (vL x :: st) r) : Gx mt d M σ ((28, xa, xb, xc, xz) :: cs) ls (vI q :: vL p :: st) r := Gx.one (by simp [step, oN, s_lsh, h]) k
theorem go_lshr {mt : Nat → Nat × (Nat → List LI)} {d : Nat} {M : Nat → List LI} {σ : St} {cs : List LI} {ls : Ls} {st : List Vl} {r : St × List Vl} {xa xb xc : Nat} {xz : Int} {p x : BitVec 64} {q : Int} (h : lShr p q = x) (k : Gx mt d M σ cs ls (vL x :: st) r) : Gx mt d M σ ((29, xa, xb, xc, xz) :: cs) ls (vI q :: vL p :: st) r := Gx.one (by simp [step, oN, s_lsh, h]) k
theorem go_lushr {mt : Nat → Nat × (Nat → List LI)} {d : Nat} {M : Nat → List LI} {σ : St} {cs : List LI} {ls : Ls} {st : List Vl} {r : St × List Vl} {xa xb xc : Nat} {xz : Int} {p x : BitVec 64} {q : Int} (h : lUshr p q = x) (k : Gx mt d M σ cs ls (vL x :: st) r) : Gx mt d M σ ((30, xa, xb, xc, xz) :: cs) ls (vI q :: vL p :: st) r := Gx.one (by simp [step, oN, s_lsh, h]) k
theorem go_lneg {mt : Nat → Nat × (Nat → List LI)} {d : Nat} {M : Nat → List LI} {σ : St} {cs : List LI} {ls : Ls} {st : List Vl} {r : St × List Vl} {xa xb xc : Nat} {xz : Int} {p : BitVec 64} (k : Gx mt d M σ cs ls (vL (-p) :: st) r) : Gx mt d M σ ((24, xa, xb, xc, xz) :: cs) ls (vL p :: st) r := Gx.one (by simp [step, oN, s_un]) k
theorem go_i2l {mt : Nat → Nat × (Nat → List LI)} {d : Nat} {M : Nat → List LI} {σ : St} {cs : List LI} {ls : Ls} {st : List Vl} {r : St × List Vl} {xa xb xc : Nat} {xz : Int} {p : Int} (k : Gx mt d M σ cs ls (vL (BitVec.ofInt 64 p) :: st) r) : Gx mt d M σ ((32, xa, xb, xc, xz) :: cs) ls (vI p :: st) r := Gx.one (by simp [step, oN, s_un]) k
theorem go_l2i {mt : Nat → Nat × (Nat → List LI)} {d : Nat} {M : Nat → List LI} {σ : St} {cs : List LI} {ls : Ls} {st : List Vl} {r : St × List Vl} {xa xb xc : Nat} {xz : Int} {p : BitVec 64} {x : Int} (h : l2i p = x) (k : Gx mt d M σ cs ls (vI x :: st) r) : Gx mt d M σ ((33, xa, xb, xc, xz) :: cs) ls (vL p :: st) r := Gx.one (by simp [step, oN, s_un, h]) k
theorem go_i2b {mt : Nat → Nat × (Nat → List LI)} {d : Nat} {M : Nat → List LI} {σ : St} {cs : List LI} {ls : Ls} {st : List Vl} {r : St × List Vl} {xa xb xc : Nat} {xz : Int} {p x : Int} (h : i2b p = x) (k : Gx mt d M σ cs ls (vI x :: st) r) : Gx mt d M σ ((34, xa, xb, xc, xz) :: cs) ls (vI p :: st) r := Gx.one (by simp [step, oN, s_un, h]) k
theorem go_iinc {mt : Nat → Nat × (Nat → List LI)} {d : Nat} {M : Nat → List LI} {σ : St} {cs : List LI} {ls : Ls} {st : List Vl} {r : St × List Vl} {xa xb xc : Nat} {xz : Int} {x : Int} {ls' : Ls} (h : ls[xa]? = some (some (vI x))) (hr : Rg (x + xz)) (e : lSet1 ls xa (vI (x + xz)) = ls') (k : Gx mt d M σ cs ls' st r) : Gx mt d M σ ((35, xa, xb, xc, xz) :: cs) ls st r := Gx.one (by simp [step, oN, s_inc, h, (rgB_iff _).mpr hr, ← e]) k
theorem go_goto {mt : Nat → Nat × (Nat → List LI)} {d : Nat} {M : Nat → List LI} {σ : St} {cs : List LI} {ls : Ls} {st : List Vl} {r : St × List Vl} {xa xb xc : Nat} {xz : Int}  (k : Gx mt d M σ (M xa) ls st r) : Gx mt d M σ ((40, xa, xb, xc, xz) :: cs) ls st r := Gx.one (by simp [step, oN, true_and]) k
theorem go_dupI {mt : Nat → Nat × (Nat → List LI)} {d : Nat} {M : Nat → List LI} {σ : St} {cs : List LI} {ls : Ls} {st : List Vl} {r : St × List Vl} {xa xb xc : Nat} {xz : Int} {x : Int} (k : Gx mt d M σ cs ls (vI x :: vI x :: st) r) : Gx mt d M σ ((42, xa, xb, xc, xz) :: cs) ls (vI x :: st) r := Gx.one (by simp [step, oN, s_un, cat]) k
theorem go_dupA {mt : Nat → Nat × (Nat → List LI)} {d : Nat} {M : Nat → List LI} {σ : St} {cs : List LI} {ls : Ls} {st : List Vl} {r : St × List Vl} {xa xb xc : Nat} {xz : Int} {t : Nat} {q : Option Nat} (k : Gx mt d M σ cs ls (vR t q :: vR t q :: st) r) : Gx mt d M σ ((42, xa, xb, xc, xz) :: cs) ls (vR t q :: st) r := Gx.one (by simp [step, oN, s_un, cat]) k
theorem go_dup2 {mt : Nat → Nat × (Nat → List LI)} {d : Nat} {M : Nat → List LI} {σ : St} {cs : List LI} {ls : Ls} {st : List Vl} {r : St × List Vl} {xa xb xc : Nat} {xz : Int} {x : Int} {t : Nat} {q : Option Nat} (k : Gx mt d M σ cs ls (vI x :: vR t q :: vI x :: vR t q :: st) r) : Gx mt d M σ ((43, xa, xb, xc, xz) :: cs) ls (vI x :: vR t q :: st) r := Gx.one (by simp [step, oN, s_un, cat]) k
theorem go_popI {mt : Nat → Nat × (Nat → List LI)} {d : Nat} {M : Nat → List LI} {σ : St} {cs : List LI} {ls : Ls} {st : List Vl} {r : St × List Vl} {xa xb xc : Nat} {xz : Int} {x : Int} (k : Gx mt d M σ cs ls st r) : Gx mt d M σ ((44, xa, xb, xc, xz) :: cs) ls (vI x :: st) r := Gx.one (by simp [step, oN, s_un, cat]) k
theorem go_popA {mt : Nat → Nat × (Nat → List LI)} {d : Nat} {M : Nat → List LI} {σ : St} {cs : List LI} {ls : Ls} {st : List Vl} {r : St × List Vl} {xa xb xc : Nat} {xz : Int} {t : Nat} {q : Option Nat} (k : Gx mt d M σ cs ls st r) : Gx mt d M σ ((44, xa, xb, xc, xz) :: cs) ls (vR t q :: st) r := Gx.one (by simp [step, oN, s_un, cat]) k
theorem go_getI {mt : Nat → Nat × (Nat → List LI)} {d : Nat} {M : Nat → List LI} {σ : St} {cs : List LI} {ls : Ls} {st : List Vl} {r : St × List Vl} {xa xb xc : Nat} {xz : Int} {q : Nat} (k : Gx mt d M σ cs ls (vI (gI σ q xb) :: st) r) : Gx mt d M σ ((45, xa, xb, xc, xz) :: cs) ls (vR xa (some q) :: st) r := Gx.one (by simp [step, oN, s_fld]) k
theorem go_getL {mt : Nat → Nat × (Nat → List LI)} {d : Nat} {M : Nat → List LI} {σ : St} {cs : List LI} {ls : Ls} {st : List Vl} {r : St × List Vl} {xa xb xc : Nat} {xz : Int} {q : Nat} (k : Gx mt d M σ cs ls (vL (gL σ q xb) :: st) r) : Gx mt d M σ ((46, xa, xb, xc, xz) :: cs) ls (vR xa (some q) :: st) r := Gx.one (by simp [step, oN, s_fld]) k
theorem go_getR {mt : Nat → Nat × (Nat → List LI)} {d : Nat} {M : Nat → List LI} {σ : St} {cs : List LI} {ls : Ls} {st : List Vl} {r : St × List Vl} {xa xb xc : Nat} {xz : Int} {q : Nat} {v : Option Nat} (h : gR σ q xb = v) (k : Gx mt d M σ cs ls (vR xc v :: st) r) : Gx mt d M σ ((47, xa, xb, xc, xz) :: cs) ls (vR xa (some q) :: st) r := Gx.one (by simp [step, oN, s_fld, h]) k
theorem go_putI {mt : Nat → Nat × (Nat → List LI)} {d : Nat} {M : Nat → List LI} {σ : St} {cs : List LI} {ls : Ls} {st : List Vl} {r : St × List Vl} {xa xb xc : Nat} {xz : Int} {q : Nat} {v : Int} (k : Gx mt d M (wI σ q xb v) cs ls st r) : Gx mt d M σ ((48, xa, xb, 0, xz) :: cs) ls (vI v :: vR xa (some q) :: st) r := Gx.one (by simp [step, oN, s_fld]) k
theorem go_putZ {mt : Nat → Nat × (Nat → List LI)} {d : Nat} {M : Nat → List LI} {σ : St} {cs : List LI} {ls : Ls} {st : List Vl} {r : St × List Vl} {xa xb xc : Nat} {xz : Int} {q : Nat} {v : Int} (h : 0 ≤ v ∧ v ≤ 1) (k : Gx mt d M (wI σ q xb v) cs ls st r) : Gx mt d M σ ((48, xa, xb, 1, xz) :: cs) ls (vI v :: vR xa (some q) :: st) r := Gx.one (by simp [step, oN, s_fld, h.1, h.2]) k
theorem go_putL {mt : Nat → Nat × (Nat → List LI)} {d : Nat} {M : Nat → List LI} {σ : St} {cs : List LI} {ls : Ls} {st : List Vl} {r : St × List Vl} {xa xb xc : Nat} {xz : Int} {q : Nat} {v : BitVec 64} (k : Gx mt d M (wL σ q xb v) cs ls st r) : Gx mt d M σ ((49, xa, xb, xc, xz) :: cs) ls (vL v :: vR xa (some q) :: st) r := Gx.one (by simp [step, oN, s_fld]) k
theorem go_putR {mt : Nat → Nat × (Nat → List LI)} {d : Nat} {M : Nat → List LI} {σ : St} {cs : List LI} {ls : Ls} {st : List Vl} {r : St × List Vl} {xa xb xc : Nat} {xz : Int} {q : Nat} {v : Option Nat} (k : Gx mt d M (wR σ q xb v) cs ls st r) : Gx mt d M σ ((50, xa, xb, xc, xz) :: cs) ls (vR xc v :: vR xa (some q) :: st) r := Gx.one (by simp [step, oN, s_fld]) k
theorem go_gets {mt : Nat → Nat × (Nat → List LI)} {d : Nat} {M : Nat → List LI} {σ : St} {cs : List LI} {ls : Ls} {st : List Vl} {r : St × List Vl} {xa xb xc : Nat} {xz : Int} {q : Nat} (h : stA σ xa = some q) (k : Gx mt d M σ cs ls (vR 20 (some q) :: st) r) : Gx mt d M σ ((51, xa, xb, xc, xz) :: cs) ls st r := Gx.one (by simp [step, oN, h]) k
theorem go_iald {mt : Nat → Nat × (Nat → List LI)} {d : Nat} {M : Nat → List LI} {σ : St} {cs : List LI} {ls : Ls} {st : List Vl} {r : St × List Vl} {xa xb xc : Nat} {xz : Int} {q : Nat} {i : Int} (h : 0 ≤ i ∧ i < (ln σ q : Int)) (k : Gx mt d M σ cs ls (vI (gI σ q i.toNat) :: st) r) : Gx mt d M σ ((52, xa, xb, xc, xz) :: cs) ls (vI i :: vR 14 (some q) :: st) r := Gx.one (by simp [step, oN, s_arr, inbB, h.1, h.2]) k
theorem go_fald {mt : Nat → Nat × (Nat → List LI)} {d : Nat} {M : Nat → List LI} {σ : St} {cs : List LI} {ls : Ls} {st : List Vl} {r : St × List Vl} {xa xb xc : Nat} {xz : Int} {q : Nat} {i : Int} (h : 0 ≤ i ∧ i < (ln σ q : Int)) (k : Gx mt d M σ cs ls (vI (gI σ q i.toNat) :: st) r) : Gx mt d M σ ((52, xa, xb, xc, xz) :: cs) ls (vI i :: vR 20 (some q) :: st) r := Gx.one (by simp [step, oN, s_arr, inbB, h.1, h.2]) k
theorem go_lald {mt : Nat → Nat × (Nat → List LI)} {d : Nat} {M : Nat → List LI} {σ : St} {cs : List LI} {ls : Ls} {st : List Vl} {r : St × List Vl} {xa xb xc : Nat} {xz : Int} {q : Nat} {i : Int} (h : 0 ≤ i ∧ i < (ln σ q : Int)) (k : Gx mt d M σ cs ls (vL (gL σ q i.toNat) :: st) r) : Gx mt d M σ ((53, xa, xb, xc, xz) :: cs) ls (vI i :: vR 15 (some q) :: st) r := Gx.one (by simp [step, oN, s_arr, inbB, h.1, h.2]) k
theorem go_bald {mt : Nat → Nat × (Nat → List LI)} {d : Nat} {M : Nat → List LI} {σ : St} {cs : List LI} {ls : Ls} {st : List Vl} {r : St × List Vl} {xa xb xc : Nat} {xz : Int} {q : Nat} {i : Int} (h : 0 ≤ i ∧ i < (ln σ q : Int)) (k : Gx mt d M σ cs ls (vI (gI σ q i.toNat) :: st) r) : Gx mt d M σ ((54, xa, xb, xc, xz) :: cs) ls (vI i :: vR 13 (some q) :: st) r := Gx.one (by simp [step, oN, s_arr, inbB, h.1, h.2]) k
theorem go_zald {mt : Nat → Nat × (Nat → List LI)} {d : Nat} {M : Nat → List LI} {σ : St} {cs : List LI} {ls : Ls} {st : List Vl} {r : St × List Vl} {xa xb xc : Nat} {xz : Int} {q : Nat} {i : Int} (h : 0 ≤ i ∧ i < (ln σ q : Int)) (k : Gx mt d M σ cs ls (vI (gI σ q i.toNat) :: st) r) : Gx mt d M σ ((55, xa, xb, xc, xz) :: cs) ls (vI i :: vR 16 (some q) :: st) r := Gx.one (by simp [step, oN, s_arr, inbB, h.1, h.2]) k
theorem go_aald {mt : Nat → Nat × (Nat → List LI)} {d : Nat} {M : Nat → List LI} {σ : St} {cs : List LI} {ls : Ls} {st : List Vl} {r : St × List Vl} {xa xb xc : Nat} {xz : Int} {q : Nat} {i : Int} {v : Option Nat} (h : 0 ≤ i ∧ i < (ln σ q : Int)) (e : gR σ q i.toNat = v) (k : Gx mt d M σ cs ls (vR xc v :: st) r) : Gx mt d M σ ((56, xa, xb, xc, xz) :: cs) ls (vI i :: vR xa (some q) :: st) r := Gx.one (by simp [step, oN, s_arr, inbB, h.1, h.2, e]) k
theorem go_iast {mt : Nat → Nat × (Nat → List LI)} {d : Nat} {M : Nat → List LI} {σ : St} {cs : List LI} {ls : Ls} {st : List Vl} {r : St × List Vl} {xa xb xc : Nat} {xz : Int} {q : Nat} {i v : Int} (h : 0 ≤ i ∧ i < (ln σ q : Int)) (k : Gx mt d M (wI σ q i.toNat v) cs ls st r) : Gx mt d M σ ((57, xa, xb, xc, xz) :: cs) ls (vI v :: vI i :: vR 14 (some q) :: st) r := Gx.one (by simp [step, oN, s_arr, inbB, h.1, h.2]) k
theorem go_last {mt : Nat → Nat × (Nat → List LI)} {d : Nat} {M : Nat → List LI} {σ : St} {cs : List LI} {ls : Ls} {st : List Vl} {r : St × List Vl} {xa xb xc : Nat} {xz : Int} {q : Nat} {i : Int} {v : BitVec 64} (h : 0 ≤ i ∧ i < (ln σ q : Int)) (k : Gx mt d M (wL σ q i.toNat v) cs ls st r) : Gx mt d M σ ((58, xa, xb, xc, xz) :: cs) ls (vL v :: vI i :: vR 15 (some q) :: st) r := Gx.one (by simp [step, oN, s_arr, inbB, h.1, h.2]) k
theorem go_bast {mt : Nat → Nat × (Nat → List LI)} {d : Nat} {M : Nat → List LI} {σ : St} {cs : List LI} {ls : Ls} {st : List Vl} {r : St × List Vl} {xa xb xc : Nat} {xz : Int} {q : Nat} {i v : Int} (h : 0 ≤ i ∧ i < (ln σ q : Int)) (hv : -128 ≤ v ∧ v ≤ 127) (k : Gx mt d M (wI σ q i.toNat v) cs ls st r) : Gx mt d M σ ((59, xa, xb, xc, xz) :: cs) ls (vI v :: vI i :: vR 13 (some q) :: st) r := Gx.one (by simp [step, oN, s_arr, inbB, h.1, h.2, hv.1, hv.2]) k
theorem go_zast {mt : Nat → Nat × (Nat → List LI)} {d : Nat} {M : Nat → List LI} {σ : St} {cs : List LI} {ls : Ls} {st : List Vl} {r : St × List Vl} {xa xb xc : Nat} {xz : Int} {q : Nat} {i v : Int} (h : 0 ≤ i ∧ i < (ln σ q : Int)) (hv : 0 ≤ v ∧ v ≤ 1) (k : Gx mt d M (wI σ q i.toNat v) cs ls st r) : Gx mt d M σ ((60, xa, xb, xc, xz) :: cs) ls (vI v :: vI i :: vR 16 (some q) :: st) r := Gx.one (by simp [step, oN, s_arr, inbB, h.1, h.2, hv.1, hv.2]) k
theorem go_aast {mt : Nat → Nat × (Nat → List LI)} {d : Nat} {M : Nat → List LI} {σ : St} {cs : List LI} {ls : Ls} {st : List Vl} {r : St × List Vl} {xa xb xc : Nat} {xz : Int} {q v : Nat} {i : Int} (h : 0 ≤ i ∧ i < (ln σ q : Int)) (k : Gx mt d M (wR σ q i.toNat (some v)) cs ls st r) : Gx mt d M σ ((61, xa, xb, xc, xz) :: cs) ls (vR xc (some v) :: vI i :: vR xa (some q) :: st) r := Gx.one (by simp [step, oN, s_arr, inbB, h.1, h.2]) k
theorem go_alen {mt : Nat → Nat × (Nat → List LI)} {d : Nat} {M : Nat → List LI} {σ : St} {cs : List LI} {ls : Ls} {st : List Vl} {r : St × List Vl} {xa xb xc : Nat} {xz : Int} {q t : Nat} (h : (ln σ q : Int) < 2147483648) (ht : (decide (13 ≤ t) && decide (t ≤ 20)) = true) (k : Gx mt d M σ cs ls (vI (ln σ q) :: st) r) : Gx mt d M σ ((62, xa, xb, xc, xz) :: cs) ls (vR t (some q) :: st) r := Gx.one (by simp [step, oN, s_arr, h, (by simpa using ht : 13 ≤ t ∧ t ≤ 20)]) k
theorem go_newa {mt : Nat → Nat × (Nat → List LI)} {d : Nat} {M : Nat → List LI} {σ : St} {cs : List LI} {ls : Ls} {st : List Vl} {r : St × List Vl} {xa xb xc : Nat} {xz : Int} {n : Int} (h : 0 ≤ n ∧ n ≤ 1000000) (k : Gx mt d M (mk σ xa n.toNat n.toNat) cs ls (vR xa (some (nx σ)) :: st) r) : Gx mt d M σ ((63, xa, xb, xc, xz) :: cs) ls (vI n :: st) r := Gx.one (by simp [step, oN, s_new, h.1, h.2]) k
theorem go_anew {mt : Nat → Nat × (Nat → List LI)} {d : Nat} {M : Nat → List LI} {σ : St} {cs : List LI} {ls : Ls} {st : List Vl} {r : St × List Vl} {xa xb xc : Nat} {xz : Int} {n : Int} (h : 0 ≤ n ∧ n ≤ 1000000) (k : Gx mt d M (mk σ xa n.toNat n.toNat) cs ls (vR xa (some (nx σ)) :: st) r) : Gx mt d M σ ((64, xa, xb, xc, xz) :: cs) ls (vI n :: st) r := Gx.one (by simp [step, oN, s_new, h.1, h.2]) k
theorem go_multi {mt : Nat → Nat × (Nat → List LI)} {d : Nat} {M : Nat → List LI} {σ : St} {cs : List LI} {ls : Ls} {st : List Vl} {r : St × List Vl} {xa xb xc : Nat} {xz : Int}  (k : Gx mt d M (mkM σ) cs ls (vR 19 (some (nx σ)) :: st) r) : Gx mt d M σ ((65, xa, xb, xc, xz) :: cs) ls (vI 0 :: vI 20 :: st) r := Gx.one (by simp [step, oN, true_and]) k
theorem go_new {mt : Nat → Nat × (Nat → List LI)} {d : Nat} {M : Nat → List LI} {σ : St} {cs : List LI} {ls : Ls} {st : List Vl} {r : St × List Vl} {xa xb xc : Nat} {xz : Int}  (k : Gx mt d M (mk σ xa 0 xc) cs ls (vR xa (some (nx σ)) :: st) r) : Gx mt d M σ ((66, xa, xb, xc, xz) :: cs) ls st r := Gx.one (by simp [step, oN, s_new]) k
theorem go_oinit {mt : Nat → Nat × (Nat → List LI)} {d : Nat} {M : Nat → List LI} {σ : St} {cs : List LI} {ls : Ls} {st : List Vl} {r : St × List Vl} {xa xb xc : Nat} {xz : Int} {t q : Nat} (h : (decide (stW st ≤ 8)) = true) (k : Gx mt d M σ cs ls st r) : Gx mt d M σ ((68, xa, xb, xc, xz) :: cs) ls (vR t (some q) :: st) r := Gx.one (by simp [step, oN, of_decide_eq_true h]) k
theorem go_cpyI {mt : Nat → Nat × (Nat → List LI)} {d : Nat} {M : Nat → List LI} {σ : St} {cs : List LI} {ls : Ls} {st : List Vl} {r : St × List Vl} {xa xb xc : Nat} {xz : Int} {q e : Nat} {n dp sp : Int} (h : 0 ≤ n ∧ 0 ≤ dp ∧ 0 ≤ sp ∧ sp + n ≤ (ln σ q : Int) ∧ dp + n ≤ (ln σ e : Int)) (hw : (decide (stW st ≤ 8)) = true) (k : Gx mt d M (aI σ e (cpyF (gI σ q) (gI σ e) sp.toNat dp.toNat n.toNat)) cs ls st r) : Gx mt d M σ ((69, xa, xb, xc, xz) :: cs) ls (vI n :: vI dp :: vR 14 (some e) :: vI sp :: vR 14 (some q) :: st) r := Gx.one (by simp [step, oN, s_cpy, h.1, h.2.1, h.2.2.1, h.2.2.2.1, h.2.2.2.2, of_decide_eq_true hw]) k
theorem go_cpyL {mt : Nat → Nat × (Nat → List LI)} {d : Nat} {M : Nat → List LI} {σ : St} {cs : List LI} {ls : Ls} {st : List Vl} {r : St × List Vl} {xa xb xc : Nat} {xz : Int} {q e : Nat} {n dp sp : Int} (h : 0 ≤ n ∧ 0 ≤ dp ∧ 0 ≤ sp ∧ sp + n ≤ (ln σ q : Int) ∧ dp + n ≤ (ln σ e : Int)) (hw : (decide (stW st ≤ 8)) = true) (k : Gx mt d M (aL σ e (cpyF (gL σ q) (gL σ e) sp.toNat dp.toNat n.toNat)) cs ls st r) : Gx mt d M σ ((70, xa, xb, xc, xz) :: cs) ls (vI n :: vI dp :: vR 15 (some e) :: vI sp :: vR 15 (some q) :: st) r := Gx.one (by simp [step, oN, s_cpy, h.1, h.2.1, h.2.2.1, h.2.2.2.1, h.2.2.2.2, of_decide_eq_true hw]) k
theorem go_icmp_eq {mt : Nat → Nat × (Nat → List LI)} {d : Nat} {M : Nat → List LI} {σ : St} {cs : List LI} {ls : Ls} {st : List Vl} {r : St × List Vl} {xa xb xc : Nat} {xz : Int} {x y : Int} (kt : x = y → Gx mt d M σ (M xb) ls st r) (kf : ¬ x = y → Gx mt d M σ cs ls st r) : Gx mt d M σ ((36, 0, xb, xc, xz) :: cs) ls (vI y :: vI x :: st) r := by
  by_cases h : x = y
  · exact Gx.one (by simp [step, oN, s_br, cmpB, h]) (kt h)
  · exact Gx.one (by simp [step, oN, s_br, cmpB, h]) (kf (by simpa using h))
theorem go_if_eq {mt : Nat → Nat × (Nat → List LI)} {d : Nat} {M : Nat → List LI} {σ : St} {cs : List LI} {ls : Ls} {st : List Vl} {r : St × List Vl} {xa xb xc : Nat} {xz : Int} {x : Int} (kt : x = 0 → Gx mt d M σ (M xb) ls st r) (kf : ¬ x = 0 → Gx mt d M σ cs ls st r) : Gx mt d M σ ((37, 0, xb, xc, xz) :: cs) ls (vI x :: st) r := by
  by_cases h : x = 0
  · exact Gx.one (by simp [step, oN, s_br, cmpB, h]) (kt h)
  · exact Gx.one (by simp [step, oN, s_br, cmpB, h]) (kf (by simpa using h))
theorem go_icmp_ne {mt : Nat → Nat × (Nat → List LI)} {d : Nat} {M : Nat → List LI} {σ : St} {cs : List LI} {ls : Ls} {st : List Vl} {r : St × List Vl} {xa xb xc : Nat} {xz : Int} {x y : Int} (kt : ¬ x = y → Gx mt d M σ (M xb) ls st r) (kf : x = y → Gx mt d M σ cs ls st r) : Gx mt d M σ ((36, 1, xb, xc, xz) :: cs) ls (vI y :: vI x :: st) r := by
  by_cases h : ¬ x = y
  · exact Gx.one (by simp [step, oN, s_br, cmpB, h]) (kt h)
  · exact Gx.one (by simp [step, oN, s_br, cmpB, h]) (kf (by simpa using h))
theorem go_if_ne {mt : Nat → Nat × (Nat → List LI)} {d : Nat} {M : Nat → List LI} {σ : St} {cs : List LI} {ls : Ls} {st : List Vl} {r : St × List Vl} {xa xb xc : Nat} {xz : Int} {x : Int} (kt : ¬ x = 0 → Gx mt d M σ (M xb) ls st r) (kf : x = 0 → Gx mt d M σ cs ls st r) : Gx mt d M σ ((37, 1, xb, xc, xz) :: cs) ls (vI x :: st) r := by
  by_cases h : ¬ x = 0
  · exact Gx.one (by simp [step, oN, s_br, cmpB, h]) (kt h)
  · exact Gx.one (by simp [step, oN, s_br, cmpB, h]) (kf (by simpa using h))
theorem go_icmp_lt {mt : Nat → Nat × (Nat → List LI)} {d : Nat} {M : Nat → List LI} {σ : St} {cs : List LI} {ls : Ls} {st : List Vl} {r : St × List Vl} {xa xb xc : Nat} {xz : Int} {x y : Int} (kt : x < y → Gx mt d M σ (M xb) ls st r) (kf : ¬ x < y → Gx mt d M σ cs ls st r) : Gx mt d M σ ((36, 2, xb, xc, xz) :: cs) ls (vI y :: vI x :: st) r := by
  by_cases h : x < y
  · exact Gx.one (by simp [step, oN, s_br, cmpB, h]) (kt h)
  · exact Gx.one (by simp [step, oN, s_br, cmpB, h]) (kf (by simpa using h))
theorem go_if_lt {mt : Nat → Nat × (Nat → List LI)} {d : Nat} {M : Nat → List LI} {σ : St} {cs : List LI} {ls : Ls} {st : List Vl} {r : St × List Vl} {xa xb xc : Nat} {xz : Int} {x : Int} (kt : x < 0 → Gx mt d M σ (M xb) ls st r) (kf : ¬ x < 0 → Gx mt d M σ cs ls st r) : Gx mt d M σ ((37, 2, xb, xc, xz) :: cs) ls (vI x :: st) r := by
  by_cases h : x < 0
  · exact Gx.one (by simp [step, oN, s_br, cmpB, h]) (kt h)
  · exact Gx.one (by simp [step, oN, s_br, cmpB, h]) (kf (by simpa using h))
theorem go_icmp_ge {mt : Nat → Nat × (Nat → List LI)} {d : Nat} {M : Nat → List LI} {σ : St} {cs : List LI} {ls : Ls} {st : List Vl} {r : St × List Vl} {xa xb xc : Nat} {xz : Int} {x y : Int} (kt : y ≤ x → Gx mt d M σ (M xb) ls st r) (kf : ¬ y ≤ x → Gx mt d M σ cs ls st r) : Gx mt d M σ ((36, 3, xb, xc, xz) :: cs) ls (vI y :: vI x :: st) r := by
  by_cases h : y ≤ x
  · exact Gx.one (by simp [step, oN, s_br, cmpB, h]) (kt h)
  · exact Gx.one (by simp [step, oN, s_br, cmpB, h]) (kf (by simpa using h))
theorem go_if_ge {mt : Nat → Nat × (Nat → List LI)} {d : Nat} {M : Nat → List LI} {σ : St} {cs : List LI} {ls : Ls} {st : List Vl} {r : St × List Vl} {xa xb xc : Nat} {xz : Int} {x : Int} (kt : 0 ≤ x → Gx mt d M σ (M xb) ls st r) (kf : ¬ 0 ≤ x → Gx mt d M σ cs ls st r) : Gx mt d M σ ((37, 3, xb, xc, xz) :: cs) ls (vI x :: st) r := by
  by_cases h : 0 ≤ x
  · exact Gx.one (by simp [step, oN, s_br, cmpB, h]) (kt h)
  · exact Gx.one (by simp [step, oN, s_br, cmpB, h]) (kf (by simpa using h))
theorem go_icmp_gt {mt : Nat → Nat × (Nat → List LI)} {d : Nat} {M : Nat → List LI} {σ : St} {cs : List LI} {ls : Ls} {st : List Vl} {r : St × List Vl} {xa xb xc : Nat} {xz : Int} {x y : Int} (kt : y < x → Gx mt d M σ (M xb) ls st r) (kf : ¬ y < x → Gx mt d M σ cs ls st r) : Gx mt d M σ ((36, 4, xb, xc, xz) :: cs) ls (vI y :: vI x :: st) r := by
  by_cases h : y < x
  · exact Gx.one (by simp [step, oN, s_br, cmpB, h]) (kt h)
  · exact Gx.one (by simp [step, oN, s_br, cmpB, h]) (kf (by simpa using h))
theorem go_if_gt {mt : Nat → Nat × (Nat → List LI)} {d : Nat} {M : Nat → List LI} {σ : St} {cs : List LI} {ls : Ls} {st : List Vl} {r : St × List Vl} {xa xb xc : Nat} {xz : Int} {x : Int} (kt : 0 < x → Gx mt d M σ (M xb) ls st r) (kf : ¬ 0 < x → Gx mt d M σ cs ls st r) : Gx mt d M σ ((37, 4, xb, xc, xz) :: cs) ls (vI x :: st) r := by
  by_cases h : 0 < x
  · exact Gx.one (by simp [step, oN, s_br, cmpB, h]) (kt h)
  · exact Gx.one (by simp [step, oN, s_br, cmpB, h]) (kf (by simpa using h))
theorem go_icmp_le {mt : Nat → Nat × (Nat → List LI)} {d : Nat} {M : Nat → List LI} {σ : St} {cs : List LI} {ls : Ls} {st : List Vl} {r : St × List Vl} {xa xb xc : Nat} {xz : Int} {x y : Int} (kt : x ≤ y → Gx mt d M σ (M xb) ls st r) (kf : ¬ x ≤ y → Gx mt d M σ cs ls st r) : Gx mt d M σ ((36, 5, xb, xc, xz) :: cs) ls (vI y :: vI x :: st) r := by
  by_cases h : x ≤ y
  · exact Gx.one (by simp [step, oN, s_br, cmpB, h]) (kt h)
  · exact Gx.one (by simp [step, oN, s_br, cmpB, h]) (kf (by simpa using h))
theorem go_if_le {mt : Nat → Nat × (Nat → List LI)} {d : Nat} {M : Nat → List LI} {σ : St} {cs : List LI} {ls : Ls} {st : List Vl} {r : St × List Vl} {xa xb xc : Nat} {xz : Int} {x : Int} (kt : x ≤ 0 → Gx mt d M σ (M xb) ls st r) (kf : ¬ x ≤ 0 → Gx mt d M σ cs ls st r) : Gx mt d M σ ((37, 5, xb, xc, xz) :: cs) ls (vI x :: st) r := by
  by_cases h : x ≤ 0
  · exact Gx.one (by simp [step, oN, s_br, cmpB, h]) (kt h)
  · exact Gx.one (by simp [step, oN, s_br, cmpB, h]) (kf (by simpa using h))
theorem go_ifnull {mt : Nat → Nat × (Nat → List LI)} {d : Nat} {M : Nat → List LI} {σ : St} {cs : List LI} {ls : Ls} {st : List Vl} {r : St × List Vl} {xa xb xc : Nat} {xz : Int} {t : Nat} {q : Option Nat} (kt : q = none → Gx mt d M σ (M xb) ls st r) (kf : ∀ a, q = some a → Gx mt d M σ cs ls st r) : Gx mt d M σ ((38, xa, xb, xc, xz) :: cs) ls (vR t q :: st) r := by
  cases q with
  | none => exact Gx.one (by simp [step, oN, s_br]) (kt rfl)
  | some a => exact Gx.one (by simp [step, oN, s_br]) (kf a rfl)
theorem go_ifnonnull {mt : Nat → Nat × (Nat → List LI)} {d : Nat} {M : Nat → List LI} {σ : St} {cs : List LI} {ls : Ls} {st : List Vl} {r : St × List Vl} {xa xb xc : Nat} {xz : Int} {t : Nat} {q : Option Nat} (kt : ∀ a, q = some a → Gx mt d M σ (M xb) ls st r) (kf : q = none → Gx mt d M σ cs ls st r) : Gx mt d M σ ((39, xa, xb, xc, xz) :: cs) ls (vR t q :: st) r := by
  cases q with
  | none => exact Gx.one (by simp [step, oN, s_br]) (kf rfl)
  | some a => exact Gx.one (by simp [step, oN, s_br]) (kt a rfl)
theorem go_swIn {mt : Nat → Nat × (Nat → List LI)} {d : Nat} {M : Nat → List LI} {σ : St} {cs : List LI} {ls : Ls} {st : List Vl} {r : St × List Vl} {xa xb xc : Nat} {xz : Int} {x : Int} (h : 0 ≤ x ∧ x < xa) (k : Gx mt d M σ (M (100000 + x.toNat)) ls st r) : Gx mt d M σ ((41, xa, xb, xc, xz) :: cs) ls (vI x :: st) r := Gx.one (by simp [step, oN, s_br, h.1, h.2]) k
theorem go_swOut {mt : Nat → Nat × (Nat → List LI)} {d : Nat} {M : Nat → List LI} {σ : St} {cs : List LI} {ls : Ls} {st : List Vl} {r : St × List Vl} {xa xb xc : Nat} {xz : Int} {x : Int} (h : ¬ (0 ≤ x ∧ x < xa)) (k : Gx mt d M σ (M xb) ls st r) : Gx mt d M σ ((41, xa, xb, xc, xz) :: cs) ls (vI x :: st) r := Gx.one (by simp only [step, s_br, oN]; rw [if_neg h]; rfl) k
theorem go_retI {mt : Nat → Nat × (Nat → List LI)} {d : Nat} {M : Nat → List LI} {σ : St} {cs : List LI} {ls : Ls} {st : List Vl} {xa xb xc : Nat} {xz : Int} {v : Int} : Gx mt d M σ ((71, 0, xb, xc, xz) :: cs) ls [vI v] (σ, [vI v]) := Gx.ret rfl
theorem go_retZ {mt : Nat → Nat × (Nat → List LI)} {d : Nat} {M : Nat → List LI} {σ : St} {cs : List LI} {ls : Ls} {st : List Vl} {xa xb xc : Nat} {xz : Int} {v : Int} (h : 0 ≤ v ∧ v ≤ 1) : Gx mt d M σ ((71, 1, xb, xc, xz) :: cs) ls [vI v] (σ, [vI v]) := Gx.ret (show (if (1 : Nat) = 0 ∨ (0 ≤ v ∧ v ≤ 1) then (some (.inr (.inr [vI v])) : Option Out) else none) = _ from if_pos (Or.inr h))
theorem go_retL {mt : Nat → Nat × (Nat → List LI)} {d : Nat} {M : Nat → List LI} {σ : St} {cs : List LI} {ls : Ls} {st : List Vl} {xa xb xc : Nat} {xz : Int} {v : BitVec 64} : Gx mt d M σ ((72, xa, xb, xc, xz) :: cs) ls [vL v] (σ, [vL v]) := Gx.ret rfl
theorem go_retA {mt : Nat → Nat × (Nat → List LI)} {d : Nat} {M : Nat → List LI} {σ : St} {cs : List LI} {ls : Ls} {st : List Vl} {xa xb xc : Nat} {xz : Int} {t : Nat} {v : Option Nat} : Gx mt d M σ ((73, xa, xb, xc, xz) :: cs) ls [vR t v] (σ, [vR t v]) := Gx.ret rfl
theorem go_retV {mt : Nat → Nat × (Nat → List LI)} {d : Nat} {M : Nat → List LI} {σ : St} {cs : List LI} {ls : Ls} {st : List Vl} {xa xb xc : Nat} {xz : Int} : Gx mt d M σ ((74, xa, xb, xc, xz) :: cs) ls [] (σ, []) := Gx.ret rfl
theorem go_max {mt : Nat → Nat × (Nat → List LI)} {d : Nat} {M : Nat → List LI} {σ : St} {cs : List LI} {ls : Ls} {st : List Vl} {r : St × List Vl} {xa xb xc : Nat} {xz : Int} {x y : Int} (hw : decide (stW st ≤ 8) = true) (k : Gx mt d M σ cs ls (vI (iMax x y) :: st) r) : Gx mt d M σ ((75, xa, xb, xc, xz) :: cs) ls (vI y :: vI x :: st) r := Gx.one (if_pos (of_decide_eq_true hw)) k
theorem go_min {mt : Nat → Nat × (Nat → List LI)} {d : Nat} {M : Nat → List LI} {σ : St} {cs : List LI} {ls : Ls} {st : List Vl} {r : St × List Vl} {xa xb xc : Nat} {xz : Int} {x y : Int} (hw : decide (stW st ≤ 8) = true) (k : Gx mt d M σ cs ls (vI (iMin x y) :: st) r) : Gx mt d M σ ((76, xa, xb, xc, xz) :: cs) ls (vI y :: vI x :: st) r := Gx.one (if_pos (of_decide_eq_true hw)) k
theorem go_callS {mt : Nat → Nat × (Nat → List LI)} {d : Nat} {M : Nat → List LI} {σ : St} {cs : List LI} {ls : Ls} {st : List Vl} {r : St × List Vl} {xa xb xc : Nat} {xz : Int} {d' : Nat} {σ' : St} {as st' q : List Vl} (e : takeA xb st = some (as, st')) (hw : (decide (stW st' ≤ 8) && decide ((2 * stW as : Int) ≤ xz) && decide (xz % 2 = 0)) = true) (hd : decide (d' < d) = true) (hc : Ex mt d' xa σ as (σ', q)) (k : Gx mt d M σ' cs ls (q ++ st') r) : Gx mt d M σ ((67, xa, xb, xc, xz) :: cs) ls st r := by
  simp only [Bool.and_eq_true, decide_eq_true_eq] at hw
  exact Gx.call (by simp only [step]; simp [s_inv, e, hw.1.1, hw.1.2, hw.2]) (of_decide_eq_true hd) hc k
theorem go_callV {mt : Nat → Nat × (Nat → List LI)} {d : Nat} {M : Nat → List LI} {σ : St} {cs : List LI} {ls : Ls} {st : List Vl} {r : St × List Vl} {xa xb xc : Nat} {xz : Int} {d' : Nat} {a : Nat} {σ' : St} {as st' q : List Vl} (e : takeA xb st = some (vR xc (some a) :: as, st')) (hw : (decide (stW st' ≤ 8) && decide ((2 * stW (vR xc (some a) :: as) : Int) ≤ xz) && !decide (xz % 2 = 0)) = true) (hd : decide (d' < d) = true) (hc : Ex mt d' xa σ (vR xc (some a) :: as) (σ', q)) (k : Gx mt d M σ' cs ls (q ++ st') r) : Gx mt d M σ ((67, xa, xb, xc, xz) :: cs) ls st r := by
  simp only [Bool.and_eq_true, Bool.not_eq_true', decide_eq_true_eq, decide_eq_false_iff_not] at hw
  exact Gx.call (by simp only [step]; simp [s_inv, e, hw.1.1, hw.1.2, hw.2]) (of_decide_eq_true hd) hc k
end
section
def b_X0_init_0 : List LI := [(3, 0, 0, 0, 0), (68, 0, 0, 0, 0), (3, 0, 0, 0, 0), (7, 0, 0, 0, 16), (63, 14, 0, 0, 0), (50, 0, 0, 14, 0), (3, 0, 0, 0, 0), (7, 0, 0, 0, 16), (63, 14, 0, 0, 0), (50, 0, 1, 14, 0), (74, 0, 0, 0, 0)]
def cd_X0_init : Nat → List LI := fun pc => if pc = 0 then b_X0_init_0 else []
def b_X0_lay_0 : List LI := [(3, 0, 0, 0, 0), (45, 0, 2, 0, 0), (7, 0, 0, 0, 16), (36, 2, 11, 0, 0), (7, 0, 0, 0, (-1)), (71, 0, 0, 0, 0)]
def b_X0_lay_11 : List LI := [(3, 0, 0, 0, 0), (47, 0, 0, 14, 0), (3, 0, 0, 0, 0), (45, 0, 2, 0, 0), (1, 1, 0, 0, 0), (57, 0, 0, 0, 0), (3, 0, 0, 0, 0), (47, 0, 1, 14, 0), (3, 0, 0, 0, 0), (45, 0, 2, 0, 0), (1, 2, 0, 0, 0), (57, 0, 0, 0, 0), (3, 0, 0, 0, 0), (42, 0, 0, 0, 0), (45, 0, 2, 0, 0), (7, 0, 0, 0, 1), (10, 0, 0, 0, 0), (48, 0, 2, 0, 0), (3, 0, 0, 0, 0), (45, 0, 2, 0, 0), (7, 0, 0, 0, 1), (11, 0, 0, 0, 0), (71, 0, 0, 0, 0)]
def cd_X0_lay : Nat → List LI := fun pc => if pc = 0 then b_X0_lay_0 else if pc = 11 then b_X0_lay_11 else []
def b_X0_areThere_0 : List LI := [(1, 1, 0, 0, 0), (7, 0, 0, 0, 1), (3, 0, 0, 0, 0), (45, 0, 2, 0, 0), (16, 0, 0, 0, 0), (7, 0, 0, 0, 1), (11, 0, 0, 0, 0), (67, 189, 2, 0, 4), (71, 1, 0, 0, 0)]
def cd_X0_areThere : Nat → List LI := fun pc => if pc = 0 then b_X0_areThere_0 else []
def b_X0_knownWith_0 : List LI := [(1, 1, 0, 0, 0), (4, 2, 0, 0, 0), (7, 0, 0, 0, 0), (4, 3, 0, 0, 0), (0, 4, 0, 0, 0)]
def b_X0_knownWith_4 : List LI := [(1, 3, 0, 0, 0), (3, 0, 0, 0, 0), (45, 0, 2, 0, 0), (36, 3, 41, 0, 0), (1, 1, 0, 0, 0), (1, 3, 0, 0, 0), (67, 194, 2, 0, 4), (37, 1, 35, 0, 0), (3, 0, 0, 0, 0), (1, 3, 0, 0, 0), (1, 1, 0, 0, 0), (67, 4, 3, 0, 7), (37, 1, 35, 0, 0), (1, 2, 0, 0, 0), (7, 0, 0, 0, 1), (1, 3, 0, 0, 0), (16, 0, 0, 0, 0), (20, 0, 0, 0, 0), (4, 2, 0, 0, 0), (0, 35, 0, 0, 0)]
def b_X0_knownWith_35 : List LI := [(35, 3, 0, 0, 1), (40, 4, 0, 0, 0)]
def b_X0_knownWith_41 : List LI := [(1, 2, 0, 0, 0), (71, 0, 0, 0, 0)]
def cd_X0_knownWith : Nat → List LI := fun pc => if pc = 0 then b_X0_knownWith_0 else if pc = 4 then b_X0_knownWith_4 else if pc = 35 then b_X0_knownWith_35 else if pc = 41 then b_X0_knownWith_41 else []
def b_X0_isOnRing_0 : List LI := [(3, 0, 0, 0, 0), (3, 0, 0, 0, 0), (47, 0, 0, 14, 0), (1, 1, 0, 0, 0), (52, 0, 0, 0, 0), (67, 5, 2, 0, 5), (4, 3, 0, 0, 0), (7, 0, 0, 0, 0), (4, 4, 0, 0, 0), (0, 14, 0, 0, 0)]
def b_X0_isOnRing_14 : List LI := [(1, 4, 0, 0, 0), (7, 0, 0, 0, 8), (36, 3, 101, 0, 0), (7, 0, 0, 0, 0), (4, 5, 0, 0, 0), (0, 24, 0, 0, 0)]
def b_X0_isOnRing_24 : List LI := [(1, 5, 0, 0, 0), (3, 0, 0, 0, 0), (45, 0, 2, 0, 0), (36, 3, 95, 0, 0), (1, 5, 0, 0, 0), (1, 1, 0, 0, 0), (36, 0, 89, 0, 0), (1, 2, 0, 0, 0), (1, 5, 0, 0, 0), (67, 194, 2, 0, 4), (37, 1, 89, 0, 0), (3, 0, 0, 0, 0), (3, 0, 0, 0, 0), (47, 0, 0, 14, 0), (1, 5, 0, 0, 0), (52, 0, 0, 0, 0), (67, 5, 2, 0, 5), (3, 0, 0, 0, 0), (3, 0, 0, 0, 0), (47, 0, 1, 14, 0), (1, 5, 0, 0, 0), (52, 0, 0, 0, 0), (67, 5, 2, 0, 5), (20, 0, 0, 0, 0), (4, 6, 0, 0, 0), (1, 3, 0, 0, 0), (1, 3, 0, 0, 0), (1, 6, 0, 0, 0), (19, 0, 0, 0, 0), (37, 0, 86, 0, 0), (1, 6, 0, 0, 0), (40, 87, 0, 0, 0)]
def b_X0_isOnRing_86 : List LI := [(7, 0, 0, 0, 0), (0, 87, 0, 0, 0)]
def b_X0_isOnRing_87 : List LI := [(20, 0, 0, 0, 0), (4, 3, 0, 0, 0), (0, 89, 0, 0, 0)]
def b_X0_isOnRing_89 : List LI := [(35, 5, 0, 0, 1), (40, 24, 0, 0, 0)]
def b_X0_isOnRing_95 : List LI := [(35, 4, 0, 0, 1), (40, 14, 0, 0, 0)]
def b_X0_isOnRing_101 : List LI := [(1, 3, 0, 0, 0), (3, 0, 0, 0, 0), (47, 0, 1, 14, 0), (1, 1, 0, 0, 0), (52, 0, 0, 0, 0), (67, 194, 2, 0, 4), (71, 1, 0, 0, 0)]
def cd_X0_isOnRing : Nat → List LI := fun pc => if pc = 0 then b_X0_isOnRing_0 else if pc = 14 then b_X0_isOnRing_14 else if pc = 24 then b_X0_isOnRing_24 else if pc = 86 then b_X0_isOnRing_86 else if pc = 87 then b_X0_isOnRing_87 else if pc = 89 then b_X0_isOnRing_89 else if pc = 95 then b_X0_isOnRing_95 else if pc = 101 then b_X0_isOnRing_101 else []
def b_X0_groupOf_0 : List LI := [(3, 0, 0, 0, 0), (45, 0, 3, 0, 0), (1, 1, 0, 0, 0), (67, 194, 2, 0, 4), (37, 0, 18, 0, 0), (3, 0, 0, 0, 0), (45, 0, 3, 0, 0), (40, 21, 0, 0, 0)]
def b_X0_groupOf_18 : List LI := [(7, 0, 0, 0, 1), (1, 1, 0, 0, 0), (16, 0, 0, 0, 0), (0, 21, 0, 0, 0)]
def b_X0_groupOf_21 : List LI := [(71, 0, 0, 0, 0)]
def cd_X0_groupOf : Nat → List LI := fun pc => if pc = 0 then b_X0_groupOf_0 else if pc = 18 then b_X0_groupOf_18 else if pc = 21 then b_X0_groupOf_21 else []
def b_X0_fewestTaps_0 : List LI := [(3, 0, 0, 0, 0), (1, 1, 0, 0, 0), (67, 3, 2, 0, 5), (4, 2, 0, 0, 0), (7, 0, 0, 0, 0), (4, 3, 0, 0, 0), (7, 0, 0, 0, 0), (4, 4, 0, 0, 0), (0, 11, 0, 0, 0)]
def b_X0_fewestTaps_11 : List LI := [(1, 4, 0, 0, 0), (3, 0, 0, 0, 0), (45, 0, 2, 0, 0), (36, 3, 55, 0, 0), (1, 2, 0, 0, 0), (1, 4, 0, 0, 0), (67, 194, 2, 0, 4), (37, 0, 49, 0, 0), (3, 0, 0, 0, 0), (1, 3, 0, 0, 0), (67, 3, 2, 0, 5), (1, 4, 0, 0, 0), (67, 194, 2, 0, 4), (37, 1, 49, 0, 0), (1, 3, 0, 0, 0), (7, 0, 0, 0, 1), (1, 4, 0, 0, 0), (16, 0, 0, 0, 0), (20, 0, 0, 0, 0), (4, 3, 0, 0, 0), (0, 49, 0, 0, 0)]
def b_X0_fewestTaps_49 : List LI := [(35, 4, 0, 0, 1), (40, 11, 0, 0, 0)]
def b_X0_fewestTaps_55 : List LI := [(1, 3, 0, 0, 0), (71, 0, 0, 0, 0)]
def cd_X0_fewestTaps : Nat → List LI := fun pc => if pc = 0 then b_X0_fewestTaps_0 else if pc = 11 then b_X0_fewestTaps_11 else if pc = 49 then b_X0_fewestTaps_49 else if pc = 55 then b_X0_fewestTaps_55 else []
def b_X1_init_0 : List LI := [(3, 0, 0, 0, 0), (68, 0, 0, 0, 0), (3, 0, 0, 0, 0), (7, 0, 0, 0, 8), (63, 14, 0, 0, 0), (50, 1, 0, 14, 0), (3, 0, 0, 0, 0), (7, 0, 0, 0, 8), (63, 14, 0, 0, 0), (50, 1, 1, 14, 0), (3, 0, 0, 0, 0), (7, 0, 0, 0, 13), (63, 14, 0, 0, 0), (50, 1, 2, 14, 0), (3, 0, 0, 0, 0), (7, 0, 0, 0, 64), (63, 14, 0, 0, 0), (50, 1, 5, 14, 0), (3, 0, 0, 0, 0), (7, 0, 0, 0, 64), (63, 14, 0, 0, 0), (50, 1, 6, 14, 0), (74, 0, 0, 0, 0)]
def cd_X1_init : Nat → List LI := fun pc => if pc = 0 then b_X1_init_0 else []
def b_X1_setRoom_0 : List LI := [(3, 0, 0, 0, 0), (47, 1, 0, 14, 0), (1, 1, 0, 0, 0), (52, 0, 0, 0, 0), (4, 3, 0, 0, 0), (3, 0, 0, 0, 0), (47, 1, 0, 14, 0), (1, 1, 0, 0, 0), (1, 2, 0, 0, 0), (57, 0, 0, 0, 0), (1, 3, 0, 0, 0), (71, 0, 0, 0, 0)]
def cd_X1_setRoom : Nat → List LI := fun pc => if pc = 0 then b_X1_setRoom_0 else []
def b_X1_choose_0 : List LI := [(3, 0, 0, 0, 0), (7, 0, 0, 0, 0), (48, 1, 3, 0, 0), (3, 0, 0, 0, 0), (7, 0, 0, 0, 0), (48, 1, 4, 0, 0), (3, 0, 0, 0, 0), (47, 1, 0, 14, 0), (7, 0, 0, 0, 0), (3, 0, 0, 0, 0), (47, 1, 1, 14, 0), (7, 0, 0, 0, 0), (7, 0, 0, 0, 8), (69, 0, 0, 0, 0), (3, 0, 0, 0, 0), (47, 1, 2, 14, 0), (7, 0, 0, 0, 0), (67, 315, 2, 0, 4), (1, 2, 0, 0, 0), (7, 0, 0, 0, 12), (76, 0, 0, 0, 0), (7, 0, 0, 0, 1), (11, 0, 0, 0, 0), (4, 3, 0, 0, 0), (0, 42, 0, 0, 0)]
def b_X1_choose_42 : List LI := [(1, 3, 0, 0, 0), (37, 2, 73, 0, 0), (3, 0, 0, 0, 0), (47, 1, 2, 14, 0), (1, 3, 0, 0, 0), (3, 0, 0, 0, 0), (47, 1, 2, 14, 0), (1, 3, 0, 0, 0), (7, 0, 0, 0, 1), (10, 0, 0, 0, 0), (52, 0, 0, 0, 0), (3, 1, 0, 0, 0), (1, 3, 0, 0, 0), (56, 18, 0, 10, 0), (45, 10, 4, 0, 0), (10, 0, 0, 0, 0), (57, 0, 0, 0, 0), (35, 3, 0, 0, (-1)), (40, 42, 0, 0, 0)]
def b_X1_choose_73 : List LI := [(3, 0, 0, 0, 0), (3, 1, 0, 0, 0), (1, 2, 0, 0, 0), (7, 0, 0, 0, 12), (76, 0, 0, 0, 0), (7, 0, 0, 0, 0), (7, 0, 0, 0, 0), (7, 0, 0, 0, 0), (67, 10, 6, 1, 13), (74, 0, 0, 0, 0)]
def cd_X1_choose : Nat → List LI := fun pc => if pc = 0 then b_X1_choose_0 else if pc = 42 then b_X1_choose_42 else if pc = 73 then b_X1_choose_73 else []
def b_X1_chooseFrom_0 : List LI := [(1, 3, 0, 0, 0), (1, 2, 0, 0, 0), (36, 2, 14, 0, 0), (3, 0, 0, 0, 0), (1, 4, 0, 0, 0), (1, 5, 0, 0, 0), (67, 13, 3, 1, 7), (74, 0, 0, 0, 0)]
def b_X1_chooseFrom_14 : List LI := [(1, 5, 0, 0, 0), (3, 0, 0, 0, 0), (47, 1, 2, 14, 0), (1, 3, 0, 0, 0), (52, 0, 0, 0, 0), (10, 0, 0, 0, 0), (3, 0, 0, 0, 0), (45, 1, 4, 0, 0), (36, 3, 31, 0, 0), (74, 0, 0, 0, 0)]
def b_X1_chooseFrom_31 : List LI := [(3, 1, 0, 0, 0), (1, 3, 0, 0, 0), (56, 18, 0, 10, 0), (6, 6, 0, 0, 0), (3, 6, 0, 0, 0), (45, 10, 4, 0, 0), (37, 5, 90, 0, 0), (3, 0, 0, 0, 0), (3, 6, 0, 0, 0), (67, 11, 2, 1, 5), (37, 0, 90, 0, 0), (3, 0, 0, 0, 0), (3, 6, 0, 0, 0), (7, 0, 0, 0, (-1)), (67, 12, 3, 1, 7), (3, 0, 0, 0, 0), (3, 1, 0, 0, 0), (1, 2, 0, 0, 0), (1, 3, 0, 0, 0), (7, 0, 0, 0, 1), (10, 0, 0, 0, 0), (1, 4, 0, 0, 0), (7, 0, 0, 0, 1), (1, 3, 0, 0, 0), (16, 0, 0, 0, 0), (20, 0, 0, 0, 0), (1, 5, 0, 0, 0), (3, 6, 0, 0, 0), (45, 10, 4, 0, 0), (10, 0, 0, 0, 0), (67, 10, 6, 1, 13), (3, 0, 0, 0, 0), (3, 6, 0, 0, 0), (7, 0, 0, 0, 1), (67, 12, 3, 1, 7), (0, 90, 0, 0, 0)]
def b_X1_chooseFrom_90 : List LI := [(3, 0, 0, 0, 0), (3, 1, 0, 0, 0), (1, 2, 0, 0, 0), (1, 3, 0, 0, 0), (7, 0, 0, 0, 1), (10, 0, 0, 0, 0), (1, 4, 0, 0, 0), (1, 5, 0, 0, 0), (67, 10, 6, 1, 13), (74, 0, 0, 0, 0)]
def cd_X1_chooseFrom : Nat → List LI := fun pc => if pc = 0 then b_X1_chooseFrom_0 else if pc = 14 then b_X1_chooseFrom_14 else if pc = 31 then b_X1_chooseFrom_31 else if pc = 90 then b_X1_chooseFrom_90 else []
def b_X1_hasRoomFor_0 : List LI := [(7, 0, 0, 0, 0), (4, 2, 0, 0, 0), (0, 2, 0, 0, 0)]
def b_X1_hasRoomFor_2 : List LI := [(1, 2, 0, 0, 0), (7, 0, 0, 0, 8), (36, 3, 31, 0, 0), (3, 1, 0, 0, 0), (47, 10, 3, 14, 0), (1, 2, 0, 0, 0), (52, 0, 0, 0, 0), (3, 0, 0, 0, 0), (47, 1, 1, 14, 0), (1, 2, 0, 0, 0), (52, 0, 0, 0, 0), (36, 5, 25, 0, 0), (7, 0, 0, 0, 0), (71, 1, 0, 0, 0)]
def b_X1_hasRoomFor_25 : List LI := [(35, 2, 0, 0, 1), (40, 2, 0, 0, 0)]
def b_X1_hasRoomFor_31 : List LI := [(7, 0, 0, 0, 1), (71, 1, 0, 0, 0)]
def cd_X1_hasRoomFor : Nat → List LI := fun pc => if pc = 0 then b_X1_hasRoomFor_0 else if pc = 2 then b_X1_hasRoomFor_2 else if pc = 25 then b_X1_hasRoomFor_25 else if pc = 31 then b_X1_hasRoomFor_31 else []
def b_X1_changeRoom_0 : List LI := [(7, 0, 0, 0, 0), (4, 3, 0, 0, 0), (0, 2, 0, 0, 0)]
def b_X1_changeRoom_2 : List LI := [(1, 3, 0, 0, 0), (7, 0, 0, 0, 8), (36, 3, 31, 0, 0), (3, 0, 0, 0, 0), (47, 1, 1, 14, 0), (1, 3, 0, 0, 0), (43, 0, 0, 0, 0), (52, 0, 0, 0, 0), (1, 2, 0, 0, 0), (3, 1, 0, 0, 0), (47, 10, 3, 14, 0), (1, 3, 0, 0, 0), (52, 0, 0, 0, 0), (12, 0, 0, 0, 0), (10, 0, 0, 0, 0), (57, 0, 0, 0, 0), (35, 3, 0, 0, 1), (40, 2, 0, 0, 0)]
def b_X1_changeRoom_31 : List LI := [(74, 0, 0, 0, 0)]
def cd_X1_changeRoom : Nat → List LI := fun pc => if pc = 0 then b_X1_changeRoom_0 else if pc = 2 then b_X1_changeRoom_2 else if pc = 31 then b_X1_changeRoom_31 else []
def b_X1_consider_0 : List LI := [(3, 0, 0, 0, 0), (45, 1, 3, 0, 0), (67, 312, 1, 0, 2), (1, 1, 0, 0, 0), (67, 312, 1, 0, 2), (11, 0, 0, 0, 0), (4, 3, 0, 0, 0), (1, 2, 0, 0, 0), (3, 0, 0, 0, 0), (45, 1, 4, 0, 0), (36, 4, 45, 0, 0), (1, 2, 0, 0, 0), (3, 0, 0, 0, 0), (45, 1, 4, 0, 0), (36, 1, 55, 0, 0), (1, 3, 0, 0, 0), (37, 4, 45, 0, 0), (1, 3, 0, 0, 0), (37, 1, 55, 0, 0), (1, 1, 0, 0, 0), (3, 0, 0, 0, 0), (45, 1, 3, 0, 0), (36, 3, 55, 0, 0), (0, 45, 0, 0, 0)]
def b_X1_consider_45 : List LI := [(3, 0, 0, 0, 0), (1, 1, 0, 0, 0), (48, 1, 3, 0, 0), (3, 0, 0, 0, 0), (1, 2, 0, 0, 0), (48, 1, 4, 0, 0), (0, 55, 0, 0, 0)]
def b_X1_consider_55 : List LI := [(74, 0, 0, 0, 0)]
def cd_X1_consider : Nat → List LI := fun pc => if pc = 0 then b_X1_consider_0 else if pc = 45 then b_X1_consider_45 else if pc = 55 then b_X1_consider_55 else []
def b_X1_tellCount_0 : List LI := [(1, 3, 0, 0, 0), (37, 0, 11, 0, 0), (3, 0, 0, 0, 0), (47, 1, 6, 14, 0), (40, 15, 0, 0, 0)]
def b_X1_tellCount_11 : List LI := [(3, 0, 0, 0, 0), (47, 1, 5, 14, 0), (0, 15, 0, 0, 0)]
def b_X1_tellCount_15 : List LI := [(6, 5, 0, 0, 0), (3, 5, 0, 0, 0), (7, 0, 0, 0, 8), (1, 1, 0, 0, 0), (12, 0, 0, 0, 0), (1, 2, 0, 0, 0), (10, 0, 0, 0, 0), (52, 0, 0, 0, 0), (4, 6, 0, 0, 0), (3, 5, 0, 0, 0), (7, 0, 0, 0, 8), (1, 1, 0, 0, 0), (12, 0, 0, 0, 0), (1, 2, 0, 0, 0), (10, 0, 0, 0, 0), (1, 4, 0, 0, 0), (57, 0, 0, 0, 0), (1, 6, 0, 0, 0), (71, 0, 0, 0, 0)]
def cd_X1_tellCount : Nat → List LI := fun pc => if pc = 0 then b_X1_tellCount_0 else if pc = 11 then b_X1_tellCount_11 else if pc = 15 then b_X1_tellCount_15 else []
def b_X1_fewestLiars_0 : List LI := [(7, 0, 0, 0, 255), (4, 1, 0, 0, 0), (7, 0, 0, 0, 0), (4, 2, 0, 0, 0), (0, 6, 0, 0, 0)]
def b_X1_fewestLiars_6 : List LI := [(1, 2, 0, 0, 0), (7, 0, 0, 0, 255), (36, 4, 40, 0, 0), (1, 2, 0, 0, 0), (67, 312, 1, 0, 2), (1, 1, 0, 0, 0), (67, 312, 1, 0, 2), (36, 3, 34, 0, 0), (3, 0, 0, 0, 0), (1, 2, 0, 0, 0), (67, 16, 2, 1, 5), (37, 0, 34, 0, 0), (1, 2, 0, 0, 0), (4, 1, 0, 0, 0), (0, 34, 0, 0, 0)]
def b_X1_fewestLiars_34 : List LI := [(35, 2, 0, 0, 1), (40, 6, 0, 0, 0)]
def b_X1_fewestLiars_40 : List LI := [(1, 1, 0, 0, 0), (71, 0, 0, 0, 0)]
def cd_X1_fewestLiars : Nat → List LI := fun pc => if pc = 0 then b_X1_fewestLiars_0 else if pc = 6 then b_X1_fewestLiars_6 else if pc = 34 then b_X1_fewestLiars_34 else if pc = 40 then b_X1_fewestLiars_40 else []
def b_X1_explain_0 : List LI := [(7, 0, 0, 0, 0), (4, 2, 0, 0, 0), (0, 2, 0, 0, 0)]
def b_X1_explain_2 : List LI := [(1, 2, 0, 0, 0), (7, 0, 0, 0, 64), (36, 3, 53, 0, 0), (3, 0, 0, 0, 0), (47, 1, 5, 14, 0), (1, 2, 0, 0, 0), (52, 0, 0, 0, 0), (3, 0, 0, 0, 0), (47, 1, 6, 14, 0), (1, 2, 0, 0, 0), (52, 0, 0, 0, 0), (36, 0, 47, 0, 0), (1, 1, 0, 0, 0), (1, 2, 0, 0, 0), (7, 0, 0, 0, 8), (13, 0, 0, 0, 0), (67, 194, 2, 0, 4), (37, 1, 47, 0, 0), (1, 1, 0, 0, 0), (1, 2, 0, 0, 0), (7, 0, 0, 0, 8), (14, 0, 0, 0, 0), (67, 194, 2, 0, 4), (37, 1, 47, 0, 0), (7, 0, 0, 0, 0), (71, 1, 0, 0, 0)]
def b_X1_explain_47 : List LI := [(35, 2, 0, 0, 1), (40, 2, 0, 0, 0)]
def b_X1_explain_53 : List LI := [(7, 0, 0, 0, 1), (71, 1, 0, 0, 0)]
def cd_X1_explain : Nat → List LI := fun pc => if pc = 0 then b_X1_explain_0 else if pc = 2 then b_X1_explain_2 else if pc = 47 then b_X1_explain_47 else if pc = 53 then b_X1_explain_53 else []
def b_X2_init_0 : List LI := [(3, 0, 0, 0, 0), (68, 0, 0, 0, 0), (3, 0, 0, 0, 0), (7, 0, 0, 0, 20), (7, 0, 0, 0, 0), (65, 0, 0, 0, 0), (50, 2, 0, 19, 0), (3, 0, 0, 0, 0), (7, 0, 0, 0, 8), (63, 15, 0, 0, 0), (50, 2, 1, 15, 0), (74, 0, 0, 0, 0)]
def cd_X2_init : Nat → List LI := fun pc => if pc = 0 then b_X2_init_0 else []
def b_X2_relationOf_0 : List LI := [(3, 0, 0, 0, 0), (7, 0, 0, 0, 0), (48, 2, 2, 0, 0), (7, 0, 0, 0, 0), (4, 2, 0, 0, 0), (0, 7, 0, 0, 0)]
def b_X2_relationOf_7 : List LI := [(1, 2, 0, 0, 0), (3, 1, 0, 0, 0), (45, 9, 3, 0, 0), (36, 3, 27, 0, 0), (3, 0, 0, 0, 0), (3, 1, 0, 0, 0), (1, 2, 0, 0, 0), (67, 19, 3, 2, 7), (35, 2, 0, 0, 1), (40, 7, 0, 0, 0)]
def b_X2_relationOf_27 : List LI := [(3, 0, 0, 0, 0), (45, 2, 2, 0, 0), (37, 1, 39, 0, 0), (3, 0, 0, 0, 0), (67, 20, 1, 2, 3), (44, 0, 0, 0, 0), (0, 39, 0, 0, 0)]
def b_X2_relationOf_39 : List LI := [(3, 0, 0, 0, 0), (47, 2, 0, 19, 0), (7, 0, 0, 0, 0), (56, 19, 0, 15, 0), (6, 2, 0, 0, 0), (3, 0, 0, 0, 0), (47, 2, 0, 19, 0), (7, 0, 0, 0, 0), (7, 0, 0, 0, 0), (63, 15, 0, 0, 0), (61, 19, 0, 15, 0), (3, 2, 0, 0, 0), (73, 0, 0, 0, 0)]
def cd_X2_relationOf : Nat → List LI := fun pc => if pc = 0 then b_X2_relationOf_0 else if pc = 7 then b_X2_relationOf_7 else if pc = 27 then b_X2_relationOf_27 else if pc = 39 then b_X2_relationOf_39 else []
def b_X2_takeNode_0 : List LI := [(3, 1, 0, 0, 0), (47, 9, 0, 14, 0), (1, 2, 0, 0, 0), (52, 0, 0, 0, 0), (4, 3, 0, 0, 0), (1, 3, 0, 0, 0), (7, 0, 0, 0, 5), (36, 1, 52, 0, 0), (3, 0, 0, 0, 0), (45, 2, 2, 0, 0), (37, 5, 106, 0, 0), (3, 1, 0, 0, 0), (47, 9, 0, 14, 0), (3, 1, 0, 0, 0), (47, 9, 1, 14, 0), (1, 2, 0, 0, 0), (52, 0, 0, 0, 0), (52, 0, 0, 0, 0), (7, 0, 0, 0, 5), (36, 0, 106, 0, 0), (3, 0, 0, 0, 0), (3, 0, 0, 0, 0), (47, 2, 0, 19, 0), (3, 0, 0, 0, 0), (45, 2, 2, 0, 0), (7, 0, 0, 0, 1), (11, 0, 0, 0, 0), (56, 19, 0, 15, 0), (67, 27, 2, 2, 5), (40, 106, 0, 0, 0)]
def b_X2_takeNode_52 : List LI := [(1, 3, 0, 0, 0), (7, 0, 0, 0, 6), (36, 0, 64, 0, 0), (1, 3, 0, 0, 0), (7, 0, 0, 0, 7), (36, 1, 72, 0, 0), (0, 64, 0, 0, 0)]
def b_X2_takeNode_64 : List LI := [(3, 0, 0, 0, 0), (1, 3, 0, 0, 0), (67, 21, 2, 2, 5), (40, 106, 0, 0, 0)]
def b_X2_takeNode_72 : List LI := [(3, 0, 0, 0, 0), (67, 20, 1, 2, 3), (37, 0, 106, 0, 0), (3, 0, 0, 0, 0), (47, 2, 0, 19, 0), (3, 0, 0, 0, 0), (45, 2, 2, 0, 0), (7, 0, 0, 0, 1), (11, 0, 0, 0, 0), (56, 19, 0, 15, 0), (1, 3, 0, 0, 0), (3, 1, 0, 0, 0), (47, 9, 1, 14, 0), (1, 2, 0, 0, 0), (52, 0, 0, 0, 0), (3, 1, 0, 0, 0), (47, 9, 2, 14, 0), (1, 2, 0, 0, 0), (52, 0, 0, 0, 0), (67, 22, 4, 0, 8), (0, 106, 0, 0, 0)]
def b_X2_takeNode_106 : List LI := [(74, 0, 0, 0, 0)]
def cd_X2_takeNode : Nat → List LI := fun pc => if pc = 0 then b_X2_takeNode_0 else if pc = 52 then b_X2_takeNode_52 else if pc = 64 then b_X2_takeNode_64 else if pc = 72 then b_X2_takeNode_72 else if pc = 106 then b_X2_takeNode_106 else []
def b_X2_pushEmpty_0 : List LI := [(3, 0, 0, 0, 0), (45, 2, 2, 0, 0), (7, 0, 0, 0, 20), (36, 2, 11, 0, 0), (7, 0, 0, 0, 0), (71, 1, 0, 0, 0)]
def b_X2_pushEmpty_11 : List LI := [(3, 0, 0, 0, 0), (47, 2, 0, 19, 0), (3, 0, 0, 0, 0), (45, 2, 2, 0, 0), (56, 19, 0, 15, 0), (62, 0, 0, 0, 0), (7, 0, 0, 0, 4096), (36, 3, 44, 0, 0), (3, 0, 0, 0, 0), (47, 2, 0, 19, 0), (3, 0, 0, 0, 0), (45, 2, 2, 0, 0), (7, 0, 0, 0, 4096), (63, 15, 0, 0, 0), (61, 19, 0, 15, 0), (40, 57, 0, 0, 0)]
def b_X2_pushEmpty_44 : List LI := [(3, 0, 0, 0, 0), (47, 2, 0, 19, 0), (3, 0, 0, 0, 0), (45, 2, 2, 0, 0), (56, 19, 0, 15, 0), (8, 0, 0, 0, 0), (67, 314, 2, 0, 6), (0, 57, 0, 0, 0)]
def b_X2_pushEmpty_57 : List LI := [(3, 0, 0, 0, 0), (42, 0, 0, 0, 0), (45, 2, 2, 0, 0), (7, 0, 0, 0, 1), (10, 0, 0, 0, 0), (48, 2, 2, 0, 0), (7, 0, 0, 0, 1), (71, 1, 0, 0, 0)]
def cd_X2_pushEmpty : Nat → List LI := fun pc => if pc = 0 then b_X2_pushEmpty_0 else if pc = 11 then b_X2_pushEmpty_11 else if pc = 44 then b_X2_pushEmpty_44 else if pc = 57 then b_X2_pushEmpty_57 else []
def b_X2_joinTop_0 : List LI := [(3, 0, 0, 0, 0), (45, 2, 2, 0, 0), (7, 0, 0, 0, 2), (36, 3, 9, 0, 0), (74, 0, 0, 0, 0)]
def b_X2_joinTop_9 : List LI := [(3, 0, 0, 0, 0), (42, 0, 0, 0, 0), (45, 2, 2, 0, 0), (7, 0, 0, 0, 1), (11, 0, 0, 0, 0), (48, 2, 2, 0, 0), (1, 1, 0, 0, 0), (7, 0, 0, 0, 6), (36, 1, 52, 0, 0), (3, 0, 0, 0, 0), (3, 0, 0, 0, 0), (47, 2, 0, 19, 0), (3, 0, 0, 0, 0), (45, 2, 2, 0, 0), (7, 0, 0, 0, 1), (11, 0, 0, 0, 0), (56, 19, 0, 15, 0), (3, 0, 0, 0, 0), (47, 2, 0, 19, 0), (3, 0, 0, 0, 0), (45, 2, 2, 0, 0), (56, 19, 0, 15, 0), (67, 25, 3, 2, 7), (40, 75, 0, 0, 0)]
def b_X2_joinTop_52 : List LI := [(3, 0, 0, 0, 0), (47, 2, 0, 19, 0), (3, 0, 0, 0, 0), (45, 2, 2, 0, 0), (7, 0, 0, 0, 1), (11, 0, 0, 0, 0), (56, 19, 0, 15, 0), (3, 0, 0, 0, 0), (47, 2, 0, 19, 0), (3, 0, 0, 0, 0), (45, 2, 2, 0, 0), (56, 19, 0, 15, 0), (67, 24, 2, 0, 4), (0, 75, 0, 0, 0)]
def b_X2_joinTop_75 : List LI := [(74, 0, 0, 0, 0)]
def cd_X2_joinTop : Nat → List LI := fun pc => if pc = 0 then b_X2_joinTop_0 else if pc = 9 then b_X2_joinTop_9 else if pc = 52 then b_X2_joinTop_52 else if pc = 75 then b_X2_joinTop_75 else []
def b_X2_fillAtom_0 : List LI := [(1, 1, 0, 0, 0), (37, 1, 5, 0, 0), (74, 0, 0, 0, 0)]
def b_X2_fillAtom_5 : List LI := [(7, 0, 0, 0, 0), (4, 4, 0, 0, 0), (0, 8, 0, 0, 0)]
def b_X2_fillAtom_8 : List LI := [(1, 4, 0, 0, 0), (7, 0, 0, 0, 512), (36, 3, 88, 0, 0), (1, 4, 0, 0, 0), (1, 2, 0, 0, 0), (67, 196, 2, 0, 4), (1, 3, 0, 0, 0), (36, 1, 30, 0, 0), (7, 0, 0, 0, 1), (40, 31, 0, 0, 0)]
def b_X2_fillAtom_30 : List LI := [(7, 0, 0, 0, 0), (0, 31, 0, 0, 0)]
def b_X2_fillAtom_31 : List LI := [(4, 5, 0, 0, 0), (1, 1, 0, 0, 0), (7, 0, 0, 0, 4), (36, 1, 54, 0, 0), (3, 0, 0, 0, 0), (1, 4, 0, 0, 0), (1, 4, 0, 0, 0), (1, 2, 0, 0, 0), (1, 3, 0, 0, 0), (67, 197, 3, 0, 6), (67, 23, 3, 0, 6), (40, 82, 0, 0, 0)]
def b_X2_fillAtom_54 : List LI := [(1, 1, 0, 0, 0), (7, 0, 0, 0, 1), (36, 0, 74, 0, 0), (1, 5, 0, 0, 0), (1, 1, 0, 0, 0), (7, 0, 0, 0, 2), (36, 1, 70, 0, 0), (7, 0, 0, 0, 1), (40, 71, 0, 0, 0)]
def b_X2_fillAtom_70 : List LI := [(7, 0, 0, 0, 0), (0, 71, 0, 0, 0)]
def b_X2_fillAtom_71 : List LI := [(36, 1, 82, 0, 0), (0, 74, 0, 0, 0)]
def b_X2_fillAtom_74 : List LI := [(3, 0, 0, 0, 0), (1, 4, 0, 0, 0), (1, 4, 0, 0, 0), (67, 23, 3, 0, 6), (0, 82, 0, 0, 0)]
def b_X2_fillAtom_82 : List LI := [(35, 4, 0, 0, 1), (40, 8, 0, 0, 0)]
def b_X2_fillAtom_88 : List LI := [(74, 0, 0, 0, 0)]
def cd_X2_fillAtom : Nat → List LI := fun pc => if pc = 0 then b_X2_fillAtom_0 else if pc = 5 then b_X2_fillAtom_5 else if pc = 8 then b_X2_fillAtom_8 else if pc = 30 then b_X2_fillAtom_30 else if pc = 31 then b_X2_fillAtom_31 else if pc = 54 then b_X2_fillAtom_54 else if pc = 70 then b_X2_fillAtom_70 else if pc = 71 then b_X2_fillAtom_71 else if pc = 74 then b_X2_fillAtom_74 else if pc = 82 then b_X2_fillAtom_82 else if pc = 88 then b_X2_fillAtom_88 else []
def b_X2_mark_0 : List LI := [(3, 0, 0, 0, 0), (1, 1, 0, 0, 0), (7, 0, 0, 0, 8), (12, 0, 0, 0, 0), (1, 2, 0, 0, 0), (7, 0, 0, 0, 6), (17, 0, 0, 0, 0), (10, 0, 0, 0, 0), (43, 0, 0, 0, 0), (53, 0, 0, 0, 0), (8, 0, 0, 0, 1), (1, 2, 0, 0, 0), (7, 0, 0, 0, 63), (19, 0, 0, 0, 0), (28, 0, 0, 0, 0), (26, 0, 0, 0, 0), (58, 0, 0, 0, 0), (74, 0, 0, 0, 0)]
def cd_X2_mark : Nat → List LI := fun pc => if pc = 0 then b_X2_mark_0 else []
def b_X2_unite_0 : List LI := [(7, 0, 0, 0, 0), (4, 2, 0, 0, 0), (0, 2, 0, 0, 0)]
def b_X2_unite_2 : List LI := [(1, 2, 0, 0, 0), (7, 0, 0, 0, 4096), (36, 3, 24, 0, 0), (3, 0, 0, 0, 0), (1, 2, 0, 0, 0), (43, 0, 0, 0, 0), (53, 0, 0, 0, 0), (3, 1, 0, 0, 0), (1, 2, 0, 0, 0), (53, 0, 0, 0, 0), (26, 0, 0, 0, 0), (58, 0, 0, 0, 0), (35, 2, 0, 0, 1), (40, 2, 0, 0, 0)]
def b_X2_unite_24 : List LI := [(74, 0, 0, 0, 0)]
def cd_X2_unite : Nat → List LI := fun pc => if pc = 0 then b_X2_unite_0 else if pc = 2 then b_X2_unite_2 else if pc = 24 then b_X2_unite_24 else []
def b_X2_follow_0 : List LI := [(7, 0, 0, 0, 0), (4, 3, 0, 0, 0), (0, 2, 0, 0, 0)]
def b_X2_follow_2 : List LI := [(1, 3, 0, 0, 0), (7, 0, 0, 0, 4096), (36, 3, 75, 0, 0), (3, 0, 0, 0, 0), (47, 2, 1, 15, 0), (8, 0, 0, 0, 0), (67, 314, 2, 0, 6), (7, 0, 0, 0, 0), (4, 4, 0, 0, 0), (0, 20, 0, 0, 0)]
def b_X2_follow_20 : List LI := [(1, 4, 0, 0, 0), (7, 0, 0, 0, 8), (36, 3, 57, 0, 0), (3, 1, 0, 0, 0), (1, 3, 0, 0, 0), (1, 4, 0, 0, 0), (10, 0, 0, 0, 0), (53, 0, 0, 0, 0), (8, 0, 0, 0, 0), (31, 0, 0, 0, 0), (37, 0, 51, 0, 0), (3, 0, 0, 0, 0), (3, 1, 0, 0, 0), (1, 3, 0, 0, 0), (1, 4, 0, 0, 0), (10, 0, 0, 0, 0), (53, 0, 0, 0, 0), (1, 4, 0, 0, 0), (3, 2, 0, 0, 0), (67, 26, 4, 2, 11), (0, 51, 0, 0, 0)]
def b_X2_follow_51 : List LI := [(35, 4, 0, 0, 1), (40, 20, 0, 0, 0)]
def b_X2_follow_57 : List LI := [(3, 0, 0, 0, 0), (47, 2, 1, 15, 0), (7, 0, 0, 0, 0), (3, 1, 0, 0, 0), (1, 3, 0, 0, 0), (7, 0, 0, 0, 8), (70, 0, 0, 0, 0), (35, 3, 0, 0, 8), (40, 2, 0, 0, 0)]
def b_X2_follow_75 : List LI := [(74, 0, 0, 0, 0)]
def cd_X2_follow : Nat → List LI := fun pc => if pc = 0 then b_X2_follow_0 else if pc = 2 then b_X2_follow_2 else if pc = 20 then b_X2_follow_20 else if pc = 51 then b_X2_follow_51 else if pc = 57 then b_X2_follow_57 else if pc = 75 then b_X2_follow_75 else []
def b_X2_addRows_0 : List LI := [(2, 1, 0, 0, 0), (5, 5, 0, 0, 0), (2, 1, 0, 0, 0), (67, 313, 1, 0, 4), (4, 7, 0, 0, 0), (0, 9, 0, 0, 0)]
def b_X2_addRows_9 : List LI := [(1, 7, 0, 0, 0), (37, 5, 78, 0, 0), (1, 3, 0, 0, 0), (7, 0, 0, 0, 64), (12, 0, 0, 0, 0), (2, 5, 0, 0, 0), (67, 195, 1, 0, 4), (10, 0, 0, 0, 0), (7, 0, 0, 0, 8), (12, 0, 0, 0, 0), (4, 8, 0, 0, 0), (7, 0, 0, 0, 0), (4, 9, 0, 0, 0), (0, 32, 0, 0, 0)]
def b_X2_addRows_32 : List LI := [(1, 9, 0, 0, 0), (7, 0, 0, 0, 8), (36, 3, 63, 0, 0), (3, 0, 0, 0, 0), (47, 2, 1, 15, 0), (1, 9, 0, 0, 0), (43, 0, 0, 0, 0), (53, 0, 0, 0, 0), (3, 4, 0, 0, 0), (1, 8, 0, 0, 0), (1, 9, 0, 0, 0), (10, 0, 0, 0, 0), (53, 0, 0, 0, 0), (26, 0, 0, 0, 0), (58, 0, 0, 0, 0), (35, 9, 0, 0, 1), (40, 32, 0, 0, 0)]
def b_X2_addRows_63 : List LI := [(2, 5, 0, 0, 0), (2, 5, 0, 0, 0), (8, 0, 0, 0, 1), (23, 0, 0, 0, 0), (25, 0, 0, 0, 0), (5, 5, 0, 0, 0), (35, 7, 0, 0, (-1)), (40, 9, 0, 0, 0)]
def b_X2_addRows_78 : List LI := [(74, 0, 0, 0, 0)]
def cd_X2_addRows : Nat → List LI := fun pc => if pc = 0 then b_X2_addRows_0 else if pc = 9 then b_X2_addRows_9 else if pc = 32 then b_X2_addRows_32 else if pc = 63 then b_X2_addRows_63 else if pc = 78 then b_X2_addRows_78 else []
def b_X2_close_0 : List LI := [(3, 0, 0, 0, 0), (3, 1, 0, 0, 0), (67, 28, 2, 2, 5), (7, 0, 0, 0, 0), (4, 2, 0, 0, 0), (0, 7, 0, 0, 0)]
def b_X2_close_7 : List LI := [(1, 2, 0, 0, 0), (7, 0, 0, 0, 512), (36, 3, 46, 0, 0), (3, 0, 0, 0, 0), (47, 2, 1, 15, 0), (1, 2, 0, 0, 0), (7, 0, 0, 0, 6), (17, 0, 0, 0, 0), (53, 0, 0, 0, 0), (1, 2, 0, 0, 0), (7, 0, 0, 0, 63), (19, 0, 0, 0, 0), (30, 0, 0, 0, 0), (8, 0, 0, 0, 1), (25, 0, 0, 0, 0), (8, 0, 0, 0, 0), (31, 0, 0, 0, 0), (37, 0, 40, 0, 0), (3, 1, 0, 0, 0), (1, 2, 0, 0, 0), (67, 29, 2, 0, 4), (0, 40, 0, 0, 0)]
def b_X2_close_40 : List LI := [(35, 2, 0, 0, 1), (40, 7, 0, 0, 0)]
def b_X2_close_46 : List LI := [(7, 0, 0, 0, 0), (4, 2, 0, 0, 0), (0, 48, 0, 0, 0)]
def b_X2_close_48 : List LI := [(1, 2, 0, 0, 0), (7, 0, 0, 0, 512), (36, 3, 67, 0, 0), (3, 1, 0, 0, 0), (1, 2, 0, 0, 0), (1, 2, 0, 0, 0), (67, 23, 3, 0, 6), (35, 2, 0, 0, 1), (40, 48, 0, 0, 0)]
def b_X2_close_67 : List LI := [(74, 0, 0, 0, 0)]
def cd_X2_close : Nat → List LI := fun pc => if pc = 0 then b_X2_close_0 else if pc = 7 then b_X2_close_7 else if pc = 40 then b_X2_close_40 else if pc = 46 then b_X2_close_46 else if pc = 48 then b_X2_close_48 else if pc = 67 then b_X2_close_67 else []
def b_X2_sumUpOthers_0 : List LI := [(3, 0, 0, 0, 0), (47, 2, 1, 15, 0), (8, 0, 0, 0, 0), (67, 314, 2, 0, 6), (7, 0, 0, 0, 0), (4, 2, 0, 0, 0), (0, 10, 0, 0, 0)]
def b_X2_sumUpOthers_10 : List LI := [(1, 2, 0, 0, 0), (7, 0, 0, 0, 512), (36, 3, 89, 0, 0), (1, 2, 0, 0, 0), (7, 0, 0, 0, 6), (17, 0, 0, 0, 0), (4, 3, 0, 0, 0), (7, 0, 0, 0, 0), (4, 4, 0, 0, 0), (0, 25, 0, 0, 0)]
def b_X2_sumUpOthers_25 : List LI := [(1, 4, 0, 0, 0), (7, 0, 0, 0, 8), (36, 3, 83, 0, 0), (3, 1, 0, 0, 0), (1, 2, 0, 0, 0), (7, 0, 0, 0, 8), (12, 0, 0, 0, 0), (1, 4, 0, 0, 0), (10, 0, 0, 0, 0), (53, 0, 0, 0, 0), (5, 5, 0, 0, 0), (3, 0, 0, 0, 0), (47, 2, 1, 15, 0), (1, 4, 0, 0, 0), (43, 0, 0, 0, 0), (53, 0, 0, 0, 0), (1, 4, 0, 0, 0), (1, 3, 0, 0, 0), (36, 1, 73, 0, 0), (2, 5, 0, 0, 0), (8, 0, 0, 0, 1), (1, 2, 0, 0, 0), (7, 0, 0, 0, 63), (19, 0, 0, 0, 0), (28, 0, 0, 0, 0), (8, 0, 0, 0, (-1)), (27, 0, 0, 0, 0), (25, 0, 0, 0, 0), (40, 75, 0, 0, 0)]
def b_X2_sumUpOthers_73 : List LI := [(2, 5, 0, 0, 0), (0, 75, 0, 0, 0)]
def b_X2_sumUpOthers_75 : List LI := [(26, 0, 0, 0, 0), (58, 0, 0, 0, 0), (35, 4, 0, 0, 1), (40, 25, 0, 0, 0)]
def b_X2_sumUpOthers_83 : List LI := [(35, 2, 0, 0, 1), (40, 10, 0, 0, 0)]
def b_X2_sumUpOthers_89 : List LI := [(74, 0, 0, 0, 0)]
def cd_X2_sumUpOthers : Nat → List LI := fun pc => if pc = 0 then b_X2_sumUpOthers_0 else if pc = 10 then b_X2_sumUpOthers_10 else if pc = 25 then b_X2_sumUpOthers_25 else if pc = 73 then b_X2_sumUpOthers_73 else if pc = 75 then b_X2_sumUpOthers_75 else if pc = 83 then b_X2_sumUpOthers_83 else if pc = 89 then b_X2_sumUpOthers_89 else []
def b_X2_goOnBy_0 : List LI := [(1, 1, 0, 0, 0), (7, 0, 0, 0, 8), (12, 0, 0, 0, 0), (4, 2, 0, 0, 0), (3, 0, 0, 0, 0), (1, 2, 0, 0, 0), (67, 30, 2, 0, 4), (37, 0, 14, 0, 0), (74, 0, 0, 0, 0)]
def b_X2_goOnBy_14 : List LI := [(7, 0, 0, 0, 0), (4, 3, 0, 0, 0), (0, 16, 0, 0, 0)]
def b_X2_goOnBy_16 : List LI := [(1, 3, 0, 0, 0), (7, 0, 0, 0, 4096), (36, 3, 80, 0, 0), (3, 0, 0, 0, 0), (1, 3, 0, 0, 0), (1, 1, 0, 0, 0), (7, 0, 0, 0, 6), (17, 0, 0, 0, 0), (10, 0, 0, 0, 0), (53, 0, 0, 0, 0), (1, 1, 0, 0, 0), (7, 0, 0, 0, 63), (19, 0, 0, 0, 0), (30, 0, 0, 0, 0), (8, 0, 0, 0, 1), (25, 0, 0, 0, 0), (8, 0, 0, 0, 0), (31, 0, 0, 0, 0), (37, 0, 74, 0, 0), (7, 0, 0, 0, 0), (4, 4, 0, 0, 0), (0, 46, 0, 0, 0)]
def b_X2_goOnBy_46 : List LI := [(1, 4, 0, 0, 0), (7, 0, 0, 0, 8), (36, 3, 74, 0, 0), (3, 0, 0, 0, 0), (1, 3, 0, 0, 0), (1, 4, 0, 0, 0), (10, 0, 0, 0, 0), (43, 0, 0, 0, 0), (53, 0, 0, 0, 0), (3, 0, 0, 0, 0), (1, 2, 0, 0, 0), (1, 4, 0, 0, 0), (10, 0, 0, 0, 0), (53, 0, 0, 0, 0), (26, 0, 0, 0, 0), (58, 0, 0, 0, 0), (35, 4, 0, 0, 1), (40, 46, 0, 0, 0)]
def b_X2_goOnBy_74 : List LI := [(35, 3, 0, 0, 8), (40, 16, 0, 0, 0)]
def b_X2_goOnBy_80 : List LI := [(74, 0, 0, 0, 0)]
def cd_X2_goOnBy : Nat → List LI := fun pc => if pc = 0 then b_X2_goOnBy_0 else if pc = 14 then b_X2_goOnBy_14 else if pc = 16 then b_X2_goOnBy_16 else if pc = 46 then b_X2_goOnBy_46 else if pc = 74 then b_X2_goOnBy_74 else if pc = 80 then b_X2_goOnBy_80 else []
def b_X2_isEmptyRow_0 : List LI := [(7, 0, 0, 0, 0), (4, 2, 0, 0, 0), (0, 2, 0, 0, 0)]
def b_X2_isEmptyRow_2 : List LI := [(1, 2, 0, 0, 0), (7, 0, 0, 0, 8), (36, 3, 26, 0, 0), (3, 0, 0, 0, 0), (1, 1, 0, 0, 0), (1, 2, 0, 0, 0), (10, 0, 0, 0, 0), (53, 0, 0, 0, 0), (8, 0, 0, 0, 0), (31, 0, 0, 0, 0), (37, 0, 20, 0, 0), (7, 0, 0, 0, 0), (71, 1, 0, 0, 0)]
def b_X2_isEmptyRow_20 : List LI := [(35, 2, 0, 0, 1), (40, 2, 0, 0, 0)]
def b_X2_isEmptyRow_26 : List LI := [(7, 0, 0, 0, 1), (71, 1, 0, 0, 0)]
def cd_X2_isEmptyRow : Nat → List LI := fun pc => if pc = 0 then b_X2_isEmptyRow_0 else if pc = 2 then b_X2_isEmptyRow_2 else if pc = 20 then b_X2_isEmptyRow_20 else if pc = 26 then b_X2_isEmptyRow_26 else []
def b_X3_init_0 : List LI := [(3, 0, 0, 0, 0), (68, 0, 0, 0, 0), (3, 0, 0, 0, 0), (7, 0, 0, 0, 16), (64, 17, 0, 0, 0), (50, 3, 0, 17, 0), (7, 0, 0, 0, 0), (4, 1, 0, 0, 0), (0, 15, 0, 0, 0)]
def b_X3_init_15 : List LI := [(1, 1, 0, 0, 0), (7, 0, 0, 0, 16), (36, 3, 40, 0, 0), (3, 0, 0, 0, 0), (47, 3, 0, 17, 0), (1, 1, 0, 0, 0), (66, 7, 0, 6, 0), (42, 0, 0, 0, 0), (67, 95, 1, 7, 3), (61, 17, 0, 7, 0), (35, 1, 0, 0, 1), (40, 15, 0, 0, 0)]
def b_X3_init_40 : List LI := [(3, 0, 0, 0, 0), (7, 0, 0, 0, 255), (48, 3, 2, 0, 0), (3, 0, 0, 0, 0), (7, 0, 0, 0, 512), (63, 14, 0, 0, 0), (50, 3, 3, 14, 0), (3, 0, 0, 0, 0), (7, 0, 0, 0, 8), (63, 15, 0, 0, 0), (50, 3, 5, 15, 0), (3, 0, 0, 0, 0), (7, 0, 0, 0, 512), (63, 14, 0, 0, 0), (50, 3, 6, 14, 0), (74, 0, 0, 0, 0)]
def cd_X3_init : Nat → List LI := fun pc => if pc = 0 then b_X3_init_0 else if pc = 15 then b_X3_init_15 else if pc = 40 then b_X3_init_40 else []
def b_X3_tableAt_0 : List LI := [(1, 1, 0, 0, 0), (7, 0, 0, 0, 1), (67, 189, 2, 0, 4), (37, 0, 29, 0, 0), (1, 2, 0, 0, 0), (67, 191, 1, 0, 2), (37, 0, 29, 0, 0), (3, 0, 0, 0, 0), (47, 3, 0, 17, 0), (7, 0, 0, 0, 8), (1, 1, 0, 0, 0), (12, 0, 0, 0, 0), (1, 2, 0, 0, 0), (10, 0, 0, 0, 0), (56, 17, 0, 7, 0), (40, 30, 0, 0, 0)]
def b_X3_tableAt_29 : List LI := [(9, 7, 0, 0, 0), (0, 30, 0, 0, 0)]
def b_X3_tableAt_30 : List LI := [(73, 0, 0, 0, 0)]
def cd_X3_tableAt : Nat → List LI := fun pc => if pc = 0 then b_X3_tableAt_0 else if pc = 29 then b_X3_tableAt_29 else if pc = 30 then b_X3_tableAt_30 else []
def b_X3_countRows_0 : List LI := [(7, 0, 0, 0, 0), (4, 2, 0, 0, 0), (7, 0, 0, 0, 0), (4, 3, 0, 0, 0), (0, 4, 0, 0, 0)]
def b_X3_countRows_4 : List LI := [(1, 3, 0, 0, 0), (7, 0, 0, 0, 8), (36, 3, 33, 0, 0), (1, 2, 0, 0, 0), (3, 0, 0, 0, 0), (47, 3, 0, 17, 0), (7, 0, 0, 0, 8), (1, 1, 0, 0, 0), (12, 0, 0, 0, 0), (1, 3, 0, 0, 0), (10, 0, 0, 0, 0), (56, 17, 0, 7, 0), (45, 7, 3, 0, 0), (10, 0, 0, 0, 0), (4, 2, 0, 0, 0), (35, 3, 0, 0, 1), (40, 4, 0, 0, 0)]
def b_X3_countRows_33 : List LI := [(1, 2, 0, 0, 0), (71, 0, 0, 0, 0)]
def cd_X3_countRows : Nat → List LI := fun pc => if pc = 0 then b_X3_countRows_0 else if pc = 4 then b_X3_countRows_4 else if pc = 33 then b_X3_countRows_33 else []
def b_X3_unlikeBoxes_0 : List LI := [(7, 0, 0, 0, 0), (4, 1, 0, 0, 0), (7, 0, 0, 0, 0), (4, 2, 0, 0, 0), (0, 4, 0, 0, 0)]
def b_X3_unlikeBoxes_4 : List LI := [(1, 2, 0, 0, 0), (7, 0, 0, 0, 8), (36, 3, 47, 0, 0), (1, 1, 0, 0, 0), (3, 0, 0, 0, 0), (47, 3, 0, 17, 0), (1, 2, 0, 0, 0), (56, 17, 0, 7, 0), (3, 0, 0, 0, 0), (47, 3, 0, 17, 0), (7, 0, 0, 0, 8), (1, 2, 0, 0, 0), (10, 0, 0, 0, 0), (56, 17, 0, 7, 0), (67, 99, 2, 7, 5), (37, 0, 36, 0, 0), (7, 0, 0, 0, 0), (40, 39, 0, 0, 0)]
def b_X3_unlikeBoxes_36 : List LI := [(7, 0, 0, 0, 1), (1, 2, 0, 0, 0), (16, 0, 0, 0, 0), (0, 39, 0, 0, 0)]
def b_X3_unlikeBoxes_39 : List LI := [(20, 0, 0, 0, 0), (4, 1, 0, 0, 0), (35, 2, 0, 0, 1), (40, 4, 0, 0, 0)]
def b_X3_unlikeBoxes_47 : List LI := [(1, 1, 0, 0, 0), (71, 0, 0, 0, 0)]
def cd_X3_unlikeBoxes : Nat → List LI := fun pc => if pc = 0 then b_X3_unlikeBoxes_0 else if pc = 4 then b_X3_unlikeBoxes_4 else if pc = 36 then b_X3_unlikeBoxes_36 else if pc = 39 then b_X3_unlikeBoxes_39 else if pc = 47 then b_X3_unlikeBoxes_47 else []
def b_X3_takeNewTables_0 : List LI := [(7, 0, 0, 0, 0), (4, 2, 0, 0, 0), (0, 2, 0, 0, 0)]
def b_X3_takeNewTables_2 : List LI := [(1, 2, 0, 0, 0), (7, 0, 0, 0, 8), (36, 3, 40, 0, 0), (1, 1, 0, 0, 0), (1, 2, 0, 0, 0), (67, 194, 2, 0, 4), (37, 0, 34, 0, 0), (3, 0, 0, 0, 0), (47, 3, 0, 17, 0), (1, 2, 0, 0, 0), (56, 17, 0, 7, 0), (3, 0, 0, 0, 0), (47, 3, 0, 17, 0), (7, 0, 0, 0, 8), (1, 2, 0, 0, 0), (10, 0, 0, 0, 0), (56, 17, 0, 7, 0), (67, 98, 2, 7, 5), (0, 34, 0, 0, 0)]
def b_X3_takeNewTables_34 : List LI := [(35, 2, 0, 0, 1), (40, 2, 0, 0, 0)]
def b_X3_takeNewTables_40 : List LI := [(74, 0, 0, 0, 0)]
def cd_X3_takeNewTables : Nat → List LI := fun pc => if pc = 0 then b_X3_takeNewTables_0 else if pc = 2 then b_X3_takeNewTables_2 else if pc = 34 then b_X3_takeNewTables_34 else if pc = 40 then b_X3_takeNewTables_40 else []
def b_X3_lineBit_0 : List LI := [(8, 0, 0, 0, 1), (7, 0, 0, 0, 8), (1, 0, 0, 0, 0), (12, 0, 0, 0, 0), (1, 1, 0, 0, 0), (10, 0, 0, 0, 0), (28, 0, 0, 0, 0), (72, 0, 0, 0, 0)]
def cd_X3_lineBit : Nat → List LI := fun pc => if pc = 0 then b_X3_lineBit_0 else []
def b_X3_setFallen_0 : List LI := [(3, 0, 0, 0, 0), (46, 3, 1, 0, 0), (5, 4, 0, 0, 0), (3, 0, 0, 0, 0), (1, 3, 0, 0, 0), (37, 0, 22, 0, 0), (2, 4, 0, 0, 0), (1, 1, 0, 0, 0), (1, 2, 0, 0, 0), (67, 36, 2, 0, 4), (26, 0, 0, 0, 0), (40, 34, 0, 0, 0)]
def b_X3_setFallen_22 : List LI := [(2, 4, 0, 0, 0), (1, 1, 0, 0, 0), (1, 2, 0, 0, 0), (67, 36, 2, 0, 4), (8, 0, 0, 0, (-1)), (27, 0, 0, 0, 0), (25, 0, 0, 0, 0), (0, 34, 0, 0, 0)]
def b_X3_setFallen_34 : List LI := [(49, 3, 1, 0, 0), (3, 0, 0, 0, 0), (46, 3, 1, 0, 0), (2, 4, 0, 0, 0), (31, 0, 0, 0, 0), (37, 0, 51, 0, 0), (7, 0, 0, 0, 1), (40, 52, 0, 0, 0)]
def b_X3_setFallen_51 : List LI := [(7, 0, 0, 0, 0), (0, 52, 0, 0, 0)]
def b_X3_setFallen_52 : List LI := [(71, 1, 0, 0, 0)]
def cd_X3_setFallen : Nat → List LI := fun pc => if pc = 0 then b_X3_setFallen_0 else if pc = 22 then b_X3_setFallen_22 else if pc = 34 then b_X3_setFallen_34 else if pc = 51 then b_X3_setFallen_51 else if pc = 52 then b_X3_setFallen_52 else []
def b_X3_isEntry_0 : List LI := [(3, 0, 0, 0, 0), (45, 3, 2, 0, 0), (1, 1, 0, 0, 0), (7, 0, 0, 0, 6), (17, 0, 0, 0, 0), (67, 194, 2, 0, 4), (71, 1, 0, 0, 0)]
def cd_X3_isEntry : Nat → List LI := fun pc => if pc = 0 then b_X3_isEntry_0 else []
def b_X3_step_0 : List LI := [(1, 1, 0, 0, 0), (7, 0, 0, 0, 6), (17, 0, 0, 0, 0), (4, 3, 0, 0, 0), (3, 0, 0, 0, 0), (47, 3, 0, 17, 0), (7, 0, 0, 0, 8), (1, 2, 0, 0, 0), (12, 0, 0, 0, 0), (1, 3, 0, 0, 0), (10, 0, 0, 0, 0), (56, 17, 0, 7, 0), (47, 7, 5, 14, 0), (1, 1, 0, 0, 0), (7, 0, 0, 0, 63), (19, 0, 0, 0, 0), (52, 0, 0, 0, 0), (4, 4, 0, 0, 0), (1, 4, 0, 0, 0), (7, 0, 0, 0, 512), (36, 2, 49, 0, 0), (7, 0, 0, 0, 512), (7, 0, 0, 0, 64), (1, 3, 0, 0, 0), (12, 0, 0, 0, 0), (10, 0, 0, 0, 0), (1, 4, 0, 0, 0), (7, 0, 0, 0, 63), (19, 0, 0, 0, 0), (10, 0, 0, 0, 0), (71, 0, 0, 0, 0)]
def b_X3_step_49 : List LI := [(1, 4, 0, 0, 0), (37, 2, 76, 0, 0), (3, 0, 0, 0, 0), (46, 3, 1, 0, 0), (1, 3, 0, 0, 0), (1, 4, 0, 0, 0), (7, 0, 0, 0, 6), (17, 0, 0, 0, 0), (67, 36, 2, 0, 4), (25, 0, 0, 0, 0), (8, 0, 0, 0, 0), (31, 0, 0, 0, 0), (37, 0, 76, 0, 0), (7, 0, 0, 0, (-2)), (71, 0, 0, 0, 0)]
def b_X3_step_76 : List LI := [(1, 4, 0, 0, 0), (71, 0, 0, 0, 0)]
def cd_X3_step : Nat → List LI := fun pc => if pc = 0 then b_X3_step_0 else if pc = 49 then b_X3_step_49 else if pc = 76 then b_X3_step_76 else []
def b_X3_goesOn_0 : List LI := [(1, 0, 0, 0, 0), (37, 2, 15, 0, 0), (1, 0, 0, 0, 0), (7, 0, 0, 0, 512), (36, 3, 15, 0, 0), (7, 0, 0, 0, 1), (40, 16, 0, 0, 0)]
def b_X3_goesOn_15 : List LI := [(7, 0, 0, 0, 0), (0, 16, 0, 0, 0)]
def b_X3_goesOn_16 : List LI := [(71, 1, 0, 0, 0)]
def cd_X3_goesOn : Nat → List LI := fun pc => if pc = 0 then b_X3_goesOn_0 else if pc = 15 then b_X3_goesOn_15 else if pc = 16 then b_X3_goesOn_16 else []
def b_X3_endBy_0 : List LI := [(1, 0, 0, 0, 0), (7, 0, 0, 0, 512), (36, 2, 15, 0, 0), (1, 0, 0, 0, 0), (7, 0, 0, 0, 512), (11, 0, 0, 0, 0), (40, 17, 0, 0, 0)]
def b_X3_endBy_15 : List LI := [(7, 0, 0, 0, (-2)), (0, 17, 0, 0, 0)]
def b_X3_endBy_17 : List LI := [(71, 0, 0, 0, 0)]
def cd_X3_endBy : Nat → List LI := fun pc => if pc = 0 then b_X3_endBy_0 else if pc = 15 then b_X3_endBy_15 else if pc = 17 then b_X3_endBy_17 else []
def b_X3_versionOf_0 : List LI := [(1, 1, 0, 0, 0), (1, 0, 0, 0, 0), (7, 0, 0, 0, 6), (17, 0, 0, 0, 0), (17, 0, 0, 0, 0), (7, 0, 0, 0, 1), (19, 0, 0, 0, 0), (71, 0, 0, 0, 0)]
def cd_X3_versionOf : Nat → List LI := fun pc => if pc = 0 then b_X3_versionOf_0 else []
def b_X3_follow_0 : List LI := [(3, 0, 0, 0, 0), (47, 3, 5, 15, 0), (8, 0, 0, 0, 0), (67, 314, 2, 0, 6), (3, 0, 0, 0, 0), (7, 0, 0, 0, 0), (48, 3, 4, 0, 0), (1, 1, 0, 0, 0), (4, 3, 0, 0, 0), (7, 0, 0, 0, 0), (4, 4, 0, 0, 0), (0, 18, 0, 0, 0)]
def b_X3_follow_18 : List LI := [(1, 4, 0, 0, 0), (7, 0, 0, 0, 512), (36, 3, 113, 0, 0), (3, 0, 0, 0, 0), (47, 3, 5, 15, 0), (1, 3, 0, 0, 0), (7, 0, 0, 0, 6), (17, 0, 0, 0, 0), (53, 0, 0, 0, 0), (1, 3, 0, 0, 0), (7, 0, 0, 0, 63), (19, 0, 0, 0, 0), (30, 0, 0, 0, 0), (8, 0, 0, 0, 1), (25, 0, 0, 0, 0), (8, 0, 0, 0, 0), (31, 0, 0, 0, 0), (37, 0, 50, 0, 0), (7, 0, 0, 0, (-3)), (71, 0, 0, 0, 0)]
def b_X3_follow_50 : List LI := [(3, 0, 0, 0, 0), (47, 3, 5, 15, 0), (1, 3, 0, 0, 0), (7, 0, 0, 0, 6), (17, 0, 0, 0, 0), (43, 0, 0, 0, 0), (53, 0, 0, 0, 0), (8, 0, 0, 0, 1), (1, 3, 0, 0, 0), (7, 0, 0, 0, 63), (19, 0, 0, 0, 0), (28, 0, 0, 0, 0), (26, 0, 0, 0, 0), (58, 0, 0, 0, 0), (3, 0, 0, 0, 0), (1, 3, 0, 0, 0), (1, 3, 0, 0, 0), (1, 2, 0, 0, 0), (67, 42, 2, 0, 4), (67, 44, 3, 3, 7), (3, 0, 0, 0, 0), (1, 3, 0, 0, 0), (1, 3, 0, 0, 0), (1, 2, 0, 0, 0), (67, 42, 2, 0, 4), (67, 39, 3, 3, 7), (4, 5, 0, 0, 0), (1, 5, 0, 0, 0), (67, 40, 1, 0, 2), (37, 1, 104, 0, 0), (1, 5, 0, 0, 0), (67, 41, 1, 0, 2), (71, 0, 0, 0, 0)]
def b_X3_follow_104 : List LI := [(1, 5, 0, 0, 0), (4, 3, 0, 0, 0), (35, 4, 0, 0, 1), (40, 18, 0, 0, 0)]
def b_X3_follow_113 : List LI := [(7, 0, 0, 0, (-3)), (71, 0, 0, 0, 0)]
def cd_X3_follow : Nat → List LI := fun pc => if pc = 0 then b_X3_follow_0 else if pc = 18 then b_X3_follow_18 else if pc = 50 then b_X3_follow_50 else if pc = 104 then b_X3_follow_104 else if pc = 113 then b_X3_follow_113 else []
def b_X3_keepRow_0 : List LI := [(1, 1, 0, 0, 0), (7, 0, 0, 0, 6), (17, 0, 0, 0, 0), (4, 3, 0, 0, 0), (3, 0, 0, 0, 0), (47, 3, 0, 17, 0), (7, 0, 0, 0, 8), (1, 2, 0, 0, 0), (12, 0, 0, 0, 0), (1, 3, 0, 0, 0), (10, 0, 0, 0, 0), (56, 17, 0, 7, 0), (47, 7, 4, 14, 0), (1, 1, 0, 0, 0), (7, 0, 0, 0, 63), (19, 0, 0, 0, 0), (52, 0, 0, 0, 0), (4, 4, 0, 0, 0), (3, 0, 0, 0, 0), (45, 3, 4, 0, 0), (7, 0, 0, 0, 512), (36, 3, 73, 0, 0), (3, 0, 0, 0, 0), (47, 3, 3, 14, 0), (3, 0, 0, 0, 0), (45, 3, 4, 0, 0), (1, 4, 0, 0, 0), (7, 0, 0, 0, (-1)), (36, 1, 55, 0, 0), (7, 0, 0, 0, (-2)), (40, 62, 0, 0, 0)]
def b_X3_keepRow_55 : List LI := [(7, 0, 0, 0, 16), (1, 3, 0, 0, 0), (12, 0, 0, 0, 0), (1, 4, 0, 0, 0), (10, 0, 0, 0, 0), (0, 62, 0, 0, 0)]
def b_X3_keepRow_62 : List LI := [(57, 0, 0, 0, 0), (3, 0, 0, 0, 0), (42, 0, 0, 0, 0), (45, 3, 4, 0, 0), (7, 0, 0, 0, 1), (10, 0, 0, 0, 0), (48, 3, 4, 0, 0), (0, 73, 0, 0, 0)]
def b_X3_keepRow_73 : List LI := [(74, 0, 0, 0, 0)]
def cd_X3_keepRow : Nat → List LI := fun pc => if pc = 0 then b_X3_keepRow_0 else if pc = 55 then b_X3_keepRow_55 else if pc = 62 then b_X3_keepRow_62 else if pc = 73 then b_X3_keepRow_73 else []
def b_X3_endsBy_0 : List LI := [(3, 0, 0, 0, 0), (1, 1, 0, 0, 0), (3, 0, 0, 0, 0), (47, 3, 6, 14, 0), (67, 46, 3, 3, 7), (3, 0, 0, 0, 0), (47, 3, 6, 14, 0), (73, 0, 0, 0, 0)]
def cd_X3_endsBy : Nat → List LI := fun pc => if pc = 0 then b_X3_endsBy_0 else []
def b_X3_fillEnds_0 : List LI := [(3, 2, 0, 0, 0), (7, 0, 0, 0, (-9)), (67, 315, 2, 0, 4), (7, 0, 0, 0, 0), (4, 3, 0, 0, 0), (0, 8, 0, 0, 0)]
def b_X3_fillEnds_8 : List LI := [(1, 3, 0, 0, 0), (7, 0, 0, 0, 512), (36, 3, 44, 0, 0), (3, 0, 0, 0, 0), (1, 3, 0, 0, 0), (67, 38, 2, 3, 5), (37, 0, 38, 0, 0), (3, 2, 0, 0, 0), (1, 3, 0, 0, 0), (52, 0, 0, 0, 0), (7, 0, 0, 0, (-9)), (36, 1, 38, 0, 0), (3, 0, 0, 0, 0), (1, 3, 0, 0, 0), (1, 1, 0, 0, 0), (3, 2, 0, 0, 0), (67, 47, 4, 3, 9), (0, 38, 0, 0, 0)]
def b_X3_fillEnds_38 : List LI := [(35, 3, 0, 0, 1), (40, 8, 0, 0, 0)]
def b_X3_fillEnds_44 : List LI := [(74, 0, 0, 0, 0)]
def cd_X3_fillEnds : Nat → List LI := fun pc => if pc = 0 then b_X3_fillEnds_0 else if pc = 8 then b_X3_fillEnds_8 else if pc = 38 then b_X3_fillEnds_38 else if pc = 44 then b_X3_fillEnds_44 else []
def b_X3_settle_0 : List LI := [(1, 1, 0, 0, 0), (4, 4, 0, 0, 0), (7, 0, 0, 0, 0), (4, 5, 0, 0, 0), (0, 6, 0, 0, 0)]
def b_X3_settle_6 : List LI := [(1, 5, 0, 0, 0), (7, 0, 0, 0, 512), (36, 3, 57, 0, 0), (1, 4, 0, 0, 0), (67, 40, 1, 0, 2), (37, 0, 57, 0, 0), (3, 3, 0, 0, 0), (1, 4, 0, 0, 0), (52, 0, 0, 0, 0), (7, 0, 0, 0, (-9)), (36, 1, 57, 0, 0), (3, 3, 0, 0, 0), (1, 4, 0, 0, 0), (7, 0, 0, 0, (-8)), (57, 0, 0, 0, 0), (3, 0, 0, 0, 0), (1, 4, 0, 0, 0), (1, 4, 0, 0, 0), (1, 2, 0, 0, 0), (67, 42, 2, 0, 4), (67, 39, 3, 3, 7), (4, 4, 0, 0, 0), (35, 5, 0, 0, 1), (40, 6, 0, 0, 0)]
def b_X3_settle_57 : List LI := [(1, 4, 0, 0, 0), (67, 40, 1, 0, 2), (37, 1, 73, 0, 0), (1, 4, 0, 0, 0), (67, 41, 1, 0, 2), (40, 91, 0, 0, 0)]
def b_X3_settle_73 : List LI := [(3, 3, 0, 0, 0), (1, 4, 0, 0, 0), (52, 0, 0, 0, 0), (7, 0, 0, 0, (-8)), (36, 1, 87, 0, 0), (7, 0, 0, 0, (-3)), (40, 91, 0, 0, 0)]
def b_X3_settle_87 : List LI := [(3, 3, 0, 0, 0), (1, 4, 0, 0, 0), (52, 0, 0, 0, 0), (0, 91, 0, 0, 0)]
def b_X3_settle_91 : List LI := [(4, 5, 0, 0, 0), (1, 1, 0, 0, 0), (4, 4, 0, 0, 0), (7, 0, 0, 0, 0), (4, 6, 0, 0, 0), (0, 99, 0, 0, 0)]
def b_X3_settle_99 : List LI := [(1, 6, 0, 0, 0), (7, 0, 0, 0, 512), (36, 3, 150, 0, 0), (1, 4, 0, 0, 0), (67, 40, 1, 0, 2), (37, 0, 150, 0, 0), (3, 3, 0, 0, 0), (1, 4, 0, 0, 0), (52, 0, 0, 0, 0), (7, 0, 0, 0, (-8)), (36, 1, 150, 0, 0), (3, 3, 0, 0, 0), (1, 4, 0, 0, 0), (1, 5, 0, 0, 0), (57, 0, 0, 0, 0), (3, 0, 0, 0, 0), (1, 4, 0, 0, 0), (1, 4, 0, 0, 0), (1, 2, 0, 0, 0), (67, 42, 2, 0, 4), (67, 39, 3, 3, 7), (4, 4, 0, 0, 0), (35, 6, 0, 0, 1), (40, 99, 0, 0, 0)]
def b_X3_settle_150 : List LI := [(74, 0, 0, 0, 0)]
def cd_X3_settle : Nat → List LI := fun pc => if pc = 0 then b_X3_settle_0 else if pc = 6 then b_X3_settle_6 else if pc = 57 then b_X3_settle_57 else if pc = 73 then b_X3_settle_73 else if pc = 87 then b_X3_settle_87 else if pc = 91 then b_X3_settle_91 else if pc = 99 then b_X3_settle_99 else if pc = 150 then b_X3_settle_150 else []
def b_X3_firstUnlike_0 : List LI := [(7, 0, 0, 0, 0), (4, 3, 0, 0, 0), (0, 2, 0, 0, 0)]
def b_X3_firstUnlike_2 : List LI := [(1, 3, 0, 0, 0), (7, 0, 0, 0, 512), (36, 3, 56, 0, 0), (3, 0, 0, 0, 0), (1, 3, 0, 0, 0), (67, 38, 2, 3, 5), (37, 0, 50, 0, 0), (3, 2, 0, 0, 0), (1, 3, 0, 0, 0), (52, 0, 0, 0, 0), (4, 4, 0, 0, 0), (1, 4, 0, 0, 0), (37, 3, 38, 0, 0), (3, 1, 0, 0, 0), (1, 3, 0, 0, 0), (67, 136, 2, 10, 5), (37, 1, 50, 0, 0), (40, 48, 0, 0, 0)]
def b_X3_firstUnlike_38 : List LI := [(3, 1, 0, 0, 0), (1, 3, 0, 0, 0), (1, 4, 0, 0, 0), (67, 137, 3, 10, 7), (37, 1, 50, 0, 0), (0, 48, 0, 0, 0)]
def b_X3_firstUnlike_48 : List LI := [(1, 3, 0, 0, 0), (71, 0, 0, 0, 0)]
def b_X3_firstUnlike_50 : List LI := [(35, 3, 0, 0, 1), (40, 2, 0, 0, 0)]
def b_X3_firstUnlike_56 : List LI := [(7, 0, 0, 0, (-1)), (71, 0, 0, 0, 0)]
def cd_X3_firstUnlike : Nat → List LI := fun pc => if pc = 0 then b_X3_firstUnlike_0 else if pc = 2 then b_X3_firstUnlike_2 else if pc = 38 then b_X3_firstUnlike_38 else if pc = 48 then b_X3_firstUnlike_48 else if pc = 50 then b_X3_firstUnlike_50 else if pc = 56 then b_X3_firstUnlike_56 else []
def b_X4_init_0 : List LI := [(3, 0, 0, 0, 0), (68, 0, 0, 0, 0), (3, 0, 0, 0, 0), (66, 9, 0, 4, 0), (42, 0, 0, 0, 0), (7, 0, 0, 0, 200), (67, 127, 2, 9, 5), (50, 4, 0, 9, 0), (3, 0, 0, 0, 0), (7, 0, 0, 0, 32), (63, 14, 0, 0, 0), (50, 4, 1, 14, 0), (3, 0, 0, 0, 0), (7, 0, 0, 0, 32), (63, 14, 0, 0, 0), (50, 4, 2, 14, 0), (3, 0, 0, 0, 0), (7, 0, 0, 0, 0), (63, 14, 0, 0, 0), (50, 4, 3, 14, 0), (74, 0, 0, 0, 0)]
def cd_X4_init : Nat → List LI := fun pc => if pc = 0 then b_X4_init_0 else []
def b_X4_read_0 : List LI := [(3, 0, 0, 0, 0), (3, 1, 0, 0, 0), (50, 4, 3, 14, 0), (3, 0, 0, 0, 0), (1, 2, 0, 0, 0), (3, 1, 0, 0, 0), (62, 0, 0, 0, 0), (76, 0, 0, 0, 0), (48, 4, 4, 0, 0), (3, 0, 0, 0, 0), (7, 0, 0, 0, 0), (48, 4, 5, 0, 0), (3, 0, 0, 0, 0), (47, 4, 0, 9, 0), (7, 0, 0, 0, 0), (48, 9, 3, 0, 0), (3, 0, 0, 0, 0), (7, 0, 0, 0, 0), (48, 4, 6, 0, 0), (3, 0, 0, 0, 0), (7, 0, 0, 0, 0), (48, 4, 7, 0, 0), (3, 0, 0, 0, 0), (7, 0, 0, 0, 0), (48, 4, 8, 0, 0), (3, 0, 0, 0, 0), (7, 0, 0, 0, 0), (48, 4, 9, 0, 0), (3, 0, 0, 0, 0), (7, 0, 0, 0, 0), (48, 4, 10, 0, 0), (3, 0, 0, 0, 0), (7, 0, 0, 0, 0), (48, 4, 11, 1, 0), (7, 0, 0, 0, 1), (4, 3, 0, 0, 0), (7, 0, 0, 0, 0), (4, 4, 0, 0, 0), (0, 63, 0, 0, 0)]
def b_X4_read_63 : List LI := [(1, 4, 0, 0, 0), (3, 0, 0, 0, 0), (45, 4, 4, 0, 0), (36, 4, 112, 0, 0), (3, 0, 0, 0, 0), (45, 4, 10, 0, 0), (37, 1, 112, 0, 0), (3, 0, 0, 0, 0), (45, 4, 11, 0, 0), (37, 1, 112, 0, 0), (3, 0, 0, 0, 0), (67, 65, 1, 4, 3), (1, 3, 0, 0, 0), (37, 0, 101, 0, 0), (3, 0, 0, 0, 0), (67, 51, 1, 4, 3), (40, 105, 0, 0, 0)]
def b_X4_read_101 : List LI := [(3, 0, 0, 0, 0), (67, 57, 1, 4, 3), (0, 105, 0, 0, 0)]
def b_X4_read_105 : List LI := [(4, 3, 0, 0, 0), (35, 4, 0, 0, 1), (40, 63, 0, 0, 0)]
def b_X4_read_112 : List LI := [(3, 0, 0, 0, 0), (45, 4, 10, 0, 0), (71, 0, 0, 0, 0)]
def cd_X4_read : Nat → List LI := fun pc => if pc = 0 then b_X4_read_0 else if pc = 63 then b_X4_read_63 else if pc = 101 then b_X4_read_101 else if pc = 105 then b_X4_read_105 else if pc = 112 then b_X4_read_112 else []
def b_X4_readAhead_0 : List LI := [(3, 0, 0, 0, 0), (67, 66, 1, 4, 3), (4, 1, 0, 0, 0), (1, 1, 0, 0, 0), (7, 0, 0, 0, 40), (36, 1, 17, 0, 0), (3, 0, 0, 0, 0), (67, 52, 1, 4, 3), (7, 0, 0, 0, 1), (71, 1, 0, 0, 0)]
def b_X4_readAhead_17 : List LI := [(1, 1, 0, 0, 0), (67, 67, 1, 0, 2), (37, 0, 32, 0, 0), (3, 0, 0, 0, 0), (1, 1, 0, 0, 0), (67, 53, 2, 4, 5), (40, 49, 0, 0, 0)]
def b_X4_readAhead_32 : List LI := [(1, 1, 0, 0, 0), (7, 0, 0, 0, 33), (36, 1, 45, 0, 0), (3, 0, 0, 0, 0), (67, 54, 1, 4, 3), (40, 49, 0, 0, 0)]
def b_X4_readAhead_45 : List LI := [(3, 0, 0, 0, 0), (67, 55, 1, 4, 3), (0, 49, 0, 0, 0)]
def b_X4_readAhead_49 : List LI := [(7, 0, 0, 0, 0), (71, 1, 0, 0, 0)]
def cd_X4_readAhead : Nat → List LI := fun pc => if pc = 0 then b_X4_readAhead_0 else if pc = 17 then b_X4_readAhead_17 else if pc = 32 then b_X4_readAhead_32 else if pc = 45 then b_X4_readAhead_45 else if pc = 49 then b_X4_readAhead_49 else []
def b_X4_openBracket_0 : List LI := [(3, 0, 0, 0, 0), (45, 4, 8, 0, 0), (7, 0, 0, 0, 8), (36, 2, 19, 0, 0), (3, 0, 0, 0, 0), (3, 0, 0, 0, 0), (45, 4, 5, 0, 0), (7, 0, 0, 0, 2), (67, 64, 3, 4, 7), (74, 0, 0, 0, 0)]
def b_X4_openBracket_19 : List LI := [(3, 0, 0, 0, 0), (42, 0, 0, 0, 0), (45, 4, 8, 0, 0), (7, 0, 0, 0, 1), (10, 0, 0, 0, 0), (48, 4, 8, 0, 0), (3, 0, 0, 0, 0), (7, 0, 0, 0, 40), (67, 62, 2, 4, 5), (3, 0, 0, 0, 0), (42, 0, 0, 0, 0), (45, 4, 5, 0, 0), (7, 0, 0, 0, 1), (10, 0, 0, 0, 0), (48, 4, 5, 0, 0), (74, 0, 0, 0, 0)]
def cd_X4_openBracket : Nat → List LI := fun pc => if pc = 0 then b_X4_openBracket_0 else if pc = 19 then b_X4_openBracket_19 else []
def b_X4_readConstant_0 : List LI := [(3, 0, 0, 0, 0), (67, 69, 1, 4, 3), (7, 0, 0, 0, 1), (36, 1, 14, 0, 0), (1, 1, 0, 0, 0), (7, 0, 0, 0, 49), (36, 5, 24, 0, 0), (0, 14, 0, 0, 0)]
def b_X4_readConstant_14 : List LI := [(3, 0, 0, 0, 0), (3, 0, 0, 0, 0), (45, 4, 5, 0, 0), (7, 0, 0, 0, 0), (67, 64, 3, 4, 7), (74, 0, 0, 0, 0)]
def b_X4_readConstant_24 : List LI := [(3, 0, 0, 0, 0), (3, 0, 0, 0, 0), (45, 4, 5, 0, 0), (67, 63, 2, 4, 5), (3, 0, 0, 0, 0), (42, 0, 0, 0, 0), (45, 4, 5, 0, 0), (7, 0, 0, 0, 1), (10, 0, 0, 0, 0), (48, 4, 5, 0, 0), (3, 0, 0, 0, 0), (1, 1, 0, 0, 0), (7, 0, 0, 0, 48), (36, 1, 53, 0, 0), (7, 0, 0, 0, 0), (40, 54, 0, 0, 0)]
def b_X4_readConstant_53 : List LI := [(7, 0, 0, 0, 1), (0, 54, 0, 0, 0)]
def b_X4_readConstant_54 : List LI := [(7, 0, 0, 0, 0), (7, 0, 0, 0, 0), (67, 61, 4, 4, 9), (74, 0, 0, 0, 0)]
def cd_X4_readConstant : Nat → List LI := fun pc => if pc = 0 then b_X4_readConstant_0 else if pc = 14 then b_X4_readConstant_14 else if pc = 24 then b_X4_readConstant_24 else if pc = 53 then b_X4_readConstant_53 else if pc = 54 then b_X4_readConstant_54 else []
def b_X4_readUnless_0 : List LI := [(3, 0, 0, 0, 0), (3, 0, 0, 0, 0), (45, 4, 5, 0, 0), (67, 63, 2, 4, 5), (3, 0, 0, 0, 0), (42, 0, 0, 0, 0), (45, 4, 5, 0, 0), (7, 0, 0, 0, 1), (10, 0, 0, 0, 0), (48, 4, 5, 0, 0), (3, 0, 0, 0, 0), (67, 65, 1, 4, 3), (3, 0, 0, 0, 0), (67, 71, 1, 4, 3), (4, 1, 0, 0, 0), (1, 1, 0, 0, 0), (7, 0, 0, 0, (-1)), (36, 1, 42, 0, 0), (3, 0, 0, 0, 0), (3, 0, 0, 0, 0), (45, 4, 5, 0, 0), (7, 0, 0, 0, 0), (67, 64, 3, 4, 7), (74, 0, 0, 0, 0)]
def b_X4_readUnless_42 : List LI := [(3, 0, 0, 0, 0), (42, 0, 0, 0, 0), (45, 4, 5, 0, 0), (3, 0, 0, 0, 0), (67, 70, 1, 4, 3), (10, 0, 0, 0, 0), (48, 4, 5, 0, 0), (3, 0, 0, 0, 0), (67, 65, 1, 4, 3), (3, 0, 0, 0, 0), (67, 66, 1, 4, 3), (7, 0, 0, 0, 61), (36, 0, 78, 0, 0), (3, 0, 0, 0, 0), (3, 0, 0, 0, 0), (45, 4, 5, 0, 0), (7, 0, 0, 0, 0), (67, 64, 3, 4, 7), (74, 0, 0, 0, 0)]
def b_X4_readUnless_78 : List LI := [(3, 0, 0, 0, 0), (42, 0, 0, 0, 0), (45, 4, 5, 0, 0), (7, 0, 0, 0, 1), (10, 0, 0, 0, 0), (48, 4, 5, 0, 0), (3, 0, 0, 0, 0), (7, 0, 0, 0, 3), (1, 1, 0, 0, 0), (67, 56, 3, 4, 7), (74, 0, 0, 0, 0)]
def cd_X4_readUnless : Nat → List LI := fun pc => if pc = 0 then b_X4_readUnless_0 else if pc = 42 then b_X4_readUnless_42 else if pc = 78 then b_X4_readUnless_78 else []
def b_X4_readTestOrChange_0 : List LI := [(3, 0, 0, 0, 0), (67, 71, 1, 4, 3), (4, 1, 0, 0, 0), (1, 1, 0, 0, 0), (7, 0, 0, 0, (-1)), (36, 1, 20, 0, 0), (3, 0, 0, 0, 0), (3, 0, 0, 0, 0), (45, 4, 5, 0, 0), (7, 0, 0, 0, 0), (67, 64, 3, 4, 7), (74, 0, 0, 0, 0)]
def b_X4_readTestOrChange_20 : List LI := [(3, 0, 0, 0, 0), (3, 0, 0, 0, 0), (45, 4, 5, 0, 0), (67, 63, 2, 4, 5), (3, 0, 0, 0, 0), (42, 0, 0, 0, 0), (45, 4, 5, 0, 0), (3, 0, 0, 0, 0), (67, 70, 1, 4, 3), (10, 0, 0, 0, 0), (48, 4, 5, 0, 0), (3, 0, 0, 0, 0), (67, 65, 1, 4, 3), (3, 0, 0, 0, 0), (67, 66, 1, 4, 3), (4, 2, 0, 0, 0), (1, 2, 0, 0, 0), (7, 0, 0, 0, 61), (36, 0, 72, 0, 0), (1, 2, 0, 0, 0), (7, 0, 0, 0, 58), (36, 0, 72, 0, 0), (3, 0, 0, 0, 0), (3, 0, 0, 0, 0), (45, 4, 5, 0, 0), (7, 0, 0, 0, 0), (67, 64, 3, 4, 7), (74, 0, 0, 0, 0)]
def b_X4_readTestOrChange_72 : List LI := [(3, 0, 0, 0, 0), (42, 0, 0, 0, 0), (45, 4, 5, 0, 0), (7, 0, 0, 0, 1), (10, 0, 0, 0, 0), (48, 4, 5, 0, 0), (3, 0, 0, 0, 0), (1, 2, 0, 0, 0), (7, 0, 0, 0, 61), (36, 1, 93, 0, 0), (7, 0, 0, 0, 2), (40, 94, 0, 0, 0)]
def b_X4_readTestOrChange_93 : List LI := [(7, 0, 0, 0, 4), (0, 94, 0, 0, 0)]
def b_X4_readTestOrChange_94 : List LI := [(1, 1, 0, 0, 0), (67, 56, 3, 4, 7), (74, 0, 0, 0, 0)]
def cd_X4_readTestOrChange : Nat → List LI := fun pc => if pc = 0 then b_X4_readTestOrChange_0 else if pc = 20 then b_X4_readTestOrChange_20 else if pc = 72 then b_X4_readTestOrChange_72 else if pc = 93 then b_X4_readTestOrChange_93 else if pc = 94 then b_X4_readTestOrChange_94 else []
def b_X4_readValue_0 : List LI := [(3, 0, 0, 0, 0), (67, 65, 1, 4, 3), (3, 0, 0, 0, 0), (67, 66, 1, 4, 3), (4, 3, 0, 0, 0), (1, 3, 0, 0, 0), (67, 67, 1, 0, 2), (37, 1, 26, 0, 0), (3, 0, 0, 0, 0), (3, 0, 0, 0, 0), (45, 4, 5, 0, 0), (7, 0, 0, 0, 0), (67, 64, 3, 4, 7), (74, 0, 0, 0, 0)]
def b_X4_readValue_26 : List LI := [(3, 0, 0, 0, 0), (67, 69, 1, 4, 3), (7, 0, 0, 0, 1), (36, 4, 46, 0, 0), (1, 3, 0, 0, 0), (7, 0, 0, 0, 48), (11, 0, 0, 0, 0), (51, 1, 0, 0, 0), (1, 2, 0, 0, 0), (52, 0, 0, 0, 0), (36, 5, 56, 0, 0), (0, 46, 0, 0, 0)]
def b_X4_readValue_46 : List LI := [(3, 0, 0, 0, 0), (3, 0, 0, 0, 0), (45, 4, 5, 0, 0), (7, 0, 0, 0, 1), (67, 64, 3, 4, 7), (74, 0, 0, 0, 0)]
def b_X4_readValue_56 : List LI := [(3, 0, 0, 0, 0), (42, 0, 0, 0, 0), (45, 4, 5, 0, 0), (7, 0, 0, 0, 1), (10, 0, 0, 0, 0), (48, 4, 5, 0, 0), (3, 0, 0, 0, 0), (1, 1, 0, 0, 0), (1, 2, 0, 0, 0), (1, 3, 0, 0, 0), (7, 0, 0, 0, 48), (11, 0, 0, 0, 0), (67, 61, 4, 4, 9), (74, 0, 0, 0, 0)]
def cd_X4_readValue : Nat → List LI := fun pc => if pc = 0 then b_X4_readValue_0 else if pc = 26 then b_X4_readValue_26 else if pc = 46 then b_X4_readValue_46 else if pc = 56 then b_X4_readValue_56 else []
def b_X4_readBehind_0 : List LI := [(3, 0, 0, 0, 0), (67, 66, 1, 4, 3), (4, 1, 0, 0, 0), (1, 1, 0, 0, 0), (7, 0, 0, 0, 42), (36, 1, 27, 0, 0), (3, 0, 0, 0, 0), (42, 0, 0, 0, 0), (45, 4, 5, 0, 0), (7, 0, 0, 0, 1), (10, 0, 0, 0, 0), (48, 4, 5, 0, 0), (3, 0, 0, 0, 0), (67, 60, 1, 4, 3), (7, 0, 0, 0, 0), (71, 1, 0, 0, 0)]
def b_X4_readBehind_27 : List LI := [(1, 1, 0, 0, 0), (7, 0, 0, 0, 43), (36, 0, 39, 0, 0), (1, 1, 0, 0, 0), (7, 0, 0, 0, 59), (36, 1, 61, 0, 0), (0, 39, 0, 0, 0)]
def b_X4_readBehind_39 : List LI := [(3, 0, 0, 0, 0), (1, 1, 0, 0, 0), (67, 58, 2, 4, 5), (3, 0, 0, 0, 0), (1, 1, 0, 0, 0), (67, 62, 2, 4, 5), (3, 0, 0, 0, 0), (42, 0, 0, 0, 0), (45, 4, 5, 0, 0), (7, 0, 0, 0, 1), (10, 0, 0, 0, 0), (48, 4, 5, 0, 0), (7, 0, 0, 0, 1), (71, 1, 0, 0, 0)]
def b_X4_readBehind_61 : List LI := [(1, 1, 0, 0, 0), (7, 0, 0, 0, 41), (36, 1, 115, 0, 0), (3, 0, 0, 0, 0), (45, 4, 8, 0, 0), (37, 5, 115, 0, 0), (3, 0, 0, 0, 0), (1, 1, 0, 0, 0), (67, 58, 2, 4, 5), (3, 0, 0, 0, 0), (3, 0, 0, 0, 0), (45, 4, 6, 0, 0), (7, 0, 0, 0, 1), (11, 0, 0, 0, 0), (7, 0, 0, 0, 0), (75, 0, 0, 0, 0), (48, 4, 6, 0, 0), (3, 0, 0, 0, 0), (42, 0, 0, 0, 0), (45, 4, 8, 0, 0), (7, 0, 0, 0, 1), (11, 0, 0, 0, 0), (48, 4, 8, 0, 0), (3, 0, 0, 0, 0), (42, 0, 0, 0, 0), (45, 4, 5, 0, 0), (7, 0, 0, 0, 1), (10, 0, 0, 0, 0), (48, 4, 5, 0, 0), (7, 0, 0, 0, 0), (71, 1, 0, 0, 0)]
def b_X4_readBehind_115 : List LI := [(1, 1, 0, 0, 0), (7, 0, 0, 0, (-1)), (36, 1, 127, 0, 0), (3, 0, 0, 0, 0), (45, 4, 8, 0, 0), (37, 5, 138, 0, 0), (0, 127, 0, 0, 0)]
def b_X4_readBehind_127 : List LI := [(3, 0, 0, 0, 0), (3, 0, 0, 0, 0), (45, 4, 5, 0, 0), (7, 0, 0, 0, 0), (67, 64, 3, 4, 7), (7, 0, 0, 0, 0), (71, 1, 0, 0, 0)]
def b_X4_readBehind_138 : List LI := [(3, 0, 0, 0, 0), (1, 1, 0, 0, 0), (67, 58, 2, 4, 5), (3, 0, 0, 0, 0), (7, 0, 0, 0, 1), (48, 4, 11, 1, 0), (7, 0, 0, 0, 0), (71, 1, 0, 0, 0)]
def cd_X4_readBehind : Nat → List LI := fun pc => if pc = 0 then b_X4_readBehind_0 else if pc = 27 then b_X4_readBehind_27 else if pc = 39 then b_X4_readBehind_39 else if pc = 61 then b_X4_readBehind_61 else if pc = 115 then b_X4_readBehind_115 else if pc = 127 then b_X4_readBehind_127 else if pc = 138 then b_X4_readBehind_138 else []
def b_X4_joinWaiting_0 : List LI := [(3, 0, 0, 0, 0), (45, 4, 6, 0, 0), (4, 2, 0, 0, 0), (0, 5, 0, 0, 0)]
def b_X4_joinWaiting_5 : List LI := [(1, 2, 0, 0, 0), (37, 5, 67, 0, 0), (3, 0, 0, 0, 0), (47, 4, 1, 14, 0), (1, 2, 0, 0, 0), (7, 0, 0, 0, 1), (11, 0, 0, 0, 0), (52, 0, 0, 0, 0), (4, 3, 0, 0, 0), (1, 3, 0, 0, 0), (7, 0, 0, 0, 40), (36, 0, 36, 0, 0), (1, 3, 0, 0, 0), (7, 0, 0, 0, 43), (36, 1, 37, 0, 0), (1, 1, 0, 0, 0), (7, 0, 0, 0, 59), (36, 1, 37, 0, 0), (0, 36, 0, 0, 0)]
def b_X4_joinWaiting_36 : List LI := [(74, 0, 0, 0, 0)]
def b_X4_joinWaiting_37 : List LI := [(3, 0, 0, 0, 0), (1, 2, 0, 0, 0), (7, 0, 0, 0, 1), (11, 0, 0, 0, 0), (48, 4, 6, 0, 0), (3, 0, 0, 0, 0), (1, 3, 0, 0, 0), (7, 0, 0, 0, 43), (36, 1, 56, 0, 0), (7, 0, 0, 0, 7), (40, 58, 0, 0, 0)]
def b_X4_joinWaiting_56 : List LI := [(7, 0, 0, 0, 6), (0, 58, 0, 0, 0)]
def b_X4_joinWaiting_58 : List LI := [(67, 59, 2, 4, 5), (35, 2, 0, 0, (-1)), (40, 5, 0, 0, 0)]
def b_X4_joinWaiting_67 : List LI := [(74, 0, 0, 0, 0)]
def cd_X4_joinWaiting : Nat → List LI := fun pc => if pc = 0 then b_X4_joinWaiting_0 else if pc = 5 then b_X4_joinWaiting_5 else if pc = 36 then b_X4_joinWaiting_36 else if pc = 37 then b_X4_joinWaiting_37 else if pc = 56 then b_X4_joinWaiting_56 else if pc = 58 then b_X4_joinWaiting_58 else if pc = 67 then b_X4_joinWaiting_67 else []
def b_X4_joinOperands_0 : List LI := [(3, 0, 0, 0, 0), (45, 4, 7, 0, 0), (7, 0, 0, 0, 2), (36, 3, 9, 0, 0), (74, 0, 0, 0, 0)]
def b_X4_joinOperands_9 : List LI := [(3, 0, 0, 0, 0), (42, 0, 0, 0, 0), (45, 4, 7, 0, 0), (7, 0, 0, 0, 1), (11, 0, 0, 0, 0), (48, 4, 7, 0, 0), (3, 0, 0, 0, 0), (47, 4, 2, 14, 0), (3, 0, 0, 0, 0), (45, 4, 7, 0, 0), (7, 0, 0, 0, 1), (11, 0, 0, 0, 0), (3, 0, 0, 0, 0), (47, 4, 0, 9, 0), (1, 1, 0, 0, 0), (3, 0, 0, 0, 0), (47, 4, 2, 14, 0), (3, 0, 0, 0, 0), (45, 4, 7, 0, 0), (7, 0, 0, 0, 1), (11, 0, 0, 0, 0), (52, 0, 0, 0, 0), (3, 0, 0, 0, 0), (47, 4, 2, 14, 0), (3, 0, 0, 0, 0), (45, 4, 7, 0, 0), (52, 0, 0, 0, 0), (67, 128, 4, 9, 9), (57, 0, 0, 0, 0), (74, 0, 0, 0, 0)]
def cd_X4_joinOperands : Nat → List LI := fun pc => if pc = 0 then b_X4_joinOperands_0 else if pc = 9 then b_X4_joinOperands_9 else []
def b_X4_starOperand_0 : List LI := [(3, 0, 0, 0, 0), (45, 4, 7, 0, 0), (37, 5, 38, 0, 0), (3, 0, 0, 0, 0), (47, 4, 2, 14, 0), (3, 0, 0, 0, 0), (45, 4, 7, 0, 0), (7, 0, 0, 0, 1), (11, 0, 0, 0, 0), (3, 0, 0, 0, 0), (47, 4, 0, 9, 0), (7, 0, 0, 0, 5), (3, 0, 0, 0, 0), (47, 4, 2, 14, 0), (3, 0, 0, 0, 0), (45, 4, 7, 0, 0), (7, 0, 0, 0, 1), (11, 0, 0, 0, 0), (52, 0, 0, 0, 0), (7, 0, 0, 0, 0), (67, 128, 4, 9, 9), (57, 0, 0, 0, 0), (0, 38, 0, 0, 0)]
def b_X4_starOperand_38 : List LI := [(74, 0, 0, 0, 0)]
def cd_X4_starOperand : Nat → List LI := fun pc => if pc = 0 then b_X4_starOperand_0 else if pc = 38 then b_X4_starOperand_38 else []
def b_X4_pushOperand_0 : List LI := [(3, 0, 0, 0, 0), (45, 4, 10, 0, 0), (37, 1, 45, 0, 0), (3, 0, 0, 0, 0), (45, 4, 7, 0, 0), (7, 0, 0, 0, 32), (36, 3, 45, 0, 0), (3, 0, 0, 0, 0), (47, 4, 2, 14, 0), (3, 0, 0, 0, 0), (45, 4, 7, 0, 0), (3, 0, 0, 0, 0), (47, 4, 0, 9, 0), (1, 1, 0, 0, 0), (1, 2, 0, 0, 0), (1, 3, 0, 0, 0), (67, 128, 4, 9, 9), (57, 0, 0, 0, 0), (3, 0, 0, 0, 0), (42, 0, 0, 0, 0), (45, 4, 7, 0, 0), (7, 0, 0, 0, 1), (10, 0, 0, 0, 0), (48, 4, 7, 0, 0), (0, 45, 0, 0, 0)]
def b_X4_pushOperand_45 : List LI := [(74, 0, 0, 0, 0)]
def cd_X4_pushOperand : Nat → List LI := fun pc => if pc = 0 then b_X4_pushOperand_0 else if pc = 45 then b_X4_pushOperand_45 else []
def b_X4_pushSign_0 : List LI := [(3, 0, 0, 0, 0), (45, 4, 6, 0, 0), (7, 0, 0, 0, 32), (36, 3, 29, 0, 0), (3, 0, 0, 0, 0), (47, 4, 1, 14, 0), (3, 0, 0, 0, 0), (45, 4, 6, 0, 0), (1, 1, 0, 0, 0), (57, 0, 0, 0, 0), (3, 0, 0, 0, 0), (42, 0, 0, 0, 0), (45, 4, 6, 0, 0), (7, 0, 0, 0, 1), (10, 0, 0, 0, 0), (48, 4, 6, 0, 0), (0, 29, 0, 0, 0)]
def b_X4_pushSign_29 : List LI := [(74, 0, 0, 0, 0)]
def cd_X4_pushSign : Nat → List LI := fun pc => if pc = 0 then b_X4_pushSign_0 else if pc = 29 then b_X4_pushSign_29 else []
def b_X4_countAtom_0 : List LI := [(3, 0, 0, 0, 0), (42, 0, 0, 0, 0), (45, 4, 9, 0, 0), (7, 0, 0, 0, 1), (10, 0, 0, 0, 0), (48, 4, 9, 0, 0), (3, 0, 0, 0, 0), (45, 4, 9, 0, 0), (7, 0, 0, 0, 40), (36, 5, 25, 0, 0), (3, 0, 0, 0, 0), (1, 1, 0, 0, 0), (7, 0, 0, 0, 3), (67, 64, 3, 4, 7), (0, 25, 0, 0, 0)]
def b_X4_countAtom_25 : List LI := [(74, 0, 0, 0, 0)]
def cd_X4_countAtom : Nat → List LI := fun pc => if pc = 0 then b_X4_countAtom_0 else if pc = 25 then b_X4_countAtom_25 else []
def b_X4_fail_0 : List LI := [(3, 0, 0, 0, 0), (45, 4, 10, 0, 0), (37, 1, 19, 0, 0), (3, 0, 0, 0, 0), (7, 0, 0, 0, 1), (7, 0, 0, 0, 8), (1, 1, 0, 0, 0), (12, 0, 0, 0, 0), (10, 0, 0, 0, 0), (1, 2, 0, 0, 0), (10, 0, 0, 0, 0), (48, 4, 10, 0, 0), (0, 19, 0, 0, 0)]
def b_X4_fail_19 : List LI := [(74, 0, 0, 0, 0)]
def cd_X4_fail : Nat → List LI := fun pc => if pc = 0 then b_X4_fail_0 else if pc = 19 then b_X4_fail_19 else []
def b_X4_skipBlanks_0 : List LI := [(3, 0, 0, 0, 0), (45, 4, 5, 0, 0), (4, 1, 0, 0, 0), (0, 5, 0, 0, 0)]
def b_X4_skipBlanks_5 : List LI := [(1, 1, 0, 0, 0), (3, 0, 0, 0, 0), (45, 4, 4, 0, 0), (36, 3, 37, 0, 0), (3, 0, 0, 0, 0), (47, 4, 3, 14, 0), (1, 1, 0, 0, 0), (52, 0, 0, 0, 0), (7, 0, 0, 0, 32), (36, 1, 37, 0, 0), (3, 0, 0, 0, 0), (1, 1, 0, 0, 0), (7, 0, 0, 0, 1), (10, 0, 0, 0, 0), (48, 4, 5, 0, 0), (35, 1, 0, 0, 1), (40, 5, 0, 0, 0)]
def b_X4_skipBlanks_37 : List LI := [(74, 0, 0, 0, 0)]
def cd_X4_skipBlanks : Nat → List LI := fun pc => if pc = 0 then b_X4_skipBlanks_0 else if pc = 5 then b_X4_skipBlanks_5 else if pc = 37 then b_X4_skipBlanks_37 else []
def b_X4_signHere_0 : List LI := [(3, 0, 0, 0, 0), (45, 4, 5, 0, 0), (3, 0, 0, 0, 0), (45, 4, 4, 0, 0), (36, 3, 23, 0, 0), (3, 0, 0, 0, 0), (47, 4, 3, 14, 0), (3, 0, 0, 0, 0), (45, 4, 5, 0, 0), (52, 0, 0, 0, 0), (40, 24, 0, 0, 0)]
def b_X4_signHere_23 : List LI := [(7, 0, 0, 0, (-1)), (0, 24, 0, 0, 0)]
def b_X4_signHere_24 : List LI := [(71, 0, 0, 0, 0)]
def cd_X4_signHere : Nat → List LI := fun pc => if pc = 0 then b_X4_signHere_0 else if pc = 23 then b_X4_signHere_23 else if pc = 24 then b_X4_signHere_24 else []
def b_X4_isDigit_0 : List LI := [(1, 0, 0, 0, 0), (7, 0, 0, 0, 48), (36, 2, 16, 0, 0), (1, 0, 0, 0, 0), (7, 0, 0, 0, 57), (36, 4, 16, 0, 0), (7, 0, 0, 0, 1), (40, 17, 0, 0, 0)]
def b_X4_isDigit_16 : List LI := [(7, 0, 0, 0, 0), (0, 17, 0, 0, 0)]
def b_X4_isDigit_17 : List LI := [(71, 1, 0, 0, 0)]
def cd_X4_isDigit : Nat → List LI := fun pc => if pc = 0 then b_X4_isDigit_0 else if pc = 16 then b_X4_isDigit_16 else if pc = 17 then b_X4_isDigit_17 else []
def b_X4_isLetter_0 : List LI := [(1, 0, 0, 0, 0), (7, 0, 0, 0, 97), (36, 2, 16, 0, 0), (1, 0, 0, 0, 0), (7, 0, 0, 0, 122), (36, 4, 16, 0, 0), (7, 0, 0, 0, 1), (40, 17, 0, 0, 0)]
def b_X4_isLetter_16 : List LI := [(7, 0, 0, 0, 0), (0, 17, 0, 0, 0)]
def b_X4_isLetter_17 : List LI := [(71, 1, 0, 0, 0)]
def cd_X4_isLetter : Nat → List LI := fun pc => if pc = 0 then b_X4_isLetter_0 else if pc = 16 then b_X4_isLetter_16 else if pc = 17 then b_X4_isLetter_17 else []
def b_X4_digitsHere_0 : List LI := [(3, 0, 0, 0, 0), (45, 4, 5, 0, 0), (4, 1, 0, 0, 0), (3, 0, 0, 0, 0), (45, 4, 5, 0, 0), (4, 2, 0, 0, 0), (0, 10, 0, 0, 0)]
def b_X4_digitsHere_10 : List LI := [(1, 2, 0, 0, 0), (3, 0, 0, 0, 0), (45, 4, 4, 0, 0), (36, 3, 40, 0, 0), (3, 0, 0, 0, 0), (47, 4, 3, 14, 0), (1, 2, 0, 0, 0), (52, 0, 0, 0, 0), (67, 67, 1, 0, 2), (37, 0, 40, 0, 0), (1, 2, 0, 0, 0), (7, 0, 0, 0, 1), (10, 0, 0, 0, 0), (4, 1, 0, 0, 0), (35, 2, 0, 0, 1), (40, 10, 0, 0, 0)]
def b_X4_digitsHere_40 : List LI := [(1, 1, 0, 0, 0), (3, 0, 0, 0, 0), (45, 4, 5, 0, 0), (11, 0, 0, 0, 0), (71, 0, 0, 0, 0)]
def cd_X4_digitsHere : Nat → List LI := fun pc => if pc = 0 then b_X4_digitsHere_0 else if pc = 10 then b_X4_digitsHere_10 else if pc = 40 then b_X4_digitsHere_40 else []
def b_X4_wordHere_0 : List LI := [(3, 0, 0, 0, 0), (45, 4, 5, 0, 0), (4, 1, 0, 0, 0), (3, 0, 0, 0, 0), (45, 4, 5, 0, 0), (4, 2, 0, 0, 0), (0, 10, 0, 0, 0)]
def b_X4_wordHere_10 : List LI := [(1, 2, 0, 0, 0), (3, 0, 0, 0, 0), (45, 4, 4, 0, 0), (36, 3, 40, 0, 0), (3, 0, 0, 0, 0), (47, 4, 3, 14, 0), (1, 2, 0, 0, 0), (52, 0, 0, 0, 0), (67, 68, 1, 0, 2), (37, 0, 40, 0, 0), (1, 2, 0, 0, 0), (7, 0, 0, 0, 1), (10, 0, 0, 0, 0), (4, 1, 0, 0, 0), (35, 2, 0, 0, 1), (40, 10, 0, 0, 0)]
def b_X4_wordHere_40 : List LI := [(1, 1, 0, 0, 0), (3, 0, 0, 0, 0), (45, 4, 5, 0, 0), (11, 0, 0, 0, 0), (71, 0, 0, 0, 0)]
def cd_X4_wordHere : Nat → List LI := fun pc => if pc = 0 then b_X4_wordHere_0 else if pc = 10 then b_X4_wordHere_10 else if pc = 40 then b_X4_wordHere_40 else []
def b_X4_fieldHere_0 : List LI := [(3, 0, 0, 0, 0), (67, 70, 1, 4, 3), (4, 1, 0, 0, 0), (3, 0, 0, 0, 0), (67, 66, 1, 4, 3), (4, 2, 0, 0, 0), (1, 1, 0, 0, 0), (7, 0, 0, 0, 1), (36, 1, 26, 0, 0), (1, 2, 0, 0, 0), (7, 0, 0, 0, 99), (36, 4, 26, 0, 0), (1, 2, 0, 0, 0), (7, 0, 0, 0, 97), (11, 0, 0, 0, 0), (71, 0, 0, 0, 0)]
def b_X4_fieldHere_26 : List LI := [(1, 1, 0, 0, 0), (7, 0, 0, 0, 2), (36, 1, 57, 0, 0), (1, 2, 0, 0, 0), (7, 0, 0, 0, 97), (36, 1, 57, 0, 0), (3, 0, 0, 0, 0), (47, 4, 3, 14, 0), (3, 0, 0, 0, 0), (45, 4, 5, 0, 0), (7, 0, 0, 0, 1), (10, 0, 0, 0, 0), (52, 0, 0, 0, 0), (7, 0, 0, 0, 116), (36, 1, 57, 0, 0), (7, 0, 0, 0, 3), (40, 58, 0, 0, 0)]
def b_X4_fieldHere_57 : List LI := [(7, 0, 0, 0, (-1)), (0, 58, 0, 0, 0)]
def b_X4_fieldHere_58 : List LI := [(71, 0, 0, 0, 0)]
def cd_X4_fieldHere : Nat → List LI := fun pc => if pc = 0 then b_X4_fieldHere_0 else if pc = 26 then b_X4_fieldHere_26 else if pc = 57 then b_X4_fieldHere_57 else if pc = 58 then b_X4_fieldHere_58 else []
def b_X5_init_0 : List LI := [(3, 0, 0, 0, 0), (68, 0, 0, 0, 0), (3, 0, 0, 0, 0), (3, 1, 0, 0, 0), (50, 5, 0, 3, 0), (3, 0, 0, 0, 0), (7, 0, 0, 0, 8), (63, 14, 0, 0, 0), (50, 5, 1, 14, 0), (3, 0, 0, 0, 0), (47, 5, 1, 14, 0), (7, 0, 0, 0, (-1)), (67, 315, 2, 0, 4), (3, 0, 0, 0, 0), (7, 0, 0, 0, 8), (63, 14, 0, 0, 0), (50, 5, 2, 14, 0), (3, 0, 0, 0, 0), (7, 0, 0, 0, (-1)), (48, 5, 3, 0, 0), (3, 0, 0, 0, 0), (7, 0, 0, 0, 8), (63, 14, 0, 0, 0), (50, 5, 4, 14, 0), (3, 0, 0, 0, 0), (7, 0, 0, 0, 256), (63, 14, 0, 0, 0), (50, 5, 5, 14, 0), (3, 0, 0, 0, 0), (7, 0, 0, 0, 512), (63, 14, 0, 0, 0), (50, 5, 6, 14, 0), (3, 0, 0, 0, 0), (7, 0, 0, 0, 512), (63, 14, 0, 0, 0), (50, 5, 7, 14, 0), (3, 0, 0, 0, 0), (7, 0, 0, 0, 1024), (63, 14, 0, 0, 0), (50, 5, 8, 14, 0), (3, 0, 0, 0, 0), (7, 0, 0, 0, 1024), (63, 14, 0, 0, 0), (50, 5, 9, 14, 0), (3, 0, 0, 0, 0), (7, 0, 0, 0, 1024), (63, 14, 0, 0, 0), (50, 5, 10, 14, 0), (74, 0, 0, 0, 0)]
def cd_X5_init : Nat → List LI := fun pc => if pc = 0 then b_X5_init_0 else []
def b_X5_findOrder_0 : List LI := [(3, 0, 0, 0, 0), (47, 5, 0, 3, 0), (67, 34, 1, 3, 3), (4, 1, 0, 0, 0), (3, 0, 0, 0, 0), (47, 5, 0, 3, 0), (7, 0, 0, 0, 0), (3, 0, 0, 0, 0), (47, 5, 6, 14, 0), (67, 46, 3, 3, 7), (3, 0, 0, 0, 0), (47, 5, 0, 3, 0), (7, 0, 0, 0, 255), (3, 0, 0, 0, 0), (47, 5, 7, 14, 0), (67, 46, 3, 3, 7), (3, 0, 0, 0, 0), (47, 5, 5, 14, 0), (7, 0, 0, 0, 0), (67, 315, 2, 0, 4), (3, 0, 0, 0, 0), (7, 0, 0, 0, 0), (1, 1, 0, 0, 0), (7, 0, 0, 0, 0), (67, 74, 4, 5, 9), (37, 1, 55, 0, 0), (7, 0, 0, 0, (-2)), (71, 0, 0, 0, 0)]
def b_X5_findOrder_55 : List LI := [(3, 0, 0, 0, 0), (1, 1, 0, 0, 0), (67, 312, 1, 0, 2), (48, 5, 3, 0, 0), (3, 0, 0, 0, 0), (47, 5, 4, 14, 0), (7, 0, 0, 0, 0), (3, 0, 0, 0, 0), (47, 5, 2, 14, 0), (7, 0, 0, 0, 0), (7, 0, 0, 0, 8), (69, 0, 0, 0, 0), (3, 0, 0, 0, 0), (45, 5, 3, 0, 0), (71, 0, 0, 0, 0)]
def cd_X5_findOrder : Nat → List LI := fun pc => if pc = 0 then b_X5_findOrder_0 else if pc = 55 then b_X5_findOrder_55 else []
def b_X5_leadsOn_0 : List LI := [(1, 1, 0, 0, 0), (1, 2, 0, 0, 0), (36, 0, 11, 0, 0), (1, 3, 0, 0, 0), (7, 0, 0, 0, 8), (36, 2, 22, 0, 0), (0, 11, 0, 0, 0)]
def b_X5_leadsOn_11 : List LI := [(1, 1, 0, 0, 0), (1, 2, 0, 0, 0), (36, 1, 20, 0, 0), (7, 0, 0, 0, 1), (40, 21, 0, 0, 0)]
def b_X5_leadsOn_20 : List LI := [(7, 0, 0, 0, 0), (0, 21, 0, 0, 0)]
def b_X5_leadsOn_21 : List LI := [(71, 1, 0, 0, 0)]
def b_X5_leadsOn_22 : List LI := [(7, 0, 0, 0, 0), (4, 4, 0, 0, 0), (0, 25, 0, 0, 0)]
def b_X5_leadsOn_25 : List LI := [(1, 4, 0, 0, 0), (7, 0, 0, 0, 8), (36, 3, 109, 0, 0), (1, 1, 0, 0, 0), (7, 0, 0, 0, 1), (1, 4, 0, 0, 0), (16, 0, 0, 0, 0), (20, 0, 0, 0, 0), (4, 5, 0, 0, 0), (1, 2, 0, 0, 0), (1, 1, 0, 0, 0), (7, 0, 0, 0, (-1)), (21, 0, 0, 0, 0), (19, 0, 0, 0, 0), (1, 4, 0, 0, 0), (67, 194, 2, 0, 4), (37, 0, 103, 0, 0), (3, 0, 0, 0, 0), (47, 5, 5, 14, 0), (1, 5, 0, 0, 0), (52, 0, 0, 0, 0), (37, 1, 103, 0, 0), (3, 0, 0, 0, 0), (47, 5, 4, 14, 0), (1, 3, 0, 0, 0), (1, 4, 0, 0, 0), (57, 0, 0, 0, 0), (3, 0, 0, 0, 0), (1, 5, 0, 0, 0), (67, 75, 2, 5, 5), (37, 0, 95, 0, 0), (3, 0, 0, 0, 0), (1, 5, 0, 0, 0), (1, 2, 0, 0, 0), (1, 3, 0, 0, 0), (7, 0, 0, 0, 1), (10, 0, 0, 0, 0), (67, 74, 4, 5, 9), (37, 0, 95, 0, 0), (7, 0, 0, 0, 1), (71, 1, 0, 0, 0)]
def b_X5_leadsOn_95 : List LI := [(3, 0, 0, 0, 0), (47, 5, 5, 14, 0), (1, 5, 0, 0, 0), (7, 0, 0, 0, 1), (57, 0, 0, 0, 0), (0, 103, 0, 0, 0)]
def b_X5_leadsOn_103 : List LI := [(35, 4, 0, 0, 1), (40, 25, 0, 0, 0)]
def b_X5_leadsOn_109 : List LI := [(7, 0, 0, 0, 0), (71, 1, 0, 0, 0)]
def cd_X5_leadsOn : Nat → List LI := fun pc => if pc = 0 then b_X5_leadsOn_0 else if pc = 11 then b_X5_leadsOn_11 else if pc = 20 then b_X5_leadsOn_20 else if pc = 21 then b_X5_leadsOn_21 else if pc = 22 then b_X5_leadsOn_22 else if pc = 25 then b_X5_leadsOn_25 else if pc = 95 then b_X5_leadsOn_95 else if pc = 103 then b_X5_leadsOn_103 else if pc = 109 then b_X5_leadsOn_109 else []
def b_X5_isSafe_0 : List LI := [(3, 0, 0, 0, 0), (47, 5, 0, 3, 0), (1, 1, 0, 0, 0), (67, 45, 2, 3, 5), (6, 2, 0, 0, 0), (7, 0, 0, 0, 0), (4, 3, 0, 0, 0), (0, 11, 0, 0, 0)]
def b_X5_isSafe_11 : List LI := [(1, 3, 0, 0, 0), (7, 0, 0, 0, 512), (36, 3, 48, 0, 0), (3, 0, 0, 0, 0), (47, 5, 0, 3, 0), (1, 3, 0, 0, 0), (67, 38, 2, 3, 5), (37, 0, 42, 0, 0), (3, 0, 0, 0, 0), (1, 3, 0, 0, 0), (3, 2, 0, 0, 0), (1, 3, 0, 0, 0), (52, 0, 0, 0, 0), (67, 76, 3, 5, 7), (37, 0, 42, 0, 0), (7, 0, 0, 0, 0), (71, 1, 0, 0, 0)]
def b_X5_isSafe_42 : List LI := [(35, 3, 0, 0, 1), (40, 11, 0, 0, 0)]
def b_X5_isSafe_48 : List LI := [(7, 0, 0, 0, 1), (71, 1, 0, 0, 0)]
def cd_X5_isSafe : Nat → List LI := fun pc => if pc = 0 then b_X5_isSafe_0 else if pc = 11 then b_X5_isSafe_11 else if pc = 42 then b_X5_isSafe_42 else if pc = 48 then b_X5_isSafe_48 else []
def b_X5_isNeither_0 : List LI := [(1, 2, 0, 0, 0), (3, 0, 0, 0, 0), (47, 5, 6, 14, 0), (1, 1, 0, 0, 0), (52, 0, 0, 0, 0), (36, 0, 24, 0, 0), (1, 2, 0, 0, 0), (3, 0, 0, 0, 0), (47, 5, 7, 14, 0), (1, 1, 0, 0, 0), (52, 0, 0, 0, 0), (36, 0, 24, 0, 0), (7, 0, 0, 0, 1), (40, 25, 0, 0, 0)]
def b_X5_isNeither_24 : List LI := [(7, 0, 0, 0, 0), (0, 25, 0, 0, 0)]
def b_X5_isNeither_25 : List LI := [(71, 1, 0, 0, 0)]
def cd_X5_isNeither : Nat → List LI := fun pc => if pc = 0 then b_X5_isNeither_0 else if pc = 24 then b_X5_isNeither_24 else if pc = 25 then b_X5_isNeither_25 else []
def b_X5_versionIn_0 : List LI := [(1, 1, 0, 0, 0), (7, 0, 0, 0, (-1)), (36, 0, 14, 0, 0), (1, 1, 0, 0, 0), (1, 0, 0, 0, 0), (36, 4, 14, 0, 0), (7, 0, 0, 0, 1), (40, 15, 0, 0, 0)]
def b_X5_versionIn_14 : List LI := [(7, 0, 0, 0, 0), (0, 15, 0, 0, 0)]
def b_X5_versionIn_15 : List LI := [(71, 0, 0, 0, 0)]
def cd_X5_versionIn : Nat → List LI := fun pc => if pc = 0 then b_X5_versionIn_0 else if pc = 14 then b_X5_versionIn_14 else if pc = 15 then b_X5_versionIn_15 else []
def b_X5_watch_0 : List LI := [(1, 1, 0, 0, 0), (4, 3, 0, 0, 0), (7, 0, 0, 0, 0), (4, 4, 0, 0, 0), (0, 5, 0, 0, 0)]
def b_X5_watch_5 : List LI := [(1, 4, 0, 0, 0), (7, 0, 0, 0, 100), (36, 3, 61, 0, 0), (3, 0, 0, 0, 0), (47, 5, 0, 3, 0), (1, 3, 0, 0, 0), (1, 2, 0, 0, 0), (1, 4, 0, 0, 0), (10, 0, 0, 0, 0), (3, 0, 0, 0, 0), (47, 5, 1, 14, 0), (1, 3, 0, 0, 0), (7, 0, 0, 0, 6), (17, 0, 0, 0, 0), (52, 0, 0, 0, 0), (67, 77, 2, 0, 4), (67, 39, 3, 3, 7), (4, 5, 0, 0, 0), (1, 5, 0, 0, 0), (67, 40, 1, 0, 2), (37, 1, 52, 0, 0), (1, 5, 0, 0, 0), (67, 41, 1, 0, 2), (71, 0, 0, 0, 0)]
def b_X5_watch_52 : List LI := [(1, 5, 0, 0, 0), (4, 3, 0, 0, 0), (35, 4, 0, 0, 1), (40, 5, 0, 0, 0)]
def b_X5_watch_61 : List LI := [(7, 0, 0, 0, (-3)), (71, 0, 0, 0, 0)]
def cd_X5_watch : Nat → List LI := fun pc => if pc = 0 then b_X5_watch_0 else if pc = 5 then b_X5_watch_5 else if pc = 52 then b_X5_watch_52 else if pc = 61 then b_X5_watch_61 else []
def b_X5_countNeither_0 : List LI := [(7, 0, 0, 0, 0), (4, 3, 0, 0, 0), (7, 0, 0, 0, 0), (4, 4, 0, 0, 0), (0, 5, 0, 0, 0)]
def b_X5_countNeither_5 : List LI := [(1, 4, 0, 0, 0), (7, 0, 0, 0, 8), (36, 3, 40, 0, 0), (1, 3, 0, 0, 0), (3, 0, 0, 0, 0), (47, 5, 1, 14, 0), (1, 4, 0, 0, 0), (52, 0, 0, 0, 0), (7, 0, 0, 0, (-1)), (36, 1, 28, 0, 0), (7, 0, 0, 0, 0), (40, 32, 0, 0, 0)]
def b_X5_countNeither_28 : List LI := [(7, 0, 0, 0, 1), (1, 4, 0, 0, 0), (16, 0, 0, 0, 0), (0, 32, 0, 0, 0)]
def b_X5_countNeither_32 : List LI := [(20, 0, 0, 0, 0), (4, 3, 0, 0, 0), (35, 4, 0, 0, 1), (40, 5, 0, 0, 0)]
def b_X5_countNeither_40 : List LI := [(3, 0, 0, 0, 0), (47, 5, 0, 3, 0), (7, 0, 0, 0, 0), (3, 0, 0, 0, 0), (47, 5, 6, 14, 0), (67, 46, 3, 3, 7), (3, 0, 0, 0, 0), (47, 5, 0, 3, 0), (1, 3, 0, 0, 0), (3, 0, 0, 0, 0), (47, 5, 7, 14, 0), (67, 46, 3, 3, 7), (7, 0, 0, 0, 0), (4, 4, 0, 0, 0), (7, 0, 0, 0, 0), (4, 5, 0, 0, 0), (0, 70, 0, 0, 0)]
def b_X5_countNeither_70 : List LI := [(1, 5, 0, 0, 0), (7, 0, 0, 0, 512), (36, 3, 124, 0, 0), (3, 0, 0, 0, 0), (47, 5, 0, 3, 0), (1, 5, 0, 0, 0), (67, 38, 2, 3, 5), (37, 0, 118, 0, 0), (3, 0, 0, 0, 0), (1, 5, 0, 0, 0), (3, 0, 0, 0, 0), (1, 5, 0, 0, 0), (1, 1, 0, 0, 0), (67, 78, 3, 5, 7), (67, 76, 3, 5, 7), (37, 0, 118, 0, 0), (1, 4, 0, 0, 0), (1, 2, 0, 0, 0), (36, 1, 115, 0, 0), (1, 5, 0, 0, 0), (71, 0, 0, 0, 0)]
def b_X5_countNeither_115 : List LI := [(35, 4, 0, 0, 1), (0, 118, 0, 0, 0)]
def b_X5_countNeither_118 : List LI := [(35, 5, 0, 0, 1), (40, 70, 0, 0, 0)]
def b_X5_countNeither_124 : List LI := [(1, 2, 0, 0, 0), (7, 0, 0, 0, (-1)), (36, 1, 134, 0, 0), (1, 4, 0, 0, 0), (40, 135, 0, 0, 0)]
def b_X5_countNeither_134 : List LI := [(7, 0, 0, 0, (-1)), (0, 135, 0, 0, 0)]
def b_X5_countNeither_135 : List LI := [(71, 0, 0, 0, 0)]
def cd_X5_countNeither : Nat → List LI := fun pc => if pc = 0 then b_X5_countNeither_0 else if pc = 5 then b_X5_countNeither_5 else if pc = 28 then b_X5_countNeither_28 else if pc = 32 then b_X5_countNeither_32 else if pc = 40 then b_X5_countNeither_40 else if pc = 70 then b_X5_countNeither_70 else if pc = 115 then b_X5_countNeither_115 else if pc = 118 then b_X5_countNeither_118 else if pc = 124 then b_X5_countNeither_124 else if pc = 134 then b_X5_countNeither_134 else if pc = 135 then b_X5_countNeither_135 else []
def b_X5_findGap_0 : List LI := [(3, 0, 0, 0, 0), (45, 5, 3, 0, 0), (37, 4, 9, 0, 0), (7, 0, 0, 0, (-1)), (71, 0, 0, 0, 0)]
def b_X5_findGap_9 : List LI := [(7, 0, 0, 0, 0), (4, 1, 0, 0, 0), (7, 0, 0, 0, 0), (4, 2, 0, 0, 0), (0, 13, 0, 0, 0)]
def b_X5_findGap_13 : List LI := [(1, 2, 0, 0, 0), (3, 0, 0, 0, 0), (45, 5, 3, 0, 0), (36, 3, 38, 0, 0), (1, 1, 0, 0, 0), (7, 0, 0, 0, 1), (3, 0, 0, 0, 0), (47, 5, 2, 14, 0), (1, 2, 0, 0, 0), (52, 0, 0, 0, 0), (16, 0, 0, 0, 0), (20, 0, 0, 0, 0), (4, 1, 0, 0, 0), (35, 2, 0, 0, 1), (40, 13, 0, 0, 0)]
def b_X5_findGap_38 : List LI := [(3, 0, 0, 0, 0), (47, 5, 0, 3, 0), (7, 0, 0, 0, 0), (3, 0, 0, 0, 0), (47, 5, 6, 14, 0), (67, 46, 3, 3, 7), (3, 0, 0, 0, 0), (47, 5, 0, 3, 0), (1, 1, 0, 0, 0), (3, 0, 0, 0, 0), (47, 5, 7, 14, 0), (67, 46, 3, 3, 7), (3, 0, 0, 0, 0), (1, 1, 0, 0, 0), (67, 81, 2, 5, 5), (3, 0, 0, 0, 0), (3, 0, 0, 0, 0), (47, 5, 8, 14, 0), (67, 85, 2, 5, 5), (37, 1, 81, 0, 0), (7, 0, 0, 0, (-2)), (71, 0, 0, 0, 0)]
def b_X5_findGap_81 : List LI := [(7, 0, 0, 0, 1), (4, 2, 0, 0, 0), (0, 83, 0, 0, 0)]
def b_X5_findGap_83 : List LI := [(1, 2, 0, 0, 0), (7, 0, 0, 0, 9), (36, 4, 105, 0, 0), (3, 0, 0, 0, 0), (1, 2, 0, 0, 0), (67, 82, 2, 5, 5), (37, 0, 99, 0, 0), (1, 2, 0, 0, 0), (71, 0, 0, 0, 0)]
def b_X5_findGap_99 : List LI := [(35, 2, 0, 0, 1), (40, 83, 0, 0, 0)]
def b_X5_findGap_105 : List LI := [(7, 0, 0, 0, (-2)), (71, 0, 0, 0, 0)]
def cd_X5_findGap : Nat → List LI := fun pc => if pc = 0 then b_X5_findGap_0 else if pc = 9 then b_X5_findGap_9 else if pc = 13 then b_X5_findGap_13 else if pc = 38 then b_X5_findGap_38 else if pc = 81 then b_X5_findGap_81 else if pc = 83 then b_X5_findGap_83 else if pc = 99 then b_X5_findGap_99 else if pc = 105 then b_X5_findGap_105 else []
def b_X5_settleAll_0 : List LI := [(7, 0, 0, 0, 0), (4, 2, 0, 0, 0), (0, 2, 0, 0, 0)]
def b_X5_settleAll_2 : List LI := [(1, 2, 0, 0, 0), (7, 0, 0, 0, 512), (36, 3, 111, 0, 0), (1, 2, 0, 0, 0), (4, 3, 0, 0, 0), (7, 0, 0, 0, 0), (4, 4, 0, 0, 0), (7, 0, 0, 0, 0), (4, 5, 0, 0, 0), (0, 17, 0, 0, 0)]
def b_X5_settleAll_17 : List LI := [(1, 5, 0, 0, 0), (7, 0, 0, 0, 100), (36, 3, 57, 0, 0), (1, 3, 0, 0, 0), (67, 40, 1, 0, 2), (37, 0, 57, 0, 0), (3, 0, 0, 0, 0), (47, 5, 0, 3, 0), (1, 3, 0, 0, 0), (1, 3, 0, 0, 0), (1, 1, 0, 0, 0), (67, 42, 2, 0, 4), (67, 39, 3, 3, 7), (4, 3, 0, 0, 0), (1, 5, 0, 0, 0), (7, 0, 0, 0, 1), (10, 0, 0, 0, 0), (4, 4, 0, 0, 0), (35, 5, 0, 0, 1), (40, 17, 0, 0, 0)]
def b_X5_settleAll_57 : List LI := [(3, 0, 0, 0, 0), (47, 5, 8, 14, 0), (7, 0, 0, 0, 2), (1, 2, 0, 0, 0), (12, 0, 0, 0, 0), (1, 3, 0, 0, 0), (67, 40, 1, 0, 2), (37, 0, 76, 0, 0), (7, 0, 0, 0, (-3)), (40, 80, 0, 0, 0)]
def b_X5_settleAll_76 : List LI := [(1, 3, 0, 0, 0), (67, 41, 1, 0, 2), (0, 80, 0, 0, 0)]
def b_X5_settleAll_80 : List LI := [(57, 0, 0, 0, 0), (3, 0, 0, 0, 0), (47, 5, 8, 14, 0), (7, 0, 0, 0, 2), (1, 2, 0, 0, 0), (12, 0, 0, 0, 0), (7, 0, 0, 0, 1), (10, 0, 0, 0, 0), (1, 3, 0, 0, 0), (67, 40, 1, 0, 2), (37, 0, 102, 0, 0), (7, 0, 0, 0, 101), (40, 104, 0, 0, 0)]
def b_X5_settleAll_102 : List LI := [(1, 4, 0, 0, 0), (0, 104, 0, 0, 0)]
def b_X5_settleAll_104 : List LI := [(57, 0, 0, 0, 0), (35, 2, 0, 0, 1), (40, 2, 0, 0, 0)]
def b_X5_settleAll_111 : List LI := [(74, 0, 0, 0, 0)]
def cd_X5_settleAll : Nat → List LI := fun pc => if pc = 0 then b_X5_settleAll_0 else if pc = 2 then b_X5_settleAll_2 else if pc = 17 then b_X5_settleAll_17 else if pc = 57 then b_X5_settleAll_57 else if pc = 76 then b_X5_settleAll_76 else if pc = 80 then b_X5_settleAll_80 else if pc = 102 then b_X5_settleAll_102 else if pc = 104 then b_X5_settleAll_104 else if pc = 111 then b_X5_settleAll_111 else []
def b_X5_isQuiet_0 : List LI := [(3, 0, 0, 0, 0), (47, 5, 8, 14, 0), (7, 0, 0, 0, 0), (3, 0, 0, 0, 0), (47, 5, 9, 14, 0), (7, 0, 0, 0, 0), (7, 0, 0, 0, 1024), (69, 0, 0, 0, 0), (1, 1, 0, 0, 0), (3, 0, 0, 0, 0), (45, 5, 3, 0, 0), (7, 0, 0, 0, 1), (11, 0, 0, 0, 0), (12, 0, 0, 0, 0), (7, 0, 0, 0, 1), (11, 0, 0, 0, 0), (4, 2, 0, 0, 0), (0, 27, 0, 0, 0)]
def b_X5_isQuiet_27 : List LI := [(1, 2, 0, 0, 0), (37, 2, 78, 0, 0), (3, 0, 0, 0, 0), (3, 0, 0, 0, 0), (1, 2, 0, 0, 0), (1, 1, 0, 0, 0), (67, 83, 3, 5, 7), (67, 84, 2, 5, 5), (3, 0, 0, 0, 0), (47, 5, 9, 14, 0), (6, 3, 0, 0, 0), (3, 0, 0, 0, 0), (3, 0, 0, 0, 0), (47, 5, 10, 14, 0), (50, 5, 9, 14, 0), (3, 0, 0, 0, 0), (3, 3, 0, 0, 0), (50, 5, 10, 14, 0), (3, 0, 0, 0, 0), (3, 0, 0, 0, 0), (47, 5, 9, 14, 0), (67, 85, 2, 5, 5), (37, 1, 72, 0, 0), (7, 0, 0, 0, 0), (71, 1, 0, 0, 0)]
def b_X5_isQuiet_72 : List LI := [(35, 2, 0, 0, (-1)), (40, 27, 0, 0, 0)]
def b_X5_isQuiet_78 : List LI := [(7, 0, 0, 0, 1), (71, 1, 0, 0, 0)]
def cd_X5_isQuiet : Nat → List LI := fun pc => if pc = 0 then b_X5_isQuiet_0 else if pc = 27 then b_X5_isQuiet_27 else if pc = 72 then b_X5_isQuiet_72 else if pc = 78 then b_X5_isQuiet_78 else []
def b_X5_writtenBy_0 : List LI := [(7, 0, 0, 0, 0), (4, 3, 0, 0, 0), (7, 0, 0, 0, 0), (4, 4, 0, 0, 0), (0, 5, 0, 0, 0)]
def b_X5_writtenBy_5 : List LI := [(1, 4, 0, 0, 0), (3, 0, 0, 0, 0), (45, 5, 3, 0, 0), (36, 3, 44, 0, 0), (1, 3, 0, 0, 0), (1, 4, 0, 0, 0), (1, 2, 0, 0, 0), (12, 0, 0, 0, 0), (1, 1, 0, 0, 0), (36, 4, 35, 0, 0), (7, 0, 0, 0, 1), (3, 0, 0, 0, 0), (47, 5, 2, 14, 0), (1, 4, 0, 0, 0), (52, 0, 0, 0, 0), (16, 0, 0, 0, 0), (40, 36, 0, 0, 0)]
def b_X5_writtenBy_35 : List LI := [(7, 0, 0, 0, 0), (0, 36, 0, 0, 0)]
def b_X5_writtenBy_36 : List LI := [(20, 0, 0, 0, 0), (4, 3, 0, 0, 0), (35, 4, 0, 0, 1), (40, 5, 0, 0, 0)]
def b_X5_writtenBy_44 : List LI := [(1, 3, 0, 0, 0), (71, 0, 0, 0, 0)]
def cd_X5_writtenBy : Nat → List LI := fun pc => if pc = 0 then b_X5_writtenBy_0 else if pc = 5 then b_X5_writtenBy_5 else if pc = 35 then b_X5_writtenBy_35 else if pc = 36 then b_X5_writtenBy_36 else if pc = 44 then b_X5_writtenBy_44 else []
def b_X5_goBackTo_0 : List LI := [(7, 0, 0, 0, 0), (4, 2, 0, 0, 0), (0, 2, 0, 0, 0)]
def b_X5_goBackTo_2 : List LI := [(1, 2, 0, 0, 0), (7, 0, 0, 0, 512), (36, 3, 99, 0, 0), (3, 0, 0, 0, 0), (47, 5, 0, 3, 0), (1, 2, 0, 0, 0), (1, 2, 0, 0, 0), (1, 1, 0, 0, 0), (67, 42, 2, 0, 4), (67, 39, 3, 3, 7), (4, 3, 0, 0, 0), (1, 3, 0, 0, 0), (67, 40, 1, 0, 2), (4, 4, 0, 0, 0), (3, 0, 0, 0, 0), (47, 5, 10, 14, 0), (7, 0, 0, 0, 2), (1, 2, 0, 0, 0), (12, 0, 0, 0, 0), (1, 4, 0, 0, 0), (37, 0, 52, 0, 0), (3, 0, 0, 0, 0), (47, 5, 9, 14, 0), (7, 0, 0, 0, 2), (1, 3, 0, 0, 0), (12, 0, 0, 0, 0), (52, 0, 0, 0, 0), (40, 56, 0, 0, 0)]
def b_X5_goBackTo_52 : List LI := [(1, 3, 0, 0, 0), (67, 41, 1, 0, 2), (0, 56, 0, 0, 0)]
def b_X5_goBackTo_56 : List LI := [(57, 0, 0, 0, 0), (3, 0, 0, 0, 0), (47, 5, 10, 14, 0), (7, 0, 0, 0, 2), (1, 2, 0, 0, 0), (12, 0, 0, 0, 0), (7, 0, 0, 0, 1), (10, 0, 0, 0, 0), (1, 4, 0, 0, 0), (37, 0, 91, 0, 0), (3, 0, 0, 0, 0), (47, 5, 9, 14, 0), (7, 0, 0, 0, 2), (1, 3, 0, 0, 0), (12, 0, 0, 0, 0), (7, 0, 0, 0, 1), (10, 0, 0, 0, 0), (52, 0, 0, 0, 0), (7, 0, 0, 0, 100), (76, 0, 0, 0, 0), (7, 0, 0, 0, 1), (10, 0, 0, 0, 0), (40, 92, 0, 0, 0)]
def b_X5_goBackTo_91 : List LI := [(7, 0, 0, 0, 1), (0, 92, 0, 0, 0)]
def b_X5_goBackTo_92 : List LI := [(57, 0, 0, 0, 0), (35, 2, 0, 0, 1), (40, 2, 0, 0, 0)]
def b_X5_goBackTo_99 : List LI := [(74, 0, 0, 0, 0)]
def cd_X5_goBackTo : Nat → List LI := fun pc => if pc = 0 then b_X5_goBackTo_0 else if pc = 2 then b_X5_goBackTo_2 else if pc = 52 then b_X5_goBackTo_52 else if pc = 56 then b_X5_goBackTo_56 else if pc = 91 then b_X5_goBackTo_91 else if pc = 92 then b_X5_goBackTo_92 else if pc = 99 then b_X5_goBackTo_99 else []
def b_X5_isQuietAhead_0 : List LI := [(7, 0, 0, 0, 0), (4, 2, 0, 0, 0), (0, 2, 0, 0, 0)]
def b_X5_isQuietAhead_2 : List LI := [(1, 2, 0, 0, 0), (7, 0, 0, 0, 512), (36, 3, 60, 0, 0), (3, 1, 0, 0, 0), (7, 0, 0, 0, 2), (1, 2, 0, 0, 0), (12, 0, 0, 0, 0), (7, 0, 0, 0, 1), (10, 0, 0, 0, 0), (52, 0, 0, 0, 0), (7, 0, 0, 0, 100), (36, 5, 26, 0, 0), (7, 0, 0, 0, (-3)), (40, 31, 0, 0, 0)]
def b_X5_isQuietAhead_26 : List LI := [(3, 1, 0, 0, 0), (7, 0, 0, 0, 2), (1, 2, 0, 0, 0), (12, 0, 0, 0, 0), (52, 0, 0, 0, 0), (0, 31, 0, 0, 0)]
def b_X5_isQuietAhead_31 : List LI := [(4, 3, 0, 0, 0), (3, 0, 0, 0, 0), (47, 5, 0, 3, 0), (1, 2, 0, 0, 0), (67, 38, 2, 3, 5), (37, 0, 54, 0, 0), (3, 0, 0, 0, 0), (1, 2, 0, 0, 0), (1, 3, 0, 0, 0), (67, 76, 3, 5, 7), (37, 0, 54, 0, 0), (7, 0, 0, 0, 0), (71, 1, 0, 0, 0)]
def b_X5_isQuietAhead_54 : List LI := [(35, 2, 0, 0, 1), (40, 2, 0, 0, 0)]
def b_X5_isQuietAhead_60 : List LI := [(7, 0, 0, 0, 1), (71, 1, 0, 0, 0)]
def cd_X5_isQuietAhead : Nat → List LI := fun pc => if pc = 0 then b_X5_isQuietAhead_0 else if pc = 2 then b_X5_isQuietAhead_2 else if pc = 26 then b_X5_isQuietAhead_26 else if pc = 31 then b_X5_isQuietAhead_31 else if pc = 54 then b_X5_isQuietAhead_54 else if pc = 60 then b_X5_isQuietAhead_60 else []
def b_X6_init_0 : List LI := [(3, 0, 0, 0, 0), (68, 0, 0, 0, 0), (3, 0, 0, 0, 0), (3, 1, 0, 0, 0), (50, 6, 0, 3, 0), (3, 0, 0, 0, 0), (7, 0, 0, 0, 2), (63, 14, 0, 0, 0), (50, 6, 1, 14, 0), (3, 0, 0, 0, 0), (7, 0, 0, 0, 512), (63, 15, 0, 0, 0), (50, 6, 4, 15, 0), (3, 0, 0, 0, 0), (7, 0, 0, 0, 64), (63, 14, 0, 0, 0), (50, 6, 6, 14, 0), (74, 0, 0, 0, 0)]
def cd_X6_init : Nat → List LI := fun pc => if pc = 0 then b_X6_init_0 else []
def b_X6_strike_0 : List LI := [(3, 0, 0, 0, 0), (67, 91, 1, 6, 3), (5, 2, 0, 0, 0), (2, 2, 0, 0, 0), (67, 313, 1, 0, 4), (1, 1, 0, 0, 0), (36, 3, 15, 0, 0), (7, 0, 0, 0, (-1)), (71, 0, 0, 0, 0)]
def b_X6_strike_15 : List LI := [(3, 0, 0, 0, 0), (67, 92, 1, 6, 3), (3, 0, 0, 0, 0), (7, 0, 0, 0, (-1)), (48, 6, 3, 0, 0), (3, 0, 0, 0, 0), (1, 1, 0, 0, 0), (48, 6, 2, 0, 0), (7, 0, 0, 0, 0), (4, 4, 0, 0, 0), (0, 32, 0, 0, 0)]
def b_X6_strike_32 : List LI := [(1, 4, 0, 0, 0), (7, 0, 0, 0, 64), (36, 3, 88, 0, 0), (2, 2, 0, 0, 0), (1, 4, 0, 0, 0), (67, 90, 2, 0, 6), (37, 0, 82, 0, 0), (3, 0, 0, 0, 0), (1, 4, 0, 0, 0), (67, 94, 2, 6, 5), (4, 5, 0, 0, 0), (1, 1, 0, 0, 0), (7, 0, 0, 0, 1), (36, 1, 73, 0, 0), (3, 0, 0, 0, 0), (1, 5, 0, 0, 0), (1, 4, 0, 0, 0), (7, 0, 0, 0, (-1)), (67, 89, 4, 6, 9), (40, 82, 0, 0, 0)]
def b_X6_strike_73 : List LI := [(3, 0, 0, 0, 0), (1, 5, 0, 0, 0), (1, 4, 0, 0, 0), (2, 2, 0, 0, 0), (67, 88, 4, 6, 11), (0, 82, 0, 0, 0)]
def b_X6_strike_82 : List LI := [(35, 4, 0, 0, 1), (40, 32, 0, 0, 0)]
def b_X6_strike_88 : List LI := [(3, 0, 0, 0, 0), (45, 6, 3, 0, 0), (71, 0, 0, 0, 0)]
def cd_X6_strike : Nat → List LI := fun pc => if pc = 0 then b_X6_strike_0 else if pc = 15 then b_X6_strike_15 else if pc = 32 then b_X6_strike_32 else if pc = 73 then b_X6_strike_73 else if pc = 82 then b_X6_strike_82 else if pc = 88 then b_X6_strike_88 else []
def b_X6_considerPairs_0 : List LI := [(1, 2, 0, 0, 0), (7, 0, 0, 0, 1), (10, 0, 0, 0, 0), (4, 5, 0, 0, 0), (0, 5, 0, 0, 0)]
def b_X6_considerPairs_5 : List LI := [(1, 5, 0, 0, 0), (7, 0, 0, 0, 64), (36, 3, 43, 0, 0), (2, 3, 0, 0, 0), (1, 5, 0, 0, 0), (67, 90, 2, 0, 6), (37, 0, 37, 0, 0), (3, 0, 0, 0, 0), (1, 1, 0, 0, 0), (3, 0, 0, 0, 0), (47, 6, 6, 14, 0), (1, 5, 0, 0, 0), (52, 0, 0, 0, 0), (10, 0, 0, 0, 0), (1, 2, 0, 0, 0), (1, 5, 0, 0, 0), (67, 89, 4, 6, 9), (0, 37, 0, 0, 0)]
def b_X6_considerPairs_37 : List LI := [(35, 5, 0, 0, 1), (40, 5, 0, 0, 0)]
def b_X6_considerPairs_43 : List LI := [(74, 0, 0, 0, 0)]
def cd_X6_considerPairs : Nat → List LI := fun pc => if pc = 0 then b_X6_considerPairs_0 else if pc = 5 then b_X6_considerPairs_5 else if pc = 37 then b_X6_considerPairs_37 else if pc = 43 then b_X6_considerPairs_43 else []
def b_X6_consider_0 : List LI := [(1, 1, 0, 0, 0), (3, 0, 0, 0, 0), (45, 6, 3, 0, 0), (36, 5, 27, 0, 0), (3, 0, 0, 0, 0), (1, 1, 0, 0, 0), (48, 6, 3, 0, 0), (3, 0, 0, 0, 0), (47, 6, 1, 14, 0), (7, 0, 0, 0, 0), (1, 2, 0, 0, 0), (57, 0, 0, 0, 0), (3, 0, 0, 0, 0), (47, 6, 1, 14, 0), (7, 0, 0, 0, 1), (1, 3, 0, 0, 0), (57, 0, 0, 0, 0), (0, 27, 0, 0, 0)]
def b_X6_consider_27 : List LI := [(74, 0, 0, 0, 0)]
def cd_X6_consider : Nat → List LI := fun pc => if pc = 0 then b_X6_consider_0 else if pc = 27 then b_X6_consider_27 else []
def b_X6_isAmong_0 : List LI := [(2, 0, 0, 0, 0), (1, 2, 0, 0, 0), (30, 0, 0, 0, 0), (8, 0, 0, 0, 1), (25, 0, 0, 0, 0), (8, 0, 0, 0, 0), (31, 0, 0, 0, 0), (37, 0, 14, 0, 0), (7, 0, 0, 0, 1), (40, 15, 0, 0, 0)]
def b_X6_isAmong_14 : List LI := [(7, 0, 0, 0, 0), (0, 15, 0, 0, 0)]
def b_X6_isAmong_15 : List LI := [(71, 1, 0, 0, 0)]
def cd_X6_isAmong : Nat → List LI := fun pc => if pc = 0 then b_X6_isAmong_0 else if pc = 14 then b_X6_isAmong_14 else if pc = 15 then b_X6_isAmong_15 else []
def b_X6_linesInUse_0 : List LI := [(8, 0, 0, 0, 0), (5, 1, 0, 0, 0), (7, 0, 0, 0, 0), (4, 3, 0, 0, 0), (0, 4, 0, 0, 0)]
def b_X6_linesInUse_4 : List LI := [(1, 3, 0, 0, 0), (7, 0, 0, 0, 8), (36, 3, 76, 0, 0), (3, 0, 0, 0, 0), (47, 6, 0, 3, 0), (47, 3, 0, 17, 0), (1, 3, 0, 0, 0), (56, 17, 0, 7, 0), (6, 4, 0, 0, 0), (7, 0, 0, 0, 0), (4, 5, 0, 0, 0), (0, 24, 0, 0, 0)]
def b_X6_linesInUse_24 : List LI := [(1, 5, 0, 0, 0), (3, 4, 0, 0, 0), (45, 7, 3, 0, 0), (36, 3, 70, 0, 0), (1, 3, 0, 0, 0), (3, 4, 0, 0, 0), (47, 7, 2, 14, 0), (1, 5, 0, 0, 0), (52, 0, 0, 0, 0), (67, 193, 2, 0, 4), (37, 0, 64, 0, 0), (2, 1, 0, 0, 0), (1, 3, 0, 0, 0), (3, 4, 0, 0, 0), (47, 7, 2, 14, 0), (1, 5, 0, 0, 0), (52, 0, 0, 0, 0), (67, 36, 2, 0, 4), (26, 0, 0, 0, 0), (5, 1, 0, 0, 0), (0, 64, 0, 0, 0)]
def b_X6_linesInUse_64 : List LI := [(35, 5, 0, 0, 1), (40, 24, 0, 0, 0)]
def b_X6_linesInUse_70 : List LI := [(35, 3, 0, 0, 1), (40, 4, 0, 0, 0)]
def b_X6_linesInUse_76 : List LI := [(2, 1, 0, 0, 0), (3, 0, 0, 0, 0), (47, 6, 0, 3, 0), (46, 3, 1, 0, 0), (8, 0, 0, 0, (-1)), (27, 0, 0, 0, 0), (25, 0, 0, 0, 0), (72, 0, 0, 0, 0)]
def cd_X6_linesInUse : Nat → List LI := fun pc => if pc = 0 then b_X6_linesInUse_0 else if pc = 4 then b_X6_linesInUse_4 else if pc = 24 then b_X6_linesInUse_24 else if pc = 64 then b_X6_linesInUse_64 else if pc = 70 then b_X6_linesInUse_70 else if pc = 76 then b_X6_linesInUse_76 else []
def b_X6_keepTrails_0 : List LI := [(3, 0, 0, 0, 0), (47, 6, 0, 3, 0), (7, 0, 0, 0, 0), (67, 45, 2, 3, 5), (6, 1, 0, 0, 0), (3, 0, 0, 0, 0), (7, 0, 0, 0, 0), (48, 6, 5, 0, 0), (7, 0, 0, 0, 0), (4, 2, 0, 0, 0), (0, 16, 0, 0, 0)]
def b_X6_keepTrails_16 : List LI := [(1, 2, 0, 0, 0), (7, 0, 0, 0, 512), (36, 3, 70, 0, 0), (3, 0, 0, 0, 0), (47, 6, 0, 3, 0), (1, 2, 0, 0, 0), (67, 38, 2, 3, 5), (37, 0, 64, 0, 0), (3, 1, 0, 0, 0), (1, 2, 0, 0, 0), (52, 0, 0, 0, 0), (37, 2, 64, 0, 0), (3, 0, 0, 0, 0), (47, 6, 4, 15, 0), (3, 0, 0, 0, 0), (45, 6, 5, 0, 0), (3, 0, 0, 0, 0), (1, 2, 0, 0, 0), (67, 93, 2, 6, 5), (58, 0, 0, 0, 0), (3, 0, 0, 0, 0), (42, 0, 0, 0, 0), (45, 6, 5, 0, 0), (7, 0, 0, 0, 1), (10, 0, 0, 0, 0), (48, 6, 5, 0, 0), (0, 64, 0, 0, 0)]
def b_X6_keepTrails_64 : List LI := [(35, 2, 0, 0, 1), (40, 16, 0, 0, 0)]
def b_X6_keepTrails_70 : List LI := [(74, 0, 0, 0, 0)]
def cd_X6_keepTrails : Nat → List LI := fun pc => if pc = 0 then b_X6_keepTrails_0 else if pc = 16 then b_X6_keepTrails_16 else if pc = 64 then b_X6_keepTrails_64 else if pc = 70 then b_X6_keepTrails_70 else []
def b_X6_trailOf_0 : List LI := [(8, 0, 0, 0, 0), (5, 2, 0, 0, 0), (1, 1, 0, 0, 0), (4, 4, 0, 0, 0), (7, 0, 0, 0, 0), (4, 5, 0, 0, 0), (0, 8, 0, 0, 0)]
def b_X6_trailOf_8 : List LI := [(1, 5, 0, 0, 0), (7, 0, 0, 0, 512), (36, 3, 80, 0, 0), (3, 0, 0, 0, 0), (47, 6, 0, 3, 0), (1, 4, 0, 0, 0), (7, 0, 0, 0, 0), (67, 39, 3, 3, 7), (4, 6, 0, 0, 0), (1, 6, 0, 0, 0), (67, 40, 1, 0, 2), (37, 1, 38, 0, 0), (2, 2, 0, 0, 0), (72, 0, 0, 0, 0)]
def b_X6_trailOf_38 : List LI := [(1, 4, 0, 0, 0), (7, 0, 0, 0, 6), (17, 0, 0, 0, 0), (1, 6, 0, 0, 0), (7, 0, 0, 0, 6), (17, 0, 0, 0, 0), (67, 193, 2, 0, 4), (37, 0, 70, 0, 0), (2, 2, 0, 0, 0), (1, 4, 0, 0, 0), (7, 0, 0, 0, 6), (17, 0, 0, 0, 0), (1, 6, 0, 0, 0), (7, 0, 0, 0, 6), (17, 0, 0, 0, 0), (67, 36, 2, 0, 4), (26, 0, 0, 0, 0), (5, 2, 0, 0, 0), (0, 70, 0, 0, 0)]
def b_X6_trailOf_70 : List LI := [(1, 6, 0, 0, 0), (4, 4, 0, 0, 0), (35, 5, 0, 0, 1), (40, 8, 0, 0, 0)]
def b_X6_trailOf_80 : List LI := [(2, 2, 0, 0, 0), (72, 0, 0, 0, 0)]
def cd_X6_trailOf : Nat → List LI := fun pc => if pc = 0 then b_X6_trailOf_0 else if pc = 8 then b_X6_trailOf_8 else if pc = 38 then b_X6_trailOf_38 else if pc = 70 then b_X6_trailOf_70 else if pc = 80 then b_X6_trailOf_80 else []
def b_X6_countHit_0 : List LI := [(3, 0, 0, 0, 0), (47, 6, 6, 14, 0), (7, 0, 0, 0, 0), (67, 315, 2, 0, 4), (7, 0, 0, 0, 0), (4, 2, 0, 0, 0), (7, 0, 0, 0, 0), (4, 3, 0, 0, 0), (0, 12, 0, 0, 0)]
def b_X6_countHit_12 : List LI := [(1, 3, 0, 0, 0), (3, 0, 0, 0, 0), (45, 6, 5, 0, 0), (36, 3, 90, 0, 0), (3, 0, 0, 0, 0), (47, 6, 4, 15, 0), (1, 3, 0, 0, 0), (53, 0, 0, 0, 0), (5, 4, 0, 0, 0), (2, 4, 0, 0, 0), (1, 1, 0, 0, 0), (67, 90, 2, 0, 6), (37, 0, 43, 0, 0), (35, 2, 0, 0, 1), (40, 84, 0, 0, 0)]
def b_X6_countHit_43 : List LI := [(2, 4, 0, 0, 0), (67, 313, 1, 0, 4), (4, 6, 0, 0, 0), (0, 50, 0, 0, 0)]
def b_X6_countHit_50 : List LI := [(1, 6, 0, 0, 0), (37, 5, 84, 0, 0), (3, 0, 0, 0, 0), (47, 6, 6, 14, 0), (2, 4, 0, 0, 0), (67, 195, 1, 0, 4), (43, 0, 0, 0, 0), (52, 0, 0, 0, 0), (7, 0, 0, 0, 1), (10, 0, 0, 0, 0), (57, 0, 0, 0, 0), (2, 4, 0, 0, 0), (2, 4, 0, 0, 0), (8, 0, 0, 0, 1), (23, 0, 0, 0, 0), (25, 0, 0, 0, 0), (5, 4, 0, 0, 0), (35, 6, 0, 0, (-1)), (40, 50, 0, 0, 0)]
def b_X6_countHit_84 : List LI := [(35, 3, 0, 0, 1), (40, 12, 0, 0, 0)]
def b_X6_countHit_90 : List LI := [(1, 2, 0, 0, 0), (71, 0, 0, 0, 0)]
def cd_X6_countHit : Nat → List LI := fun pc => if pc = 0 then b_X6_countHit_0 else if pc = 12 then b_X6_countHit_12 else if pc = 43 then b_X6_countHit_43 else if pc = 50 then b_X6_countHit_50 else if pc = 84 then b_X6_countHit_84 else if pc = 90 then b_X6_countHit_90 else []
def b_X7_init_0 : List LI := [(3, 0, 0, 0, 0), (68, 0, 0, 0, 0), (3, 0, 0, 0, 0), (7, 0, 0, 0, 12), (63, 14, 0, 0, 0), (50, 7, 0, 14, 0), (3, 0, 0, 0, 0), (7, 0, 0, 0, 12), (63, 14, 0, 0, 0), (50, 7, 1, 14, 0), (3, 0, 0, 0, 0), (7, 0, 0, 0, 12), (63, 14, 0, 0, 0), (50, 7, 2, 14, 0), (3, 0, 0, 0, 0), (7, 0, 0, 0, 64), (63, 14, 0, 0, 0), (50, 7, 4, 14, 0), (3, 0, 0, 0, 0), (7, 0, 0, 0, 64), (63, 14, 0, 0, 0), (50, 7, 5, 14, 0), (3, 0, 0, 0, 0), (47, 7, 4, 14, 0), (7, 0, 0, 0, (-1)), (67, 315, 2, 0, 4), (3, 0, 0, 0, 0), (47, 7, 5, 14, 0), (7, 0, 0, 0, (-2)), (67, 315, 2, 0, 4), (74, 0, 0, 0, 0)]
def cd_X7_init : Nat → List LI := fun pc => if pc = 0 then b_X7_init_0 else []
def b_X7_add_0 : List LI := [(3, 0, 0, 0, 0), (45, 7, 3, 0, 0), (7, 0, 0, 0, 12), (36, 2, 11, 0, 0), (7, 0, 0, 0, (-1)), (71, 0, 0, 0, 0)]
def b_X7_add_11 : List LI := [(3, 0, 0, 0, 0), (47, 7, 0, 14, 0), (3, 0, 0, 0, 0), (45, 7, 3, 0, 0), (1, 1, 0, 0, 0), (57, 0, 0, 0, 0), (3, 0, 0, 0, 0), (47, 7, 1, 14, 0), (3, 0, 0, 0, 0), (45, 7, 3, 0, 0), (1, 2, 0, 0, 0), (57, 0, 0, 0, 0), (3, 0, 0, 0, 0), (47, 7, 2, 14, 0), (3, 0, 0, 0, 0), (45, 7, 3, 0, 0), (1, 3, 0, 0, 0), (57, 0, 0, 0, 0), (7, 0, 0, 0, 0), (4, 4, 0, 0, 0), (0, 44, 0, 0, 0)]
def b_X7_add_44 : List LI := [(1, 4, 0, 0, 0), (7, 0, 0, 0, 64), (36, 3, 105, 0, 0), (3, 0, 0, 0, 0), (47, 7, 4, 14, 0), (1, 4, 0, 0, 0), (52, 0, 0, 0, 0), (7, 0, 0, 0, (-1)), (36, 1, 99, 0, 0), (1, 1, 0, 0, 0), (1, 4, 0, 0, 0), (67, 101, 2, 0, 4), (37, 0, 99, 0, 0), (3, 0, 0, 0, 0), (47, 7, 4, 14, 0), (1, 4, 0, 0, 0), (3, 0, 0, 0, 0), (45, 7, 3, 0, 0), (57, 0, 0, 0, 0), (3, 0, 0, 0, 0), (47, 7, 5, 14, 0), (1, 4, 0, 0, 0), (3, 0, 0, 0, 0), (3, 0, 0, 0, 0), (45, 7, 3, 0, 0), (1, 4, 0, 0, 0), (67, 102, 3, 7, 7), (57, 0, 0, 0, 0), (0, 99, 0, 0, 0)]
def b_X7_add_99 : List LI := [(35, 4, 0, 0, 1), (40, 44, 0, 0, 0)]
def b_X7_add_105 : List LI := [(3, 0, 0, 0, 0), (42, 0, 0, 0, 0), (45, 7, 3, 0, 0), (7, 0, 0, 0, 1), (10, 0, 0, 0, 0), (48, 7, 3, 0, 0), (3, 0, 0, 0, 0), (45, 7, 3, 0, 0), (7, 0, 0, 0, 1), (11, 0, 0, 0, 0), (71, 0, 0, 0, 0)]
def cd_X7_add : Nat → List LI := fun pc => if pc = 0 then b_X7_add_0 else if pc = 11 then b_X7_add_11 else if pc = 44 then b_X7_add_44 else if pc = 99 then b_X7_add_99 else if pc = 105 then b_X7_add_105 else []
def b_X7_clear_0 : List LI := [(3, 0, 0, 0, 0), (7, 0, 0, 0, 0), (48, 7, 3, 0, 0), (3, 0, 0, 0, 0), (47, 7, 4, 14, 0), (7, 0, 0, 0, (-1)), (67, 315, 2, 0, 4), (3, 0, 0, 0, 0), (47, 7, 5, 14, 0), (7, 0, 0, 0, (-2)), (67, 315, 2, 0, 4), (74, 0, 0, 0, 0)]
def cd_X7_clear : Nat → List LI := fun pc => if pc = 0 then b_X7_clear_0 else []
def b_X7_takeFrom_0 : List LI := [(3, 1, 0, 0, 0), (47, 7, 0, 14, 0), (7, 0, 0, 0, 0), (3, 0, 0, 0, 0), (47, 7, 0, 14, 0), (7, 0, 0, 0, 0), (7, 0, 0, 0, 12), (69, 0, 0, 0, 0), (3, 1, 0, 0, 0), (47, 7, 1, 14, 0), (7, 0, 0, 0, 0), (3, 0, 0, 0, 0), (47, 7, 1, 14, 0), (7, 0, 0, 0, 0), (7, 0, 0, 0, 12), (69, 0, 0, 0, 0), (3, 1, 0, 0, 0), (47, 7, 2, 14, 0), (7, 0, 0, 0, 0), (3, 0, 0, 0, 0), (47, 7, 2, 14, 0), (7, 0, 0, 0, 0), (7, 0, 0, 0, 12), (69, 0, 0, 0, 0), (3, 1, 0, 0, 0), (47, 7, 4, 14, 0), (7, 0, 0, 0, 0), (3, 0, 0, 0, 0), (47, 7, 4, 14, 0), (7, 0, 0, 0, 0), (7, 0, 0, 0, 64), (69, 0, 0, 0, 0), (3, 1, 0, 0, 0), (47, 7, 5, 14, 0), (7, 0, 0, 0, 0), (3, 0, 0, 0, 0), (47, 7, 5, 14, 0), (7, 0, 0, 0, 0), (7, 0, 0, 0, 64), (69, 0, 0, 0, 0), (3, 0, 0, 0, 0), (3, 1, 0, 0, 0), (45, 7, 3, 0, 0), (48, 7, 3, 0, 0), (74, 0, 0, 0, 0)]
def cd_X7_takeFrom : Nat → List LI := fun pc => if pc = 0 then b_X7_takeFrom_0 else []
def b_X7_isAlike_0 : List LI := [(3, 0, 0, 0, 0), (45, 7, 3, 0, 0), (3, 1, 0, 0, 0), (45, 7, 3, 0, 0), (36, 0, 13, 0, 0), (7, 0, 0, 0, 0), (71, 1, 0, 0, 0)]
def b_X7_isAlike_13 : List LI := [(7, 0, 0, 0, 0), (4, 2, 0, 0, 0), (0, 15, 0, 0, 0)]
def b_X7_isAlike_15 : List LI := [(1, 2, 0, 0, 0), (3, 0, 0, 0, 0), (45, 7, 3, 0, 0), (36, 3, 76, 0, 0), (3, 0, 0, 0, 0), (47, 7, 0, 14, 0), (1, 2, 0, 0, 0), (52, 0, 0, 0, 0), (3, 1, 0, 0, 0), (47, 7, 0, 14, 0), (1, 2, 0, 0, 0), (52, 0, 0, 0, 0), (36, 1, 68, 0, 0), (3, 0, 0, 0, 0), (47, 7, 1, 14, 0), (1, 2, 0, 0, 0), (52, 0, 0, 0, 0), (3, 1, 0, 0, 0), (47, 7, 1, 14, 0), (1, 2, 0, 0, 0), (52, 0, 0, 0, 0), (36, 1, 68, 0, 0), (3, 0, 0, 0, 0), (47, 7, 2, 14, 0), (1, 2, 0, 0, 0), (52, 0, 0, 0, 0), (3, 1, 0, 0, 0), (47, 7, 2, 14, 0), (1, 2, 0, 0, 0), (52, 0, 0, 0, 0), (36, 0, 70, 0, 0), (0, 68, 0, 0, 0)]
def b_X7_isAlike_68 : List LI := [(7, 0, 0, 0, 0), (71, 1, 0, 0, 0)]
def b_X7_isAlike_70 : List LI := [(35, 2, 0, 0, 1), (40, 15, 0, 0, 0)]
def b_X7_isAlike_76 : List LI := [(7, 0, 0, 0, 1), (71, 1, 0, 0, 0)]
def cd_X7_isAlike : Nat → List LI := fun pc => if pc = 0 then b_X7_isAlike_0 else if pc = 13 then b_X7_isAlike_13 else if pc = 15 then b_X7_isAlike_15 else if pc = 68 then b_X7_isAlike_68 else if pc = 70 then b_X7_isAlike_70 else if pc = 76 then b_X7_isAlike_76 else []
def b_X7_toldOf_0 : List LI := [(1, 1, 0, 0, 0), (37, 1, 11, 0, 0), (1, 0, 0, 0, 0), (7, 0, 0, 0, 25), (13, 0, 0, 0, 0), (40, 27, 0, 0, 0)]
def b_X7_toldOf_11 : List LI := [(1, 1, 0, 0, 0), (7, 0, 0, 0, 1), (36, 1, 24, 0, 0), (1, 0, 0, 0, 0), (7, 0, 0, 0, 5), (13, 0, 0, 0, 0), (7, 0, 0, 0, 5), (14, 0, 0, 0, 0), (40, 27, 0, 0, 0)]
def b_X7_toldOf_24 : List LI := [(1, 0, 0, 0, 0), (7, 0, 0, 0, 5), (14, 0, 0, 0, 0), (0, 27, 0, 0, 0)]
def b_X7_toldOf_27 : List LI := [(71, 0, 0, 0, 0)]
def cd_X7_toldOf : Nat → List LI := fun pc => if pc = 0 then b_X7_toldOf_0 else if pc = 11 then b_X7_toldOf_11 else if pc = 24 then b_X7_toldOf_24 else if pc = 27 then b_X7_toldOf_27 else []
def b_X7_isMatch_0 : List LI := [(7, 0, 0, 0, 0), (4, 2, 0, 0, 0), (0, 2, 0, 0, 0)]
def b_X7_isMatch_2 : List LI := [(1, 2, 0, 0, 0), (7, 0, 0, 0, 3), (36, 3, 36, 0, 0), (1, 0, 0, 0, 0), (1, 2, 0, 0, 0), (67, 100, 2, 0, 4), (4, 3, 0, 0, 0), (1, 3, 0, 0, 0), (37, 0, 30, 0, 0), (1, 3, 0, 0, 0), (7, 0, 0, 0, 1), (11, 0, 0, 0, 0), (1, 1, 0, 0, 0), (1, 2, 0, 0, 0), (67, 196, 2, 0, 4), (36, 0, 30, 0, 0), (7, 0, 0, 0, 0), (71, 1, 0, 0, 0)]
def b_X7_isMatch_30 : List LI := [(35, 2, 0, 0, 1), (40, 2, 0, 0, 0)]
def b_X7_isMatch_36 : List LI := [(7, 0, 0, 0, 1), (71, 1, 0, 0, 0)]
def cd_X7_isMatch : Nat → List LI := fun pc => if pc = 0 then b_X7_isMatch_0 else if pc = 2 then b_X7_isMatch_2 else if pc = 30 then b_X7_isMatch_30 else if pc = 36 then b_X7_isMatch_36 else []
def b_X7_deedOf_0 : List LI := [(3, 0, 0, 0, 0), (47, 7, 2, 14, 0), (1, 1, 0, 0, 0), (52, 0, 0, 0, 0), (7, 0, 0, 0, 9), (36, 1, 14, 0, 0), (7, 0, 0, 0, (-2)), (71, 0, 0, 0, 0)]
def b_X7_deedOf_14 : List LI := [(1, 2, 0, 0, 0), (4, 3, 0, 0, 0), (7, 0, 0, 0, 0), (4, 4, 0, 0, 0), (0, 19, 0, 0, 0)]
def b_X7_deedOf_19 : List LI := [(1, 4, 0, 0, 0), (7, 0, 0, 0, 3), (36, 3, 60, 0, 0), (3, 0, 0, 0, 0), (47, 7, 1, 14, 0), (1, 1, 0, 0, 0), (52, 0, 0, 0, 0), (1, 4, 0, 0, 0), (67, 100, 2, 0, 4), (4, 5, 0, 0, 0), (1, 5, 0, 0, 0), (37, 0, 54, 0, 0), (1, 3, 0, 0, 0), (1, 4, 0, 0, 0), (1, 5, 0, 0, 0), (7, 0, 0, 0, 1), (11, 0, 0, 0, 0), (67, 197, 3, 0, 6), (4, 3, 0, 0, 0), (0, 54, 0, 0, 0)]
def b_X7_deedOf_54 : List LI := [(35, 4, 0, 0, 1), (40, 19, 0, 0, 0)]
def b_X7_deedOf_60 : List LI := [(7, 0, 0, 0, 64), (3, 0, 0, 0, 0), (47, 7, 2, 14, 0), (1, 1, 0, 0, 0), (52, 0, 0, 0, 0), (12, 0, 0, 0, 0), (1, 3, 0, 0, 0), (10, 0, 0, 0, 0), (71, 0, 0, 0, 0)]
def cd_X7_deedOf : Nat → List LI := fun pc => if pc = 0 then b_X7_deedOf_0 else if pc = 14 then b_X7_deedOf_14 else if pc = 19 then b_X7_deedOf_19 else if pc = 54 then b_X7_deedOf_54 else if pc = 60 then b_X7_deedOf_60 else []
def b_X7_fewestRows_0 : List LI := [(7, 0, 0, 0, 12), (63, 15, 0, 0, 0), (6, 1, 0, 0, 0), (7, 0, 0, 0, 12), (63, 15, 0, 0, 0), (6, 2, 0, 0, 0), (8, 0, 0, 0, 0), (5, 3, 0, 0, 0), (7, 0, 0, 0, 0), (4, 5, 0, 0, 0), (0, 15, 0, 0, 0)]
def b_X7_fewestRows_15 : List LI := [(1, 5, 0, 0, 0), (7, 0, 0, 0, 64), (36, 3, 51, 0, 0), (2, 3, 0, 0, 0), (3, 0, 0, 0, 0), (47, 7, 5, 14, 0), (1, 5, 0, 0, 0), (52, 0, 0, 0, 0), (7, 0, 0, 0, (-2)), (36, 1, 42, 0, 0), (8, 0, 0, 0, 1), (1, 5, 0, 0, 0), (28, 0, 0, 0, 0), (40, 43, 0, 0, 0)]
def b_X7_fewestRows_42 : List LI := [(8, 0, 0, 0, 0), (0, 43, 0, 0, 0)]
def b_X7_fewestRows_43 : List LI := [(26, 0, 0, 0, 0), (5, 3, 0, 0, 0), (35, 5, 0, 0, 1), (40, 15, 0, 0, 0)]
def b_X7_fewestRows_51 : List LI := [(7, 0, 0, 0, 0), (4, 5, 0, 0, 0), (0, 54, 0, 0, 0)]
def b_X7_fewestRows_54 : List LI := [(1, 5, 0, 0, 0), (3, 0, 0, 0, 0), (45, 7, 3, 0, 0), (36, 3, 97, 0, 0), (3, 1, 0, 0, 0), (1, 5, 0, 0, 0), (3, 0, 0, 0, 0), (47, 7, 0, 14, 0), (1, 5, 0, 0, 0), (52, 0, 0, 0, 0), (67, 104, 1, 0, 2), (58, 0, 0, 0, 0), (3, 2, 0, 0, 0), (1, 5, 0, 0, 0), (3, 0, 0, 0, 0), (1, 5, 0, 0, 0), (3, 1, 0, 0, 0), (1, 5, 0, 0, 0), (53, 0, 0, 0, 0), (67, 105, 3, 7, 9), (58, 0, 0, 0, 0), (35, 5, 0, 0, 1), (40, 54, 0, 0, 0)]
def b_X7_fewestRows_97 : List LI := [(7, 0, 0, 0, 1), (3, 0, 0, 0, 0), (45, 7, 3, 0, 0), (16, 0, 0, 0, 0), (7, 0, 0, 0, 1), (11, 0, 0, 0, 0), (4, 5, 0, 0, 0), (3, 0, 0, 0, 0), (45, 7, 3, 0, 0), (4, 6, 0, 0, 0), (7, 0, 0, 0, 0), (4, 7, 0, 0, 0), (0, 116, 0, 0, 0)]
def b_X7_fewestRows_116 : List LI := [(1, 7, 0, 0, 0), (7, 0, 0, 0, 1), (3, 0, 0, 0, 0), (45, 7, 3, 0, 0), (16, 0, 0, 0, 0), (36, 3, 167, 0, 0), (1, 7, 0, 0, 0), (67, 312, 1, 0, 2), (4, 8, 0, 0, 0), (1, 8, 0, 0, 0), (1, 6, 0, 0, 0), (36, 3, 161, 0, 0), (3, 0, 0, 0, 0), (1, 7, 0, 0, 0), (3, 1, 0, 0, 0), (3, 2, 0, 0, 0), (2, 3, 0, 0, 0), (67, 106, 5, 7, 13), (37, 0, 161, 0, 0), (1, 7, 0, 0, 0), (4, 5, 0, 0, 0), (1, 8, 0, 0, 0), (4, 6, 0, 0, 0), (0, 161, 0, 0, 0)]
def b_X7_fewestRows_161 : List LI := [(35, 7, 0, 0, 1), (40, 116, 0, 0, 0)]
def b_X7_fewestRows_167 : List LI := [(1, 5, 0, 0, 0), (71, 0, 0, 0, 0)]
def cd_X7_fewestRows : Nat → List LI := fun pc => if pc = 0 then b_X7_fewestRows_0 else if pc = 15 then b_X7_fewestRows_15 else if pc = 42 then b_X7_fewestRows_42 else if pc = 43 then b_X7_fewestRows_43 else if pc = 51 then b_X7_fewestRows_51 else if pc = 54 then b_X7_fewestRows_54 else if pc = 97 then b_X7_fewestRows_97 else if pc = 116 then b_X7_fewestRows_116 else if pc = 161 then b_X7_fewestRows_161 else if pc = 167 then b_X7_fewestRows_167 else []
def b_X7_packetsOf_0 : List LI := [(8, 0, 0, 0, 0), (5, 1, 0, 0, 0), (7, 0, 0, 0, 0), (4, 3, 0, 0, 0), (0, 4, 0, 0, 0)]
def b_X7_packetsOf_4 : List LI := [(1, 3, 0, 0, 0), (7, 0, 0, 0, 64), (36, 3, 34, 0, 0), (2, 1, 0, 0, 0), (1, 0, 0, 0, 0), (1, 3, 0, 0, 0), (67, 101, 2, 0, 4), (37, 0, 25, 0, 0), (8, 0, 0, 0, 1), (1, 3, 0, 0, 0), (28, 0, 0, 0, 0), (40, 26, 0, 0, 0)]
def b_X7_packetsOf_25 : List LI := [(8, 0, 0, 0, 0), (0, 26, 0, 0, 0)]
def b_X7_packetsOf_26 : List LI := [(26, 0, 0, 0, 0), (5, 1, 0, 0, 0), (35, 3, 0, 0, 1), (40, 4, 0, 0, 0)]
def b_X7_packetsOf_34 : List LI := [(2, 1, 0, 0, 0), (72, 0, 0, 0, 0)]
def cd_X7_packetsOf : Nat → List LI := fun pc => if pc = 0 then b_X7_packetsOf_0 else if pc = 4 then b_X7_packetsOf_4 else if pc = 25 then b_X7_packetsOf_25 else if pc = 26 then b_X7_packetsOf_26 else if pc = 34 then b_X7_packetsOf_34 else []
def b_X7_alikeBy_0 : List LI := [(8, 0, 0, 0, 0), (5, 4, 0, 0, 0), (7, 0, 0, 0, 0), (4, 6, 0, 0, 0), (0, 6, 0, 0, 0)]
def b_X7_alikeBy_6 : List LI := [(1, 6, 0, 0, 0), (7, 0, 0, 0, 64), (36, 3, 56, 0, 0), (2, 2, 0, 0, 0), (1, 6, 0, 0, 0), (30, 0, 0, 0, 0), (8, 0, 0, 0, 1), (25, 0, 0, 0, 0), (8, 0, 0, 0, 0), (31, 0, 0, 0, 0), (37, 0, 50, 0, 0), (3, 0, 0, 0, 0), (1, 1, 0, 0, 0), (1, 6, 0, 0, 0), (67, 102, 3, 7, 7), (3, 0, 0, 0, 0), (47, 7, 5, 14, 0), (1, 6, 0, 0, 0), (52, 0, 0, 0, 0), (36, 1, 50, 0, 0), (2, 4, 0, 0, 0), (8, 0, 0, 0, 1), (1, 6, 0, 0, 0), (28, 0, 0, 0, 0), (26, 0, 0, 0, 0), (5, 4, 0, 0, 0), (0, 50, 0, 0, 0)]
def b_X7_alikeBy_50 : List LI := [(35, 6, 0, 0, 1), (40, 6, 0, 0, 0)]
def b_X7_alikeBy_56 : List LI := [(2, 4, 0, 0, 0), (72, 0, 0, 0, 0)]
def cd_X7_alikeBy : Nat → List LI := fun pc => if pc = 0 then b_X7_alikeBy_0 else if pc = 6 then b_X7_alikeBy_6 else if pc = 50 then b_X7_alikeBy_50 else if pc = 56 then b_X7_alikeBy_56 else []
def b_X7_dealAlike_0 : List LI := [(8, 0, 0, 0, (-1)), (5, 6, 0, 0, 0), (7, 0, 0, 0, 0), (4, 8, 0, 0, 0), (0, 8, 0, 0, 0)]
def b_X7_dealAlike_8 : List LI := [(1, 8, 0, 0, 0), (3, 0, 0, 0, 0), (45, 7, 3, 0, 0), (36, 3, 68, 0, 0), (1, 1, 0, 0, 0), (1, 8, 0, 0, 0), (67, 194, 2, 0, 4), (37, 0, 62, 0, 0), (2, 6, 0, 0, 0), (3, 2, 0, 0, 0), (1, 8, 0, 0, 0), (53, 0, 0, 0, 0), (25, 0, 0, 0, 0), (3, 3, 0, 0, 0), (1, 8, 0, 0, 0), (53, 0, 0, 0, 0), (8, 0, 0, 0, (-1)), (27, 0, 0, 0, 0), (25, 0, 0, 0, 0), (8, 0, 0, 0, 0), (31, 0, 0, 0, 0), (37, 0, 49, 0, 0), (7, 0, 0, 0, 0), (71, 1, 0, 0, 0)]
def b_X7_dealAlike_49 : List LI := [(2, 6, 0, 0, 0), (3, 2, 0, 0, 0), (1, 8, 0, 0, 0), (53, 0, 0, 0, 0), (8, 0, 0, 0, (-1)), (27, 0, 0, 0, 0), (25, 0, 0, 0, 0), (5, 6, 0, 0, 0), (0, 62, 0, 0, 0)]
def b_X7_dealAlike_62 : List LI := [(35, 8, 0, 0, 1), (40, 8, 0, 0, 0)]
def b_X7_dealAlike_68 : List LI := [(2, 6, 0, 0, 0), (2, 4, 0, 0, 0), (8, 0, 0, 0, (-1)), (27, 0, 0, 0, 0), (25, 0, 0, 0, 0), (8, 0, 0, 0, 0), (31, 0, 0, 0, 0), (37, 1, 86, 0, 0), (7, 0, 0, 0, 1), (40, 87, 0, 0, 0)]
def b_X7_dealAlike_86 : List LI := [(7, 0, 0, 0, 0), (0, 87, 0, 0, 0)]
def b_X7_dealAlike_87 : List LI := [(71, 1, 0, 0, 0)]
def cd_X7_dealAlike : Nat → List LI := fun pc => if pc = 0 then b_X7_dealAlike_0 else if pc = 8 then b_X7_dealAlike_8 else if pc = 49 then b_X7_dealAlike_49 else if pc = 62 then b_X7_dealAlike_62 else if pc = 68 then b_X7_dealAlike_68 else if pc = 86 then b_X7_dealAlike_86 else if pc = 87 then b_X7_dealAlike_87 else []
def b_X7_remake_0 : List LI := [(7, 0, 0, 0, 64), (63, 14, 0, 0, 0), (6, 3, 0, 0, 0), (7, 0, 0, 0, 0), (4, 4, 0, 0, 0), (0, 8, 0, 0, 0)]
def b_X7_remake_8 : List LI := [(1, 4, 0, 0, 0), (7, 0, 0, 0, 64), (36, 3, 54, 0, 0), (7, 0, 0, 0, 64), (1, 2, 0, 0, 0), (12, 0, 0, 0, 0), (1, 4, 0, 0, 0), (10, 0, 0, 0, 0), (4, 5, 0, 0, 0), (3, 1, 0, 0, 0), (1, 5, 0, 0, 0), (67, 132, 2, 10, 5), (7, 0, 0, 0, 1), (36, 5, 37, 0, 0), (7, 0, 0, 0, (-3)), (71, 0, 0, 0, 0)]
def b_X7_remake_37 : List LI := [(3, 3, 0, 0, 0), (1, 4, 0, 0, 0), (3, 1, 0, 0, 0), (1, 5, 0, 0, 0), (7, 0, 0, 0, 0), (67, 133, 3, 10, 7), (57, 0, 0, 0, 0), (35, 4, 0, 0, 1), (40, 8, 0, 0, 0)]
def b_X7_remake_54 : List LI := [(66, 7, 0, 6, 0), (42, 0, 0, 0, 0), (67, 95, 1, 7, 3), (6, 4, 0, 0, 0), (3, 4, 0, 0, 0), (3, 3, 0, 0, 0), (1, 2, 0, 0, 0), (67, 108, 3, 7, 7), (37, 1, 76, 0, 0), (7, 0, 0, 0, (-2)), (71, 0, 0, 0, 0)]
def b_X7_remake_76 : List LI := [(3, 0, 0, 0, 0), (3, 4, 0, 0, 0), (67, 98, 2, 7, 5), (3, 0, 0, 0, 0), (45, 7, 3, 0, 0), (71, 0, 0, 0, 0)]
def cd_X7_remake : Nat → List LI := fun pc => if pc = 0 then b_X7_remake_0 else if pc = 8 then b_X7_remake_8 else if pc = 37 then b_X7_remake_37 else if pc = 54 then b_X7_remake_54 else if pc = 76 then b_X7_remake_76 else []
def b_X7_coverAll_0 : List LI := [(8, 0, 0, 0, (-1)), (5, 3, 0, 0, 0), (7, 0, 0, 0, 0), (4, 5, 0, 0, 0), (0, 7, 0, 0, 0)]
def b_X7_coverAll_7 : List LI := [(1, 5, 0, 0, 0), (7, 0, 0, 0, 3), (36, 4, 115, 0, 0), (7, 0, 0, 0, 0), (4, 6, 0, 0, 0), (0, 16, 0, 0, 0)]
def b_X7_coverAll_16 : List LI := [(1, 6, 0, 0, 0), (7, 0, 0, 0, 125), (36, 3, 109, 0, 0), (1, 6, 0, 0, 0), (67, 109, 1, 0, 2), (1, 5, 0, 0, 0), (36, 1, 43, 0, 0), (1, 6, 0, 0, 0), (67, 104, 1, 0, 2), (2, 3, 0, 0, 0), (25, 0, 0, 0, 0), (40, 44, 0, 0, 0)]
def b_X7_coverAll_43 : List LI := [(8, 0, 0, 0, 0), (0, 44, 0, 0, 0)]
def b_X7_coverAll_44 : List LI := [(5, 7, 0, 0, 0), (2, 7, 0, 0, 0), (8, 0, 0, 0, 0), (31, 0, 0, 0, 0), (37, 1, 57, 0, 0), (7, 0, 0, 0, (-1)), (40, 64, 0, 0, 0)]
def b_X7_coverAll_57 : List LI := [(1, 6, 0, 0, 0), (3, 1, 0, 0, 0), (1, 2, 0, 0, 0), (67, 110, 3, 0, 6), (0, 64, 0, 0, 0)]
def b_X7_coverAll_64 : List LI := [(4, 9, 0, 0, 0), (1, 9, 0, 0, 0), (7, 0, 0, 0, (-1)), (36, 0, 103, 0, 0), (3, 0, 0, 0, 0), (1, 6, 0, 0, 0), (1, 9, 0, 0, 0), (7, 0, 0, 0, 16), (13, 0, 0, 0, 0), (1, 9, 0, 0, 0), (7, 0, 0, 0, 16), (14, 0, 0, 0, 0), (67, 96, 4, 7, 9), (7, 0, 0, 0, (-1)), (36, 1, 94, 0, 0), (7, 0, 0, 0, 0), (71, 1, 0, 0, 0)]
def b_X7_coverAll_94 : List LI := [(2, 3, 0, 0, 0), (2, 7, 0, 0, 0), (8, 0, 0, 0, (-1)), (27, 0, 0, 0, 0), (25, 0, 0, 0, 0), (5, 3, 0, 0, 0), (0, 103, 0, 0, 0)]
def b_X7_coverAll_103 : List LI := [(35, 6, 0, 0, 1), (40, 16, 0, 0, 0)]
def b_X7_coverAll_109 : List LI := [(35, 5, 0, 0, 1), (40, 7, 0, 0, 0)]
def b_X7_coverAll_115 : List LI := [(7, 0, 0, 0, 1), (71, 1, 0, 0, 0)]
def cd_X7_coverAll : Nat → List LI := fun pc => if pc = 0 then b_X7_coverAll_0 else if pc = 7 then b_X7_coverAll_7 else if pc = 16 then b_X7_coverAll_16 else if pc = 43 then b_X7_coverAll_43 else if pc = 44 then b_X7_coverAll_44 else if pc = 57 then b_X7_coverAll_57 else if pc = 64 then b_X7_coverAll_64 else if pc = 94 then b_X7_coverAll_94 else if pc = 103 then b_X7_coverAll_103 else if pc = 109 then b_X7_coverAll_109 else if pc = 115 then b_X7_coverAll_115 else []
def b_X7_howManyTold_0 : List LI := [(7, 0, 0, 0, 0), (4, 1, 0, 0, 0), (7, 0, 0, 0, 0), (4, 2, 0, 0, 0), (0, 4, 0, 0, 0)]
def b_X7_howManyTold_4 : List LI := [(1, 2, 0, 0, 0), (7, 0, 0, 0, 3), (36, 3, 31, 0, 0), (1, 1, 0, 0, 0), (1, 0, 0, 0, 0), (1, 2, 0, 0, 0), (67, 100, 2, 0, 4), (37, 0, 22, 0, 0), (7, 0, 0, 0, 1), (40, 23, 0, 0, 0)]
def b_X7_howManyTold_22 : List LI := [(7, 0, 0, 0, 0), (0, 23, 0, 0, 0)]
def b_X7_howManyTold_23 : List LI := [(10, 0, 0, 0, 0), (4, 1, 0, 0, 0), (35, 2, 0, 0, 1), (40, 4, 0, 0, 0)]
def b_X7_howManyTold_31 : List LI := [(1, 1, 0, 0, 0), (71, 0, 0, 0, 0)]
def cd_X7_howManyTold : Nat → List LI := fun pc => if pc = 0 then b_X7_howManyTold_0 else if pc = 4 then b_X7_howManyTold_4 else if pc = 22 then b_X7_howManyTold_22 else if pc = 23 then b_X7_howManyTold_23 else if pc = 31 then b_X7_howManyTold_31 else []
def b_X7_rightRow_0 : List LI := [(7, 0, 0, 0, (-1)), (4, 3, 0, 0, 0), (7, 0, 0, 0, 0), (4, 4, 0, 0, 0), (7, 0, 0, 0, 0), (4, 5, 0, 0, 0), (7, 0, 0, 0, 0), (4, 6, 0, 0, 0), (0, 11, 0, 0, 0)]
def b_X7_rightRow_11 : List LI := [(1, 6, 0, 0, 0), (7, 0, 0, 0, 64), (36, 3, 83, 0, 0), (1, 0, 0, 0, 0), (1, 6, 0, 0, 0), (67, 101, 2, 0, 4), (37, 0, 77, 0, 0), (1, 4, 0, 0, 0), (37, 1, 39, 0, 0), (3, 1, 0, 0, 0), (1, 6, 0, 0, 0), (52, 0, 0, 0, 0), (40, 40, 0, 0, 0)]
def b_X7_rightRow_39 : List LI := [(1, 3, 0, 0, 0), (0, 40, 0, 0, 0)]
def b_X7_rightRow_40 : List LI := [(4, 3, 0, 0, 0), (1, 4, 0, 0, 0), (3, 1, 0, 0, 0), (1, 6, 0, 0, 0), (52, 0, 0, 0, 0), (7, 0, 0, 0, (-1)), (36, 1, 55, 0, 0), (7, 0, 0, 0, 0), (40, 56, 0, 0, 0)]
def b_X7_rightRow_55 : List LI := [(7, 0, 0, 0, 1), (0, 56, 0, 0, 0)]
def b_X7_rightRow_56 : List LI := [(10, 0, 0, 0, 0), (4, 4, 0, 0, 0), (1, 5, 0, 0, 0), (3, 1, 0, 0, 0), (1, 6, 0, 0, 0), (52, 0, 0, 0, 0), (7, 0, 0, 0, (-1)), (36, 1, 73, 0, 0), (7, 0, 0, 0, 1), (40, 74, 0, 0, 0)]
def b_X7_rightRow_73 : List LI := [(7, 0, 0, 0, 0), (0, 74, 0, 0, 0)]
def b_X7_rightRow_74 : List LI := [(10, 0, 0, 0, 0), (4, 5, 0, 0, 0), (0, 77, 0, 0, 0)]
def b_X7_rightRow_77 : List LI := [(35, 6, 0, 0, 1), (40, 11, 0, 0, 0)]
def b_X7_rightRow_83 : List LI := [(1, 4, 0, 0, 0), (37, 1, 91, 0, 0), (7, 0, 0, 0, 9), (71, 0, 0, 0, 0)]
def b_X7_rightRow_91 : List LI := [(1, 5, 0, 0, 0), (37, 4, 105, 0, 0), (1, 0, 0, 0, 0), (7, 0, 0, 0, 3), (3, 1, 0, 0, 0), (67, 111, 3, 0, 6), (37, 1, 107, 0, 0), (0, 105, 0, 0, 0)]
def b_X7_rightRow_105 : List LI := [(7, 0, 0, 0, (-1)), (71, 0, 0, 0, 0)]
def b_X7_rightRow_107 : List LI := [(7, 0, 0, 0, 0), (4, 6, 0, 0, 0), (7, 0, 0, 0, 0), (4, 7, 0, 0, 0), (0, 113, 0, 0, 0)]
def b_X7_rightRow_113 : List LI := [(1, 7, 0, 0, 0), (7, 0, 0, 0, 3), (36, 3, 175, 0, 0), (1, 0, 0, 0, 0), (1, 7, 0, 0, 0), (3, 1, 0, 0, 0), (67, 112, 3, 0, 6), (4, 8, 0, 0, 0), (1, 8, 0, 0, 0), (37, 1, 145, 0, 0), (1, 0, 0, 0, 0), (1, 7, 0, 0, 0), (3, 1, 0, 0, 0), (67, 111, 3, 0, 6), (37, 1, 145, 0, 0), (7, 0, 0, 0, (-1)), (71, 0, 0, 0, 0)]
def b_X7_rightRow_145 : List LI := [(7, 0, 0, 0, 5), (1, 6, 0, 0, 0), (12, 0, 0, 0, 0), (1, 8, 0, 0, 0), (37, 0, 158, 0, 0), (7, 0, 0, 0, 0), (40, 166, 0, 0, 0)]
def b_X7_rightRow_158 : List LI := [(7, 0, 0, 0, 1), (1, 3, 0, 0, 0), (1, 7, 0, 0, 0), (67, 196, 2, 0, 4), (10, 0, 0, 0, 0), (0, 166, 0, 0, 0)]
def b_X7_rightRow_166 : List LI := [(10, 0, 0, 0, 0), (4, 6, 0, 0, 0), (35, 7, 0, 0, 1), (40, 113, 0, 0, 0)]
def b_X7_rightRow_175 : List LI := [(1, 3, 0, 0, 0), (7, 0, 0, 0, 3), (67, 196, 2, 0, 4), (4, 7, 0, 0, 0), (7, 0, 0, 0, 16), (1, 6, 0, 0, 0), (12, 0, 0, 0, 0), (1, 7, 0, 0, 0), (1, 2, 0, 0, 0), (36, 1, 198, 0, 0), (7, 0, 0, 0, 8), (40, 200, 0, 0, 0)]
def b_X7_rightRow_198 : List LI := [(1, 7, 0, 0, 0), (0, 200, 0, 0, 0)]
def b_X7_rightRow_200 : List LI := [(10, 0, 0, 0, 0), (71, 0, 0, 0, 0)]
def cd_X7_rightRow : Nat → List LI := fun pc => if pc = 0 then b_X7_rightRow_0 else if pc = 11 then b_X7_rightRow_11 else if pc = 39 then b_X7_rightRow_39 else if pc = 40 then b_X7_rightRow_40 else if pc = 55 then b_X7_rightRow_55 else if pc = 56 then b_X7_rightRow_56 else if pc = 73 then b_X7_rightRow_73 else if pc = 74 then b_X7_rightRow_74 else if pc = 77 then b_X7_rightRow_77 else if pc = 83 then b_X7_rightRow_83 else if pc = 91 then b_X7_rightRow_91 else if pc = 105 then b_X7_rightRow_105 else if pc = 107 then b_X7_rightRow_107 else if pc = 113 then b_X7_rightRow_113 else if pc = 145 then b_X7_rightRow_145 else if pc = 158 then b_X7_rightRow_158 else if pc = 166 then b_X7_rightRow_166 else if pc = 175 then b_X7_rightRow_175 else if pc = 198 then b_X7_rightRow_198 else if pc = 200 then b_X7_rightRow_200 else []
def b_X7_isOneFor_0 : List LI := [(7, 0, 0, 0, (-1)), (4, 3, 0, 0, 0), (7, 0, 0, 0, 0), (4, 4, 0, 0, 0), (0, 5, 0, 0, 0)]
def b_X7_isOneFor_5 : List LI := [(1, 4, 0, 0, 0), (7, 0, 0, 0, 64), (36, 3, 53, 0, 0), (1, 0, 0, 0, 0), (1, 4, 0, 0, 0), (67, 101, 2, 0, 4), (37, 0, 47, 0, 0), (3, 2, 0, 0, 0), (1, 4, 0, 0, 0), (52, 0, 0, 0, 0), (1, 1, 0, 0, 0), (67, 196, 2, 0, 4), (4, 5, 0, 0, 0), (1, 3, 0, 0, 0), (7, 0, 0, 0, (-1)), (36, 0, 44, 0, 0), (1, 3, 0, 0, 0), (1, 5, 0, 0, 0), (36, 0, 44, 0, 0), (7, 0, 0, 0, 0), (71, 1, 0, 0, 0)]
def b_X7_isOneFor_44 : List LI := [(1, 5, 0, 0, 0), (4, 3, 0, 0, 0), (0, 47, 0, 0, 0)]
def b_X7_isOneFor_47 : List LI := [(35, 4, 0, 0, 1), (40, 5, 0, 0, 0)]
def b_X7_isOneFor_53 : List LI := [(7, 0, 0, 0, 1), (71, 1, 0, 0, 0)]
def cd_X7_isOneFor : Nat → List LI := fun pc => if pc = 0 then b_X7_isOneFor_0 else if pc = 5 then b_X7_isOneFor_5 else if pc = 44 then b_X7_isOneFor_44 else if pc = 47 then b_X7_isOneFor_47 else if pc = 53 then b_X7_isOneFor_53 else []
def b_X7_staysFor_0 : List LI := [(7, 0, 0, 0, 0), (4, 3, 0, 0, 0), (0, 2, 0, 0, 0)]
def b_X7_staysFor_2 : List LI := [(1, 3, 0, 0, 0), (7, 0, 0, 0, 64), (36, 3, 39, 0, 0), (1, 0, 0, 0, 0), (1, 3, 0, 0, 0), (67, 101, 2, 0, 4), (37, 0, 33, 0, 0), (3, 2, 0, 0, 0), (1, 3, 0, 0, 0), (52, 0, 0, 0, 0), (1, 1, 0, 0, 0), (67, 196, 2, 0, 4), (1, 3, 0, 0, 0), (1, 1, 0, 0, 0), (67, 196, 2, 0, 4), (36, 0, 33, 0, 0), (7, 0, 0, 0, 0), (71, 1, 0, 0, 0)]
def b_X7_staysFor_33 : List LI := [(35, 3, 0, 0, 1), (40, 2, 0, 0, 0)]
def b_X7_staysFor_39 : List LI := [(7, 0, 0, 0, 1), (71, 1, 0, 0, 0)]
def cd_X7_staysFor : Nat → List LI := fun pc => if pc = 0 then b_X7_staysFor_0 else if pc = 2 then b_X7_staysFor_2 else if pc = 33 then b_X7_staysFor_33 else if pc = 39 then b_X7_staysFor_39 else []
def b_X8_init_0 : List LI := [(3, 0, 0, 0, 0), (68, 0, 0, 0, 0), (3, 0, 0, 0, 0), (7, 0, 0, 0, 200), (63, 14, 0, 0, 0), (50, 8, 0, 14, 0), (3, 0, 0, 0, 0), (66, 9, 0, 4, 0), (42, 0, 0, 0, 0), (7, 0, 0, 0, 200), (67, 127, 2, 9, 5), (50, 8, 2, 9, 0), (3, 0, 0, 0, 0), (7, 0, 0, 0, 200), (63, 14, 0, 0, 0), (50, 8, 3, 14, 0), (74, 0, 0, 0, 0)]
def cd_X8_init : Nat → List LI := fun pc => if pc = 0 then b_X8_init_0 else []
def b_X8_putAll_0 : List LI := [(3, 0, 0, 0, 0), (7, 0, 0, 0, 0), (48, 8, 1, 0, 0), (3, 0, 0, 0, 0), (3, 1, 0, 0, 0), (3, 1, 0, 0, 0), (45, 9, 3, 0, 0), (7, 0, 0, 0, 1), (11, 0, 0, 0, 0), (7, 0, 0, 0, 0), (7, 0, 0, 0, 0), (67, 116, 5, 8, 11), (3, 0, 0, 0, 0), (45, 8, 1, 0, 0), (71, 0, 0, 0, 0)]
def cd_X8_putAll : Nat → List LI := fun pc => if pc = 0 then b_X8_putAll_0 else []
def b_X8_putShorter_0 : List LI := [(3, 0, 0, 0, 0), (7, 0, 0, 0, 0), (48, 8, 1, 0, 0), (3, 0, 0, 0, 0), (3, 0, 0, 0, 0), (47, 8, 2, 9, 0), (3, 0, 0, 0, 0), (3, 1, 0, 0, 0), (67, 121, 2, 8, 5), (7, 0, 0, 0, 0), (7, 0, 0, 0, 0), (67, 116, 5, 8, 11), (3, 0, 0, 0, 0), (45, 8, 1, 0, 0), (71, 0, 0, 0, 0)]
def cd_X8_putShorter : Nat → List LI := fun pc => if pc = 0 then b_X8_putShorter_0 else []
def b_X8_put_0 : List LI := [(1, 4, 0, 0, 0), (7, 0, 0, 0, 40), (36, 4, 11, 0, 0), (1, 2, 0, 0, 0), (37, 3, 12, 0, 0), (0, 11, 0, 0, 0)]
def b_X8_put_11 : List LI := [(74, 0, 0, 0, 0)]
def b_X8_put_12 : List LI := [(1, 2, 0, 0, 0), (4, 5, 0, 0, 0), (7, 0, 0, 0, 0), (4, 6, 0, 0, 0), (7, 0, 0, 0, 0), (4, 7, 0, 0, 0), (0, 21, 0, 0, 0)]
def b_X8_put_21 : List LI := [(1, 7, 0, 0, 0), (7, 0, 0, 0, 200), (36, 3, 58, 0, 0), (3, 1, 0, 0, 0), (47, 9, 0, 14, 0), (1, 5, 0, 0, 0), (52, 0, 0, 0, 0), (7, 0, 0, 0, 5), (36, 1, 58, 0, 0), (3, 1, 0, 0, 0), (47, 9, 1, 14, 0), (1, 5, 0, 0, 0), (52, 0, 0, 0, 0), (4, 5, 0, 0, 0), (35, 6, 0, 0, 1), (35, 7, 0, 0, 1), (40, 21, 0, 0, 0)]
def b_X8_put_58 : List LI := [(3, 1, 0, 0, 0), (47, 9, 0, 14, 0), (1, 5, 0, 0, 0), (52, 0, 0, 0, 0), (67, 120, 1, 0, 2), (1, 6, 0, 0, 0), (37, 5, 77, 0, 0), (7, 0, 0, 0, 2), (40, 78, 0, 0, 0)]
def b_X8_put_77 : List LI := [(1, 3, 0, 0, 0), (0, 78, 0, 0, 0)]
def b_X8_put_78 : List LI := [(36, 3, 85, 0, 0), (7, 0, 0, 0, 1), (40, 86, 0, 0, 0)]
def b_X8_put_85 : List LI := [(7, 0, 0, 0, 0), (0, 86, 0, 0, 0)]
def b_X8_put_86 : List LI := [(4, 7, 0, 0, 0), (1, 7, 0, 0, 0), (37, 0, 99, 0, 0), (3, 0, 0, 0, 0), (7, 0, 0, 0, 40), (67, 119, 2, 8, 5), (0, 99, 0, 0, 0)]
def b_X8_put_99 : List LI := [(3, 0, 0, 0, 0), (3, 1, 0, 0, 0), (1, 5, 0, 0, 0), (1, 4, 0, 0, 0), (67, 117, 4, 8, 9), (1, 7, 0, 0, 0), (37, 0, 119, 0, 0), (3, 0, 0, 0, 0), (7, 0, 0, 0, 41), (67, 119, 2, 8, 5), (0, 119, 0, 0, 0)]
def b_X8_put_119 : List LI := [(7, 0, 0, 0, 0), (4, 8, 0, 0, 0), (0, 122, 0, 0, 0)]
def b_X8_put_122 : List LI := [(1, 8, 0, 0, 0), (1, 6, 0, 0, 0), (36, 3, 141, 0, 0), (3, 0, 0, 0, 0), (7, 0, 0, 0, 42), (67, 119, 2, 8, 5), (35, 8, 0, 0, 1), (40, 122, 0, 0, 0)]
def b_X8_put_141 : List LI := [(74, 0, 0, 0, 0)]
def cd_X8_put : Nat → List LI := fun pc => if pc = 0 then b_X8_put_0 else if pc = 11 then b_X8_put_11 else if pc = 12 then b_X8_put_12 else if pc = 21 then b_X8_put_21 else if pc = 58 then b_X8_put_58 else if pc = 77 then b_X8_put_77 else if pc = 78 then b_X8_put_78 else if pc = 85 then b_X8_put_85 else if pc = 86 then b_X8_put_86 else if pc = 99 then b_X8_put_99 else if pc = 119 then b_X8_put_119 else if pc = 122 then b_X8_put_122 else if pc = 141 then b_X8_put_141 else []
def b_X8_putBare_0 : List LI := [(3, 1, 0, 0, 0), (47, 9, 0, 14, 0), (1, 2, 0, 0, 0), (52, 0, 0, 0, 0), (4, 4, 0, 0, 0), (1, 4, 0, 0, 0), (7, 0, 0, 0, 7), (36, 1, 54, 0, 0), (3, 0, 0, 0, 0), (3, 1, 0, 0, 0), (3, 1, 0, 0, 0), (47, 9, 1, 14, 0), (1, 2, 0, 0, 0), (52, 0, 0, 0, 0), (7, 0, 0, 0, 0), (1, 3, 0, 0, 0), (7, 0, 0, 0, 1), (10, 0, 0, 0, 0), (67, 116, 5, 8, 11), (3, 0, 0, 0, 0), (7, 0, 0, 0, 43), (67, 119, 2, 8, 5), (3, 0, 0, 0, 0), (3, 1, 0, 0, 0), (3, 1, 0, 0, 0), (47, 9, 2, 14, 0), (1, 2, 0, 0, 0), (52, 0, 0, 0, 0), (7, 0, 0, 0, 1), (1, 3, 0, 0, 0), (7, 0, 0, 0, 1), (10, 0, 0, 0, 0), (67, 116, 5, 8, 11), (40, 118, 0, 0, 0)]
def b_X8_putBare_54 : List LI := [(1, 4, 0, 0, 0), (7, 0, 0, 0, 6), (36, 1, 100, 0, 0), (3, 0, 0, 0, 0), (3, 1, 0, 0, 0), (3, 1, 0, 0, 0), (47, 9, 1, 14, 0), (1, 2, 0, 0, 0), (52, 0, 0, 0, 0), (7, 0, 0, 0, 1), (1, 3, 0, 0, 0), (7, 0, 0, 0, 1), (10, 0, 0, 0, 0), (67, 116, 5, 8, 11), (3, 0, 0, 0, 0), (7, 0, 0, 0, 59), (67, 119, 2, 8, 5), (3, 0, 0, 0, 0), (3, 1, 0, 0, 0), (3, 1, 0, 0, 0), (47, 9, 2, 14, 0), (1, 2, 0, 0, 0), (52, 0, 0, 0, 0), (7, 0, 0, 0, 2), (1, 3, 0, 0, 0), (7, 0, 0, 0, 1), (10, 0, 0, 0, 0), (67, 116, 5, 8, 11), (40, 118, 0, 0, 0)]
def b_X8_putBare_100 : List LI := [(3, 0, 0, 0, 0), (1, 4, 0, 0, 0), (3, 1, 0, 0, 0), (47, 9, 1, 14, 0), (1, 2, 0, 0, 0), (52, 0, 0, 0, 0), (3, 1, 0, 0, 0), (47, 9, 2, 14, 0), (1, 2, 0, 0, 0), (52, 0, 0, 0, 0), (67, 118, 4, 8, 9), (0, 118, 0, 0, 0)]
def b_X8_putBare_118 : List LI := [(74, 0, 0, 0, 0)]
def cd_X8_putBare : Nat → List LI := fun pc => if pc = 0 then b_X8_putBare_0 else if pc = 54 then b_X8_putBare_54 else if pc = 100 then b_X8_putBare_100 else if pc = 118 then b_X8_putBare_118 else []
def b_X8_putAtom_0 : List LI := [(1, 1, 0, 0, 0), (37, 0, 9, 0, 0), (1, 1, 0, 0, 0), (7, 0, 0, 0, 1), (36, 1, 25, 0, 0), (0, 9, 0, 0, 0)]
def b_X8_putAtom_9 : List LI := [(3, 0, 0, 0, 0), (1, 1, 0, 0, 0), (37, 1, 19, 0, 0), (7, 0, 0, 0, 48), (40, 21, 0, 0, 0)]
def b_X8_putAtom_19 : List LI := [(7, 0, 0, 0, 49), (0, 21, 0, 0, 0)]
def b_X8_putAtom_21 : List LI := [(67, 119, 2, 8, 5), (74, 0, 0, 0, 0)]
def b_X8_putAtom_25 : List LI := [(1, 1, 0, 0, 0), (7, 0, 0, 0, 3), (36, 1, 36, 0, 0), (3, 0, 0, 0, 0), (7, 0, 0, 0, 33), (67, 119, 2, 8, 5), (0, 36, 0, 0, 0)]
def b_X8_putAtom_36 : List LI := [(3, 0, 0, 0, 0), (1, 2, 0, 0, 0), (7, 0, 0, 0, 3), (36, 1, 47, 0, 0), (7, 0, 0, 0, 97), (40, 51, 0, 0, 0)]
def b_X8_putAtom_47 : List LI := [(7, 0, 0, 0, 97), (1, 2, 0, 0, 0), (10, 0, 0, 0, 0), (0, 51, 0, 0, 0)]
def b_X8_putAtom_51 : List LI := [(67, 119, 2, 8, 5), (1, 2, 0, 0, 0), (7, 0, 0, 0, 3), (36, 1, 65, 0, 0), (3, 0, 0, 0, 0), (7, 0, 0, 0, 116), (67, 119, 2, 8, 5), (0, 65, 0, 0, 0)]
def b_X8_putAtom_65 : List LI := [(3, 0, 0, 0, 0), (1, 1, 0, 0, 0), (7, 0, 0, 0, 4), (36, 1, 76, 0, 0), (7, 0, 0, 0, 58), (40, 78, 0, 0, 0)]
def b_X8_putAtom_76 : List LI := [(7, 0, 0, 0, 61), (0, 78, 0, 0, 0)]
def b_X8_putAtom_78 : List LI := [(67, 119, 2, 8, 5), (3, 0, 0, 0, 0), (7, 0, 0, 0, 48), (1, 3, 0, 0, 0), (10, 0, 0, 0, 0), (67, 119, 2, 8, 5), (74, 0, 0, 0, 0)]
def cd_X8_putAtom : Nat → List LI := fun pc => if pc = 0 then b_X8_putAtom_0 else if pc = 9 then b_X8_putAtom_9 else if pc = 19 then b_X8_putAtom_19 else if pc = 21 then b_X8_putAtom_21 else if pc = 25 then b_X8_putAtom_25 else if pc = 36 then b_X8_putAtom_36 else if pc = 47 then b_X8_putAtom_47 else if pc = 51 then b_X8_putAtom_51 else if pc = 65 then b_X8_putAtom_65 else if pc = 76 then b_X8_putAtom_76 else if pc = 78 then b_X8_putAtom_78 else []
def b_X8_putByte_0 : List LI := [(3, 0, 0, 0, 0), (45, 8, 1, 0, 0), (7, 0, 0, 0, 200), (36, 3, 30, 0, 0), (3, 0, 0, 0, 0), (47, 8, 0, 14, 0), (3, 0, 0, 0, 0), (45, 8, 1, 0, 0), (1, 1, 0, 0, 0), (57, 0, 0, 0, 0), (3, 0, 0, 0, 0), (42, 0, 0, 0, 0), (45, 8, 1, 0, 0), (7, 0, 0, 0, 1), (10, 0, 0, 0, 0), (48, 8, 1, 0, 0), (0, 30, 0, 0, 0)]
def b_X8_putByte_30 : List LI := [(74, 0, 0, 0, 0)]
def cd_X8_putByte : Nat → List LI := fun pc => if pc = 0 then b_X8_putByte_0 else if pc = 30 then b_X8_putByte_30 else []
def b_X8_bindingOf_0 : List LI := [(1, 0, 0, 0, 0), (7, 0, 0, 0, 7), (36, 1, 10, 0, 0), (7, 0, 0, 0, 0), (40, 21, 0, 0, 0)]
def b_X8_bindingOf_10 : List LI := [(1, 0, 0, 0, 0), (7, 0, 0, 0, 6), (36, 1, 20, 0, 0), (7, 0, 0, 0, 1), (40, 21, 0, 0, 0)]
def b_X8_bindingOf_20 : List LI := [(7, 0, 0, 0, 2), (0, 21, 0, 0, 0)]
def b_X8_bindingOf_21 : List LI := [(71, 0, 0, 0, 0)]
def cd_X8_bindingOf : Nat → List LI := fun pc => if pc = 0 then b_X8_bindingOf_0 else if pc = 10 then b_X8_bindingOf_10 else if pc = 20 then b_X8_bindingOf_20 else if pc = 21 then b_X8_bindingOf_21 else []
def b_X8_shorten_0 : List LI := [(3, 0, 0, 0, 0), (47, 8, 2, 9, 0), (7, 0, 0, 0, 0), (48, 9, 3, 0, 0), (7, 0, 0, 0, 0), (4, 2, 0, 0, 0), (0, 10, 0, 0, 0)]
def b_X8_shorten_10 : List LI := [(1, 2, 0, 0, 0), (3, 1, 0, 0, 0), (45, 9, 3, 0, 0), (36, 3, 163, 0, 0), (1, 2, 0, 0, 0), (7, 0, 0, 0, 200), (36, 3, 163, 0, 0), (3, 1, 0, 0, 0), (47, 9, 0, 14, 0), (1, 2, 0, 0, 0), (52, 0, 0, 0, 0), (4, 3, 0, 0, 0), (3, 1, 0, 0, 0), (47, 9, 1, 14, 0), (1, 2, 0, 0, 0), (52, 0, 0, 0, 0), (4, 4, 0, 0, 0), (3, 1, 0, 0, 0), (47, 9, 2, 14, 0), (1, 2, 0, 0, 0), (52, 0, 0, 0, 0), (4, 5, 0, 0, 0), (1, 3, 0, 0, 0), (7, 0, 0, 0, 5), (36, 1, 73, 0, 0), (3, 0, 0, 0, 0), (47, 8, 3, 14, 0), (1, 2, 0, 0, 0), (3, 0, 0, 0, 0), (3, 0, 0, 0, 0), (47, 8, 3, 14, 0), (1, 4, 0, 0, 0), (52, 0, 0, 0, 0), (67, 122, 2, 8, 5), (57, 0, 0, 0, 0), (40, 157, 0, 0, 0)]
def b_X8_shorten_73 : List LI := [(1, 3, 0, 0, 0), (7, 0, 0, 0, 7), (36, 1, 106, 0, 0), (3, 0, 0, 0, 0), (47, 8, 3, 14, 0), (1, 2, 0, 0, 0), (3, 0, 0, 0, 0), (3, 0, 0, 0, 0), (47, 8, 3, 14, 0), (1, 4, 0, 0, 0), (52, 0, 0, 0, 0), (3, 0, 0, 0, 0), (47, 8, 3, 14, 0), (1, 5, 0, 0, 0), (52, 0, 0, 0, 0), (67, 123, 3, 8, 7), (57, 0, 0, 0, 0), (40, 157, 0, 0, 0)]
def b_X8_shorten_106 : List LI := [(1, 3, 0, 0, 0), (7, 0, 0, 0, 6), (36, 1, 139, 0, 0), (3, 0, 0, 0, 0), (47, 8, 3, 14, 0), (1, 2, 0, 0, 0), (3, 0, 0, 0, 0), (3, 0, 0, 0, 0), (47, 8, 3, 14, 0), (1, 4, 0, 0, 0), (52, 0, 0, 0, 0), (3, 0, 0, 0, 0), (47, 8, 3, 14, 0), (1, 5, 0, 0, 0), (52, 0, 0, 0, 0), (67, 124, 3, 8, 7), (57, 0, 0, 0, 0), (40, 157, 0, 0, 0)]
def b_X8_shorten_139 : List LI := [(3, 0, 0, 0, 0), (47, 8, 3, 14, 0), (1, 2, 0, 0, 0), (3, 0, 0, 0, 0), (47, 8, 2, 9, 0), (1, 3, 0, 0, 0), (1, 4, 0, 0, 0), (1, 5, 0, 0, 0), (67, 129, 4, 9, 9), (57, 0, 0, 0, 0), (0, 157, 0, 0, 0)]
def b_X8_shorten_157 : List LI := [(35, 2, 0, 0, 1), (40, 10, 0, 0, 0)]
def b_X8_shorten_163 : List LI := [(3, 1, 0, 0, 0), (45, 9, 3, 0, 0), (37, 5, 184, 0, 0), (3, 0, 0, 0, 0), (47, 8, 3, 14, 0), (3, 1, 0, 0, 0), (45, 9, 3, 0, 0), (7, 0, 0, 0, 1), (11, 0, 0, 0, 0), (52, 0, 0, 0, 0), (40, 185, 0, 0, 0)]
def b_X8_shorten_184 : List LI := [(7, 0, 0, 0, (-1)), (0, 185, 0, 0, 0)]
def b_X8_shorten_185 : List LI := [(71, 0, 0, 0, 0)]
def cd_X8_shorten : Nat → List LI := fun pc => if pc = 0 then b_X8_shorten_0 else if pc = 10 then b_X8_shorten_10 else if pc = 73 then b_X8_shorten_73 else if pc = 106 then b_X8_shorten_106 else if pc = 139 then b_X8_shorten_139 else if pc = 157 then b_X8_shorten_157 else if pc = 163 then b_X8_shorten_163 else if pc = 184 then b_X8_shorten_184 else if pc = 185 then b_X8_shorten_185 else []
def b_X8_shortStar_0 : List LI := [(3, 0, 0, 0, 0), (47, 8, 2, 9, 0), (47, 9, 0, 14, 0), (1, 1, 0, 0, 0), (52, 0, 0, 0, 0), (4, 2, 0, 0, 0), (1, 2, 0, 0, 0), (37, 0, 19, 0, 0), (1, 2, 0, 0, 0), (7, 0, 0, 0, 1), (36, 1, 30, 0, 0), (0, 19, 0, 0, 0)]
def b_X8_shortStar_19 : List LI := [(3, 0, 0, 0, 0), (47, 8, 2, 9, 0), (7, 0, 0, 0, 1), (7, 0, 0, 0, 0), (7, 0, 0, 0, 0), (67, 129, 4, 9, 9), (71, 0, 0, 0, 0)]
def b_X8_shortStar_30 : List LI := [(1, 2, 0, 0, 0), (7, 0, 0, 0, 5), (36, 1, 39, 0, 0), (1, 1, 0, 0, 0), (40, 49, 0, 0, 0)]
def b_X8_shortStar_39 : List LI := [(3, 0, 0, 0, 0), (47, 8, 2, 9, 0), (7, 0, 0, 0, 5), (1, 1, 0, 0, 0), (7, 0, 0, 0, 0), (67, 129, 4, 9, 9), (0, 49, 0, 0, 0)]
def b_X8_shortStar_49 : List LI := [(71, 0, 0, 0, 0)]
def cd_X8_shortStar : Nat → List LI := fun pc => if pc = 0 then b_X8_shortStar_0 else if pc = 19 then b_X8_shortStar_19 else if pc = 30 then b_X8_shortStar_30 else if pc = 39 then b_X8_shortStar_39 else if pc = 49 then b_X8_shortStar_49 else []
def b_X8_shortEither_0 : List LI := [(1, 1, 0, 0, 0), (1, 2, 0, 0, 0), (36, 0, 17, 0, 0), (3, 0, 0, 0, 0), (47, 8, 2, 9, 0), (47, 9, 0, 14, 0), (1, 2, 0, 0, 0), (52, 0, 0, 0, 0), (37, 1, 19, 0, 0), (0, 17, 0, 0, 0)]
def b_X8_shortEither_17 : List LI := [(1, 1, 0, 0, 0), (71, 0, 0, 0, 0)]
def b_X8_shortEither_19 : List LI := [(3, 0, 0, 0, 0), (47, 8, 2, 9, 0), (47, 9, 0, 14, 0), (1, 1, 0, 0, 0), (52, 0, 0, 0, 0), (37, 1, 35, 0, 0), (1, 2, 0, 0, 0), (40, 46, 0, 0, 0)]
def b_X8_shortEither_35 : List LI := [(3, 0, 0, 0, 0), (47, 8, 2, 9, 0), (7, 0, 0, 0, 7), (1, 1, 0, 0, 0), (1, 2, 0, 0, 0), (67, 129, 4, 9, 9), (0, 46, 0, 0, 0)]
def b_X8_shortEither_46 : List LI := [(71, 0, 0, 0, 0)]
def cd_X8_shortEither : Nat → List LI := fun pc => if pc = 0 then b_X8_shortEither_0 else if pc = 17 then b_X8_shortEither_17 else if pc = 19 then b_X8_shortEither_19 else if pc = 35 then b_X8_shortEither_35 else if pc = 46 then b_X8_shortEither_46 else []
def b_X8_shortThen_0 : List LI := [(3, 0, 0, 0, 0), (47, 8, 2, 9, 0), (47, 9, 0, 14, 0), (1, 1, 0, 0, 0), (52, 0, 0, 0, 0), (4, 3, 0, 0, 0), (3, 0, 0, 0, 0), (47, 8, 2, 9, 0), (47, 9, 0, 14, 0), (1, 2, 0, 0, 0), (52, 0, 0, 0, 0), (4, 4, 0, 0, 0), (1, 3, 0, 0, 0), (37, 0, 31, 0, 0), (1, 4, 0, 0, 0), (7, 0, 0, 0, 1), (36, 1, 33, 0, 0), (0, 31, 0, 0, 0)]
def b_X8_shortThen_31 : List LI := [(1, 1, 0, 0, 0), (71, 0, 0, 0, 0)]
def b_X8_shortThen_33 : List LI := [(1, 3, 0, 0, 0), (7, 0, 0, 0, 1), (36, 0, 43, 0, 0), (1, 4, 0, 0, 0), (37, 1, 45, 0, 0), (0, 43, 0, 0, 0)]
def b_X8_shortThen_43 : List LI := [(1, 2, 0, 0, 0), (71, 0, 0, 0, 0)]
def b_X8_shortThen_45 : List LI := [(1, 3, 0, 0, 0), (67, 125, 1, 0, 2), (37, 0, 85, 0, 0), (1, 4, 0, 0, 0), (67, 125, 1, 0, 2), (37, 0, 85, 0, 0), (3, 0, 0, 0, 0), (47, 8, 2, 9, 0), (47, 9, 1, 14, 0), (1, 1, 0, 0, 0), (52, 0, 0, 0, 0), (3, 0, 0, 0, 0), (47, 8, 2, 9, 0), (47, 9, 1, 14, 0), (1, 2, 0, 0, 0), (52, 0, 0, 0, 0), (36, 1, 85, 0, 0), (7, 0, 0, 0, 1), (40, 86, 0, 0, 0)]
def b_X8_shortThen_85 : List LI := [(7, 0, 0, 0, 0), (0, 86, 0, 0, 0)]
def b_X8_shortThen_86 : List LI := [(4, 5, 0, 0, 0), (1, 5, 0, 0, 0), (37, 0, 102, 0, 0), (3, 0, 0, 0, 0), (1, 1, 0, 0, 0), (1, 2, 0, 0, 0), (67, 126, 3, 8, 7), (40, 103, 0, 0, 0)]
def b_X8_shortThen_102 : List LI := [(7, 0, 0, 0, (-1)), (0, 103, 0, 0, 0)]
def b_X8_shortThen_103 : List LI := [(4, 6, 0, 0, 0), (1, 6, 0, 0, 0), (7, 0, 0, 0, (-1)), (36, 1, 125, 0, 0), (3, 0, 0, 0, 0), (47, 8, 2, 9, 0), (7, 0, 0, 0, 6), (1, 1, 0, 0, 0), (1, 2, 0, 0, 0), (67, 129, 4, 9, 9), (40, 127, 0, 0, 0)]
def b_X8_shortThen_125 : List LI := [(1, 6, 0, 0, 0), (0, 127, 0, 0, 0)]
def b_X8_shortThen_127 : List LI := [(71, 0, 0, 0, 0)]
def cd_X8_shortThen : Nat → List LI := fun pc => if pc = 0 then b_X8_shortThen_0 else if pc = 31 then b_X8_shortThen_31 else if pc = 33 then b_X8_shortThen_33 else if pc = 43 then b_X8_shortThen_43 else if pc = 45 then b_X8_shortThen_45 else if pc = 85 then b_X8_shortThen_85 else if pc = 86 then b_X8_shortThen_86 else if pc = 102 then b_X8_shortThen_102 else if pc = 103 then b_X8_shortThen_103 else if pc = 125 then b_X8_shortThen_125 else if pc = 127 then b_X8_shortThen_127 else []
def b_X8_isPlain_0 : List LI := [(1, 0, 0, 0, 0), (7, 0, 0, 0, 2), (36, 0, 10, 0, 0), (1, 0, 0, 0, 0), (7, 0, 0, 0, 4), (36, 1, 14, 0, 0), (0, 10, 0, 0, 0)]
def b_X8_isPlain_10 : List LI := [(7, 0, 0, 0, 1), (40, 15, 0, 0, 0)]
def b_X8_isPlain_14 : List LI := [(7, 0, 0, 0, 0), (0, 15, 0, 0, 0)]
def b_X8_isPlain_15 : List LI := [(71, 1, 0, 0, 0)]
def cd_X8_isPlain : Nat → List LI := fun pc => if pc = 0 then b_X8_isPlain_0 else if pc = 10 then b_X8_isPlain_10 else if pc = 14 then b_X8_isPlain_14 else if pc = 15 then b_X8_isPlain_15 else []
def b_X8_shortField_0 : List LI := [(3, 0, 0, 0, 0), (47, 8, 2, 9, 0), (47, 9, 2, 14, 0), (1, 1, 0, 0, 0), (52, 0, 0, 0, 0), (3, 0, 0, 0, 0), (47, 8, 2, 9, 0), (47, 9, 2, 14, 0), (1, 2, 0, 0, 0), (52, 0, 0, 0, 0), (36, 1, 25, 0, 0), (7, 0, 0, 0, 1), (40, 26, 0, 0, 0)]
def b_X8_shortField_25 : List LI := [(7, 0, 0, 0, 0), (0, 26, 0, 0, 0)]
def b_X8_shortField_26 : List LI := [(4, 3, 0, 0, 0), (3, 0, 0, 0, 0), (47, 8, 2, 9, 0), (47, 9, 0, 14, 0), (1, 2, 0, 0, 0), (52, 0, 0, 0, 0), (7, 0, 0, 0, 2), (36, 1, 59, 0, 0), (1, 3, 0, 0, 0), (37, 0, 48, 0, 0), (1, 1, 0, 0, 0), (40, 58, 0, 0, 0)]
def b_X8_shortField_48 : List LI := [(3, 0, 0, 0, 0), (47, 8, 2, 9, 0), (7, 0, 0, 0, 0), (7, 0, 0, 0, 0), (7, 0, 0, 0, 0), (67, 129, 4, 9, 9), (0, 58, 0, 0, 0)]
def b_X8_shortField_58 : List LI := [(71, 0, 0, 0, 0)]
def b_X8_shortField_59 : List LI := [(3, 0, 0, 0, 0), (47, 8, 2, 9, 0), (47, 9, 0, 14, 0), (1, 1, 0, 0, 0), (52, 0, 0, 0, 0), (7, 0, 0, 0, 4), (36, 1, 74, 0, 0), (1, 2, 0, 0, 0), (71, 0, 0, 0, 0)]
def b_X8_shortField_74 : List LI := [(1, 3, 0, 0, 0), (37, 0, 82, 0, 0), (1, 1, 0, 0, 0), (40, 83, 0, 0, 0)]
def b_X8_shortField_82 : List LI := [(7, 0, 0, 0, (-1)), (0, 83, 0, 0, 0)]
def b_X8_shortField_83 : List LI := [(71, 0, 0, 0, 0)]
def cd_X8_shortField : Nat → List LI := fun pc => if pc = 0 then b_X8_shortField_0 else if pc = 25 then b_X8_shortField_25 else if pc = 26 then b_X8_shortField_26 else if pc = 48 then b_X8_shortField_48 else if pc = 58 then b_X8_shortField_58 else if pc = 59 then b_X8_shortField_59 else if pc = 74 then b_X8_shortField_74 else if pc = 82 then b_X8_shortField_82 else if pc = 83 then b_X8_shortField_83 else []
def b_X9_init_0 : List LI := [(3, 0, 0, 0, 0), (68, 0, 0, 0, 0), (1, 1, 0, 0, 0), (7, 0, 0, 0, 1), (75, 0, 0, 0, 0), (4, 2, 0, 0, 0), (3, 0, 0, 0, 0), (1, 2, 0, 0, 0), (63, 14, 0, 0, 0), (50, 9, 0, 14, 0), (3, 0, 0, 0, 0), (1, 2, 0, 0, 0), (63, 14, 0, 0, 0), (50, 9, 1, 14, 0), (3, 0, 0, 0, 0), (1, 2, 0, 0, 0), (63, 14, 0, 0, 0), (50, 9, 2, 14, 0), (74, 0, 0, 0, 0)]
def cd_X9_init : Nat → List LI := fun pc => if pc = 0 then b_X9_init_0 else []
def b_X9_add_0 : List LI := [(3, 0, 0, 0, 0), (45, 9, 3, 0, 0), (3, 0, 0, 0, 0), (47, 9, 0, 14, 0), (62, 0, 0, 0, 0), (36, 2, 14, 0, 0), (7, 0, 0, 0, 0), (71, 0, 0, 0, 0)]
def b_X9_add_14 : List LI := [(3, 0, 0, 0, 0), (47, 9, 0, 14, 0), (3, 0, 0, 0, 0), (45, 9, 3, 0, 0), (1, 1, 0, 0, 0), (57, 0, 0, 0, 0), (3, 0, 0, 0, 0), (47, 9, 1, 14, 0), (3, 0, 0, 0, 0), (45, 9, 3, 0, 0), (1, 2, 0, 0, 0), (57, 0, 0, 0, 0), (3, 0, 0, 0, 0), (47, 9, 2, 14, 0), (3, 0, 0, 0, 0), (45, 9, 3, 0, 0), (1, 3, 0, 0, 0), (57, 0, 0, 0, 0), (3, 0, 0, 0, 0), (42, 0, 0, 0, 0), (45, 9, 3, 0, 0), (7, 0, 0, 0, 1), (10, 0, 0, 0, 0), (48, 9, 3, 0, 0), (3, 0, 0, 0, 0), (45, 9, 3, 0, 0), (7, 0, 0, 0, 1), (11, 0, 0, 0, 0), (71, 0, 0, 0, 0)]
def cd_X9_add : Nat → List LI := fun pc => if pc = 0 then b_X9_add_0 else if pc = 14 then b_X9_add_14 else []
def b_X9_findOrAdd_0 : List LI := [(7, 0, 0, 0, 0), (4, 4, 0, 0, 0), (0, 3, 0, 0, 0)]
def b_X9_findOrAdd_3 : List LI := [(1, 4, 0, 0, 0), (3, 0, 0, 0, 0), (45, 9, 3, 0, 0), (36, 3, 54, 0, 0), (3, 0, 0, 0, 0), (47, 9, 0, 14, 0), (1, 4, 0, 0, 0), (52, 0, 0, 0, 0), (1, 1, 0, 0, 0), (36, 1, 48, 0, 0), (3, 0, 0, 0, 0), (47, 9, 1, 14, 0), (1, 4, 0, 0, 0), (52, 0, 0, 0, 0), (1, 2, 0, 0, 0), (36, 1, 48, 0, 0), (3, 0, 0, 0, 0), (47, 9, 2, 14, 0), (1, 4, 0, 0, 0), (52, 0, 0, 0, 0), (1, 3, 0, 0, 0), (36, 1, 48, 0, 0), (1, 4, 0, 0, 0), (71, 0, 0, 0, 0)]
def b_X9_findOrAdd_48 : List LI := [(35, 4, 0, 0, 1), (40, 3, 0, 0, 0)]
def b_X9_findOrAdd_54 : List LI := [(3, 0, 0, 0, 0), (1, 1, 0, 0, 0), (1, 2, 0, 0, 0), (1, 3, 0, 0, 0), (67, 128, 4, 9, 9), (71, 0, 0, 0, 0)]
def cd_X9_findOrAdd : Nat → List LI := fun pc => if pc = 0 then b_X9_findOrAdd_0 else if pc = 3 then b_X9_findOrAdd_3 else if pc = 48 then b_X9_findOrAdd_48 else if pc = 54 then b_X9_findOrAdd_54 else []
def b_X9_copied_0 : List LI := [(66, 9, 0, 4, 0), (42, 0, 0, 0, 0), (3, 0, 0, 0, 0), (45, 9, 3, 0, 0), (67, 127, 2, 9, 5), (6, 1, 0, 0, 0), (7, 0, 0, 0, 0), (4, 2, 0, 0, 0), (0, 14, 0, 0, 0)]
def b_X9_copied_14 : List LI := [(1, 2, 0, 0, 0), (3, 0, 0, 0, 0), (45, 9, 3, 0, 0), (36, 3, 51, 0, 0), (3, 1, 0, 0, 0), (3, 0, 0, 0, 0), (47, 9, 0, 14, 0), (1, 2, 0, 0, 0), (52, 0, 0, 0, 0), (3, 0, 0, 0, 0), (47, 9, 1, 14, 0), (1, 2, 0, 0, 0), (52, 0, 0, 0, 0), (3, 0, 0, 0, 0), (47, 9, 2, 14, 0), (1, 2, 0, 0, 0), (52, 0, 0, 0, 0), (67, 128, 4, 9, 9), (44, 0, 0, 0, 0), (35, 2, 0, 0, 1), (40, 14, 0, 0, 0)]
def b_X9_copied_51 : List LI := [(3, 1, 0, 0, 0), (73, 0, 0, 0, 0)]
def cd_X9_copied : Nat → List LI := fun pc => if pc = 0 then b_X9_copied_0 else if pc = 14 then b_X9_copied_14 else if pc = 51 then b_X9_copied_51 else []
def b_X10_init_0 : List LI := [(3, 0, 0, 0, 0), (68, 0, 0, 0, 0), (3, 0, 0, 0, 0), (1, 1, 0, 0, 0), (48, 10, 0, 0, 0), (3, 0, 0, 0, 0), (3, 2, 0, 0, 0), (50, 10, 1, 9, 0), (3, 0, 0, 0, 0), (3, 3, 0, 0, 0), (50, 10, 2, 15, 0), (3, 0, 0, 0, 0), (7, 0, 0, 0, 8), (63, 14, 0, 0, 0), (50, 10, 3, 14, 0), (74, 0, 0, 0, 0)]
def cd_X10_init : Nat → List LI := fun pc => if pc = 0 then b_X10_init_0 else []
def b_X10_howMany_0 : List LI := [(7, 0, 0, 0, 0), (4, 2, 0, 0, 0), (7, 0, 0, 0, 0), (4, 3, 0, 0, 0), (0, 4, 0, 0, 0)]
def b_X10_howMany_4 : List LI := [(1, 3, 0, 0, 0), (7, 0, 0, 0, 8), (36, 3, 33, 0, 0), (1, 2, 0, 0, 0), (3, 0, 0, 0, 0), (47, 10, 2, 15, 0), (1, 1, 0, 0, 0), (7, 0, 0, 0, 8), (12, 0, 0, 0, 0), (1, 3, 0, 0, 0), (10, 0, 0, 0, 0), (53, 0, 0, 0, 0), (67, 313, 1, 0, 4), (10, 0, 0, 0, 0), (4, 2, 0, 0, 0), (35, 3, 0, 0, 1), (40, 4, 0, 0, 0)]
def b_X10_howMany_33 : List LI := [(1, 2, 0, 0, 0), (71, 0, 0, 0, 0)]
def cd_X10_howMany : Nat → List LI := fun pc => if pc = 0 then b_X10_howMany_0 else if pc = 4 then b_X10_howMany_4 else if pc = 33 then b_X10_howMany_33 else []
def b_X10_pick_0 : List LI := [(1, 2, 0, 0, 0), (4, 3, 0, 0, 0), (7, 0, 0, 0, 0), (4, 4, 0, 0, 0), (0, 5, 0, 0, 0)]
def b_X10_pick_5 : List LI := [(1, 4, 0, 0, 0), (7, 0, 0, 0, 8), (36, 3, 67, 0, 0), (1, 3, 0, 0, 0), (37, 2, 67, 0, 0), (3, 0, 0, 0, 0), (47, 10, 2, 15, 0), (1, 1, 0, 0, 0), (7, 0, 0, 0, 8), (12, 0, 0, 0, 0), (1, 4, 0, 0, 0), (10, 0, 0, 0, 0), (53, 0, 0, 0, 0), (5, 5, 0, 0, 0), (2, 5, 0, 0, 0), (67, 313, 1, 0, 4), (4, 7, 0, 0, 0), (1, 3, 0, 0, 0), (1, 7, 0, 0, 0), (36, 3, 56, 0, 0), (1, 4, 0, 0, 0), (7, 0, 0, 0, 64), (12, 0, 0, 0, 0), (2, 5, 0, 0, 0), (1, 3, 0, 0, 0), (67, 134, 2, 0, 6), (10, 0, 0, 0, 0), (71, 0, 0, 0, 0)]
def b_X10_pick_56 : List LI := [(1, 3, 0, 0, 0), (1, 7, 0, 0, 0), (11, 0, 0, 0, 0), (4, 3, 0, 0, 0), (35, 4, 0, 0, 1), (40, 5, 0, 0, 0)]
def b_X10_pick_67 : List LI := [(7, 0, 0, 0, (-1)), (71, 0, 0, 0, 0)]
def cd_X10_pick : Nat → List LI := fun pc => if pc = 0 then b_X10_pick_0 else if pc = 5 then b_X10_pick_5 else if pc = 56 then b_X10_pick_56 else if pc = 67 then b_X10_pick_67 else []
def b_X10_kthBit_0 : List LI := [(2, 0, 0, 0, 0), (5, 3, 0, 0, 0), (7, 0, 0, 0, 0), (4, 5, 0, 0, 0), (0, 5, 0, 0, 0)]
def b_X10_kthBit_5 : List LI := [(1, 5, 0, 0, 0), (1, 2, 0, 0, 0), (36, 3, 23, 0, 0), (2, 3, 0, 0, 0), (2, 3, 0, 0, 0), (8, 0, 0, 0, 1), (23, 0, 0, 0, 0), (25, 0, 0, 0, 0), (5, 3, 0, 0, 0), (35, 5, 0, 0, 1), (40, 5, 0, 0, 0)]
def b_X10_kthBit_23 : List LI := [(2, 3, 0, 0, 0), (67, 195, 1, 0, 4), (71, 0, 0, 0, 0)]
def cd_X10_kthBit : Nat → List LI := fun pc => if pc = 0 then b_X10_kthBit_0 else if pc = 5 then b_X10_kthBit_5 else if pc = 23 then b_X10_kthBit_23 else []
def b_X10_holds_0 : List LI := [(3, 0, 0, 0, 0), (47, 10, 2, 15, 0), (1, 1, 0, 0, 0), (7, 0, 0, 0, 8), (12, 0, 0, 0, 0), (1, 2, 0, 0, 0), (7, 0, 0, 0, 6), (17, 0, 0, 0, 0), (10, 0, 0, 0, 0), (53, 0, 0, 0, 0), (1, 2, 0, 0, 0), (7, 0, 0, 0, 63), (19, 0, 0, 0, 0), (30, 0, 0, 0, 0), (8, 0, 0, 0, 1), (25, 0, 0, 0, 0), (8, 0, 0, 0, 0), (31, 0, 0, 0, 0), (37, 0, 30, 0, 0), (7, 0, 0, 0, 1), (40, 31, 0, 0, 0)]
def b_X10_holds_30 : List LI := [(7, 0, 0, 0, 0), (0, 31, 0, 0, 0)]
def b_X10_holds_31 : List LI := [(71, 1, 0, 0, 0)]
def cd_X10_holds : Nat → List LI := fun pc => if pc = 0 then b_X10_holds_0 else if pc = 30 then b_X10_holds_30 else if pc = 31 then b_X10_holds_31 else []
def b_X10_makesNone_0 : List LI := [(3, 0, 0, 0, 0), (47, 10, 2, 15, 0), (1, 1, 0, 0, 0), (7, 0, 0, 0, 8), (12, 0, 0, 0, 0), (67, 30, 2, 0, 4), (71, 1, 0, 0, 0)]
def cd_X10_makesNone : Nat → List LI := fun pc => if pc = 0 then b_X10_makesNone_0 else []
def b_X10_makesJust_0 : List LI := [(3, 0, 0, 0, 0), (1, 1, 0, 0, 0), (1, 2, 0, 0, 0), (67, 135, 3, 10, 7), (37, 0, 22, 0, 0), (3, 0, 0, 0, 0), (1, 1, 0, 0, 0), (67, 132, 2, 10, 5), (7, 0, 0, 0, 1), (36, 1, 22, 0, 0), (7, 0, 0, 0, 1), (40, 23, 0, 0, 0)]
def b_X10_makesJust_22 : List LI := [(7, 0, 0, 0, 0), (0, 23, 0, 0, 0)]
def b_X10_makesJust_23 : List LI := [(71, 1, 0, 0, 0)]
def cd_X10_makesJust : Nat → List LI := fun pc => if pc = 0 then b_X10_makesJust_0 else if pc = 22 then b_X10_makesJust_22 else if pc = 23 then b_X10_makesJust_23 else []
def b_X10_partsBy_0 : List LI := [(7, 0, 0, 0, 0), (4, 3, 0, 0, 0), (0, 2, 0, 0, 0)]
def b_X10_partsBy_2 : List LI := [(1, 3, 0, 0, 0), (7, 0, 0, 0, 8), (36, 3, 57, 0, 0), (3, 0, 0, 0, 0), (47, 10, 2, 15, 0), (1, 2, 0, 0, 0), (7, 0, 0, 0, 8), (12, 0, 0, 0, 0), (1, 3, 0, 0, 0), (10, 0, 0, 0, 0), (53, 0, 0, 0, 0), (3, 1, 0, 0, 0), (47, 10, 2, 15, 0), (1, 2, 0, 0, 0), (7, 0, 0, 0, 8), (12, 0, 0, 0, 0), (1, 3, 0, 0, 0), (10, 0, 0, 0, 0), (53, 0, 0, 0, 0), (27, 0, 0, 0, 0), (5, 4, 0, 0, 0), (2, 4, 0, 0, 0), (8, 0, 0, 0, 0), (31, 0, 0, 0, 0), (37, 0, 51, 0, 0), (1, 3, 0, 0, 0), (7, 0, 0, 0, 64), (12, 0, 0, 0, 0), (2, 4, 0, 0, 0), (67, 195, 1, 0, 4), (10, 0, 0, 0, 0), (71, 0, 0, 0, 0)]
def b_X10_partsBy_51 : List LI := [(35, 3, 0, 0, 1), (40, 2, 0, 0, 0)]
def b_X10_partsBy_57 : List LI := [(7, 0, 0, 0, (-1)), (71, 0, 0, 0, 0)]
def cd_X10_partsBy : Nat → List LI := fun pc => if pc = 0 then b_X10_partsBy_0 else if pc = 2 then b_X10_partsBy_2 else if pc = 51 then b_X10_partsBy_51 else if pc = 57 then b_X10_partsBy_57 else []
def b_X10_isInside_0 : List LI := [(7, 0, 0, 0, 0), (4, 3, 0, 0, 0), (0, 2, 0, 0, 0)]
def b_X10_isInside_2 : List LI := [(1, 3, 0, 0, 0), (7, 0, 0, 0, 8), (36, 3, 48, 0, 0), (3, 0, 0, 0, 0), (47, 10, 2, 15, 0), (1, 2, 0, 0, 0), (7, 0, 0, 0, 8), (12, 0, 0, 0, 0), (1, 3, 0, 0, 0), (10, 0, 0, 0, 0), (53, 0, 0, 0, 0), (3, 1, 0, 0, 0), (47, 10, 2, 15, 0), (1, 2, 0, 0, 0), (7, 0, 0, 0, 8), (12, 0, 0, 0, 0), (1, 3, 0, 0, 0), (10, 0, 0, 0, 0), (53, 0, 0, 0, 0), (8, 0, 0, 0, (-1)), (27, 0, 0, 0, 0), (25, 0, 0, 0, 0), (8, 0, 0, 0, 0), (31, 0, 0, 0, 0), (37, 0, 42, 0, 0), (7, 0, 0, 0, 0), (71, 1, 0, 0, 0)]
def b_X10_isInside_42 : List LI := [(35, 3, 0, 0, 1), (40, 2, 0, 0, 0)]
def b_X10_isInside_48 : List LI := [(7, 0, 0, 0, 1), (71, 1, 0, 0, 0)]
def cd_X10_isInside : Nat → List LI := fun pc => if pc = 0 then b_X10_isInside_0 else if pc = 2 then b_X10_isInside_2 else if pc = 42 then b_X10_isInside_42 else if pc = 48 then b_X10_isInside_48 else []
def b_X11_init_0 : List LI := [(3, 0, 0, 0, 0), (68, 0, 0, 0, 0), (3, 0, 0, 0, 0), (7, 0, 0, 0, 200), (63, 14, 0, 0, 0), (50, 11, 0, 14, 0), (3, 0, 0, 0, 0), (7, 0, 0, 0, 12), (64, 18, 0, 0, 0), (50, 11, 2, 18, 0), (3, 0, 0, 0, 0), (7, 0, 0, 0, 16), (63, 14, 0, 0, 0), (50, 11, 4, 14, 0), (3, 0, 0, 0, 0), (7, 0, 0, 0, 4), (63, 14, 0, 0, 0), (50, 11, 5, 14, 0), (3, 0, 0, 0, 0), (66, 4, 0, 12, 0), (42, 0, 0, 0, 0), (67, 49, 1, 4, 3), (50, 11, 6, 4, 0), (3, 0, 0, 0, 0), (66, 2, 0, 3, 0), (42, 0, 0, 0, 0), (67, 17, 1, 2, 3), (50, 11, 7, 2, 0), (3, 0, 0, 0, 0), (66, 8, 0, 4, 0), (42, 0, 0, 0, 0), (67, 113, 1, 8, 3), (50, 11, 8, 8, 0), (3, 0, 0, 0, 0), (66, 3, 0, 7, 0), (42, 0, 0, 0, 0), (67, 31, 1, 3, 3), (50, 11, 9, 3, 0), (3, 0, 0, 0, 0), (66, 5, 0, 11, 0), (42, 0, 0, 0, 0), (3, 0, 0, 0, 0), (47, 11, 9, 3, 0), (67, 72, 2, 5, 5), (50, 11, 10, 5, 0), (3, 0, 0, 0, 0), (66, 6, 0, 7, 0), (42, 0, 0, 0, 0), (3, 0, 0, 0, 0), (47, 11, 9, 3, 0), (67, 86, 2, 6, 5), (50, 11, 11, 6, 0), (3, 0, 0, 0, 0), (66, 1, 0, 7, 0), (42, 0, 0, 0, 0), (67, 7, 1, 1, 3), (50, 11, 12, 1, 0), (3, 0, 0, 0, 0), (66, 0, 0, 4, 0), (42, 0, 0, 0, 0), (67, 0, 1, 0, 3), (50, 11, 13, 0, 0), (3, 0, 0, 0, 0), (47, 11, 4, 14, 0), (7, 0, 0, 0, 255), (67, 315, 2, 0, 4), (74, 0, 0, 0, 0)]
def cd_X11_init : Nat → List LI := fun pc => if pc = 0 then b_X11_init_0 else []
def b_X11_feed_0 : List LI := [(3, 0, 0, 0, 0), (45, 11, 1, 0, 0), (7, 0, 0, 0, 180), (36, 5, 12, 0, 0), (7, 0, 0, 0, (-1)), (71, 0, 0, 0, 0)]
def b_X11_feed_12 : List LI := [(3, 0, 0, 0, 0), (1, 1, 0, 0, 0), (67, 142, 2, 11, 5), (3, 0, 0, 0, 0), (1, 2, 0, 0, 0), (67, 142, 2, 11, 5), (3, 0, 0, 0, 0), (1, 3, 0, 0, 0), (67, 142, 2, 11, 5), (3, 0, 0, 0, 0), (1, 4, 0, 0, 0), (67, 142, 2, 11, 5), (3, 0, 0, 0, 0), (1, 5, 0, 0, 0), (67, 142, 2, 11, 5), (3, 0, 0, 0, 0), (45, 11, 1, 0, 0), (71, 0, 0, 0, 0)]
def cd_X11_feed : Nat → List LI := fun pc => if pc = 0 then b_X11_feed_0 else if pc = 12 then b_X11_feed_12 else []
def b_X11_takeBytes_0 : List LI := [(7, 0, 0, 0, 24), (4, 2, 0, 0, 0), (0, 3, 0, 0, 0)]
def b_X11_takeBytes_3 : List LI := [(1, 2, 0, 0, 0), (37, 2, 49, 0, 0), (3, 0, 0, 0, 0), (45, 11, 1, 0, 0), (7, 0, 0, 0, 200), (36, 3, 43, 0, 0), (3, 0, 0, 0, 0), (47, 11, 0, 14, 0), (3, 0, 0, 0, 0), (45, 11, 1, 0, 0), (1, 1, 0, 0, 0), (1, 2, 0, 0, 0), (18, 0, 0, 0, 0), (7, 0, 0, 0, 255), (19, 0, 0, 0, 0), (57, 0, 0, 0, 0), (3, 0, 0, 0, 0), (42, 0, 0, 0, 0), (45, 11, 1, 0, 0), (7, 0, 0, 0, 1), (10, 0, 0, 0, 0), (48, 11, 1, 0, 0), (0, 43, 0, 0, 0)]
def b_X11_takeBytes_43 : List LI := [(35, 2, 0, 0, (-8)), (40, 3, 0, 0, 0)]
def b_X11_takeBytes_49 : List LI := [(74, 0, 0, 0, 0)]
def cd_X11_takeBytes : Nat → List LI := fun pc => if pc = 0 then b_X11_takeBytes_0 else if pc = 3 then b_X11_takeBytes_3 else if pc = 43 then b_X11_takeBytes_43 else if pc = 49 then b_X11_takeBytes_49 else []
def b_X11_end_0 : List LI := [(1, 1, 0, 0, 0), (3, 0, 0, 0, 0), (45, 11, 1, 0, 0), (67, 189, 2, 0, 4), (37, 1, 13, 0, 0), (7, 0, 0, 0, (-1)), (71, 0, 0, 0, 0)]
def b_X11_end_13 : List LI := [(3, 0, 0, 0, 0), (1, 1, 0, 0, 0), (48, 11, 1, 0, 0), (1, 1, 0, 0, 0), (71, 0, 0, 0, 0)]
def cd_X11_end : Nat → List LI := fun pc => if pc = 0 then b_X11_end_0 else if pc = 13 then b_X11_end_13 else []
def b_X11_wish_0 : List LI := [(3, 0, 0, 0, 0), (45, 11, 3, 0, 0), (7, 0, 0, 0, 12), (36, 3, 17, 0, 0), (1, 1, 0, 0, 0), (7, 0, 0, 0, 3), (67, 189, 2, 0, 4), (37, 1, 19, 0, 0), (0, 17, 0, 0, 0)]
def b_X11_wish_17 : List LI := [(7, 0, 0, 0, (-1)), (71, 0, 0, 0, 0)]
def b_X11_wish_19 : List LI := [(3, 0, 0, 0, 0), (47, 11, 6, 4, 0), (3, 0, 0, 0, 0), (47, 11, 0, 14, 0), (3, 0, 0, 0, 0), (45, 11, 1, 0, 0), (67, 50, 3, 4, 7), (4, 2, 0, 0, 0), (3, 0, 0, 0, 0), (7, 0, 0, 0, 0), (48, 11, 1, 0, 0), (1, 2, 0, 0, 0), (37, 0, 49, 0, 0), (7, 0, 0, 0, (-2)), (1, 2, 0, 0, 0), (11, 0, 0, 0, 0), (71, 0, 0, 0, 0)]
def b_X11_wish_49 : List LI := [(3, 0, 0, 0, 0), (47, 11, 6, 4, 0), (47, 4, 0, 9, 0), (67, 130, 1, 9, 3), (6, 3, 0, 0, 0), (3, 0, 0, 0, 0), (47, 11, 2, 18, 0), (3, 0, 0, 0, 0), (45, 11, 3, 0, 0), (66, 10, 0, 5, 0), (42, 0, 0, 0, 0), (1, 1, 0, 0, 0), (3, 3, 0, 0, 0), (3, 0, 0, 0, 0), (47, 11, 7, 2, 0), (3, 3, 0, 0, 0), (67, 18, 2, 2, 5), (67, 131, 4, 10, 9), (61, 18, 0, 10, 0), (3, 0, 0, 0, 0), (42, 0, 0, 0, 0), (45, 11, 3, 0, 0), (7, 0, 0, 0, 1), (10, 0, 0, 0, 0), (48, 11, 3, 0, 0), (3, 0, 0, 0, 0), (45, 11, 3, 0, 0), (7, 0, 0, 0, 1), (11, 0, 0, 0, 0), (71, 0, 0, 0, 0)]
def cd_X11_wish : Nat → List LI := fun pc => if pc = 0 then b_X11_wish_0 else if pc = 17 then b_X11_wish_17 else if pc = 19 then b_X11_wish_19 else if pc = 49 then b_X11_wish_49 else []
def b_X11_makes_0 : List LI := [(3, 0, 0, 0, 0), (1, 1, 0, 0, 0), (67, 188, 2, 11, 5), (6, 4, 0, 0, 0), (3, 4, 0, 0, 0), (38, 0, 19, 0, 0), (1, 2, 0, 0, 0), (67, 190, 1, 0, 2), (37, 1, 21, 0, 0), (0, 19, 0, 0, 0)]
def b_X11_makes_19 : List LI := [(7, 0, 0, 0, (-1)), (71, 0, 0, 0, 0)]
def b_X11_makes_21 : List LI := [(1, 3, 0, 0, 0), (7, 0, 0, 0, (-1)), (36, 1, 35, 0, 0), (3, 4, 0, 0, 0), (1, 2, 0, 0, 0), (67, 132, 2, 10, 5), (40, 42, 0, 0, 0)]
def b_X11_makes_35 : List LI := [(3, 4, 0, 0, 0), (1, 2, 0, 0, 0), (1, 3, 0, 0, 0), (67, 133, 3, 10, 7), (0, 42, 0, 0, 0)]
def b_X11_makes_42 : List LI := [(71, 0, 0, 0, 0)]
def cd_X11_makes : Nat → List LI := fun pc => if pc = 0 then b_X11_makes_0 else if pc = 19 then b_X11_makes_19 else if pc = 21 then b_X11_makes_21 else if pc = 35 then b_X11_makes_35 else if pc = 42 then b_X11_makes_42 else []
def b_X11_of_0 : List LI := [(3, 0, 0, 0, 0), (1, 1, 0, 0, 0), (67, 188, 2, 11, 5), (6, 3, 0, 0, 0), (3, 3, 0, 0, 0), (38, 0, 18, 0, 0), (1, 2, 0, 0, 0), (7, 0, 0, 0, 2), (67, 189, 2, 0, 4), (37, 1, 20, 0, 0), (0, 18, 0, 0, 0)]
def b_X11_of_18 : List LI := [(7, 0, 0, 0, (-1)), (71, 0, 0, 0, 0)]
def b_X11_of_20 : List LI := [(7, 0, 0, 0, 0), (4, 4, 0, 0, 0), (7, 0, 0, 0, 0), (4, 5, 0, 0, 0), (0, 26, 0, 0, 0)]
def b_X11_of_26 : List LI := [(1, 5, 0, 0, 0), (7, 0, 0, 0, 512), (36, 3, 102, 0, 0), (3, 3, 0, 0, 0), (1, 5, 0, 0, 0), (67, 132, 2, 10, 5), (4, 6, 0, 0, 0), (1, 2, 0, 0, 0), (37, 1, 59, 0, 0), (1, 6, 0, 0, 0), (37, 5, 55, 0, 0), (7, 0, 0, 0, 1), (40, 86, 0, 0, 0)]
def b_X11_of_55 : List LI := [(7, 0, 0, 0, 0), (40, 86, 0, 0, 0)]
def b_X11_of_59 : List LI := [(1, 2, 0, 0, 0), (7, 0, 0, 0, 1), (36, 1, 75, 0, 0), (3, 3, 0, 0, 0), (1, 5, 0, 0, 0), (1, 5, 0, 0, 0), (67, 137, 3, 10, 7), (40, 86, 0, 0, 0)]
def b_X11_of_75 : List LI := [(1, 6, 0, 0, 0), (7, 0, 0, 0, 1), (36, 5, 85, 0, 0), (7, 0, 0, 0, 1), (40, 86, 0, 0, 0)]
def b_X11_of_85 : List LI := [(7, 0, 0, 0, 0), (0, 86, 0, 0, 0)]
def b_X11_of_86 : List LI := [(4, 7, 0, 0, 0), (1, 7, 0, 0, 0), (37, 0, 96, 0, 0), (35, 4, 0, 0, 1), (0, 96, 0, 0, 0)]
def b_X11_of_96 : List LI := [(35, 5, 0, 0, 1), (40, 26, 0, 0, 0)]
def b_X11_of_102 : List LI := [(1, 4, 0, 0, 0), (71, 0, 0, 0, 0)]
def cd_X11_of : Nat → List LI := fun pc => if pc = 0 then b_X11_of_0 else if pc = 18 then b_X11_of_18 else if pc = 20 then b_X11_of_20 else if pc = 26 then b_X11_of_26 else if pc = 55 then b_X11_of_55 else if pc = 59 then b_X11_of_59 else if pc = 75 then b_X11_of_75 else if pc = 85 then b_X11_of_85 else if pc = 86 then b_X11_of_86 else if pc = 96 then b_X11_of_96 else if pc = 102 then b_X11_of_102 else []
def b_X11_parts_0 : List LI := [(3, 0, 0, 0, 0), (1, 1, 0, 0, 0), (67, 188, 2, 11, 5), (6, 4, 0, 0, 0), (3, 0, 0, 0, 0), (1, 2, 0, 0, 0), (67, 188, 2, 11, 5), (6, 5, 0, 0, 0), (3, 4, 0, 0, 0), (38, 0, 32, 0, 0), (3, 5, 0, 0, 0), (38, 0, 32, 0, 0), (1, 3, 0, 0, 0), (7, 0, 0, 0, 2), (67, 189, 2, 0, 4), (37, 1, 35, 0, 0), (0, 32, 0, 0, 0)]
def b_X11_parts_32 : List LI := [(7, 0, 0, 0, (-2)), (71, 0, 0, 0, 0)]
def b_X11_parts_35 : List LI := [(7, 0, 0, 0, 0), (4, 6, 0, 0, 0), (0, 38, 0, 0, 0)]
def b_X11_parts_38 : List LI := [(1, 6, 0, 0, 0), (7, 0, 0, 0, 512), (36, 3, 106, 0, 0), (3, 4, 0, 0, 0), (3, 5, 0, 0, 0), (1, 6, 0, 0, 0), (67, 138, 3, 10, 7), (4, 7, 0, 0, 0), (1, 7, 0, 0, 0), (7, 0, 0, 0, (-1)), (36, 0, 100, 0, 0), (1, 3, 0, 0, 0), (37, 1, 72, 0, 0), (1, 6, 0, 0, 0), (40, 99, 0, 0, 0)]
def b_X11_parts_72 : List LI := [(1, 3, 0, 0, 0), (7, 0, 0, 0, 1), (36, 1, 82, 0, 0), (1, 7, 0, 0, 0), (40, 99, 0, 0, 0)]
def b_X11_parts_82 : List LI := [(3, 4, 0, 0, 0), (1, 6, 0, 0, 0), (1, 7, 0, 0, 0), (67, 135, 3, 10, 7), (37, 0, 98, 0, 0), (7, 0, 0, 0, 0), (40, 99, 0, 0, 0)]
def b_X11_parts_98 : List LI := [(7, 0, 0, 0, 1), (0, 99, 0, 0, 0)]
def b_X11_parts_99 : List LI := [(71, 0, 0, 0, 0)]
def b_X11_parts_100 : List LI := [(35, 6, 0, 0, 1), (40, 38, 0, 0, 0)]
def b_X11_parts_106 : List LI := [(7, 0, 0, 0, (-1)), (71, 0, 0, 0, 0)]
def cd_X11_parts : Nat → List LI := fun pc => if pc = 0 then b_X11_parts_0 else if pc = 32 then b_X11_parts_32 else if pc = 35 then b_X11_parts_35 else if pc = 38 then b_X11_parts_38 else if pc = 72 then b_X11_parts_72 else if pc = 82 then b_X11_parts_82 else if pc = 98 then b_X11_parts_98 else if pc = 99 then b_X11_parts_99 else if pc = 100 then b_X11_parts_100 else if pc = 106 then b_X11_parts_106 else []
def b_X11_within_0 : List LI := [(3, 0, 0, 0, 0), (1, 1, 0, 0, 0), (67, 188, 2, 11, 5), (6, 3, 0, 0, 0), (3, 0, 0, 0, 0), (1, 2, 0, 0, 0), (67, 188, 2, 11, 5), (6, 4, 0, 0, 0), (3, 3, 0, 0, 0), (38, 0, 22, 0, 0), (3, 4, 0, 0, 0), (39, 0, 24, 0, 0), (0, 22, 0, 0, 0)]
def b_X11_within_22 : List LI := [(7, 0, 0, 0, (-1)), (71, 0, 0, 0, 0)]
def b_X11_within_24 : List LI := [(7, 0, 0, 0, 0), (4, 5, 0, 0, 0), (0, 27, 0, 0, 0)]
def b_X11_within_27 : List LI := [(1, 5, 0, 0, 0), (7, 0, 0, 0, 512), (36, 3, 54, 0, 0), (3, 3, 0, 0, 0), (3, 4, 0, 0, 0), (1, 5, 0, 0, 0), (67, 139, 3, 10, 7), (37, 1, 48, 0, 0), (7, 0, 0, 0, 0), (71, 0, 0, 0, 0)]
def b_X11_within_48 : List LI := [(35, 5, 0, 0, 1), (40, 27, 0, 0, 0)]
def b_X11_within_54 : List LI := [(7, 0, 0, 0, 1), (71, 0, 0, 0, 0)]
def cd_X11_within : Nat → List LI := fun pc => if pc = 0 then b_X11_within_0 else if pc = 22 then b_X11_within_22 else if pc = 24 then b_X11_within_24 else if pc = 27 then b_X11_within_27 else if pc = 48 then b_X11_within_48 else if pc = 54 then b_X11_within_54 else []
def b_X11_right_0 : List LI := [(1, 1, 0, 0, 0), (7, 0, 0, 0, 3), (67, 189, 2, 0, 4), (37, 0, 47, 0, 0), (1, 2, 0, 0, 0), (7, 0, 0, 0, 255), (67, 189, 2, 0, 4), (37, 0, 47, 0, 0), (1, 3, 0, 0, 0), (7, 0, 0, 0, 15), (67, 189, 2, 0, 4), (37, 0, 47, 0, 0), (1, 4, 0, 0, 0), (7, 0, 0, 0, 15), (67, 189, 2, 0, 4), (37, 0, 47, 0, 0), (1, 5, 0, 0, 0), (7, 0, 0, 0, 15), (67, 189, 2, 0, 4), (37, 1, 49, 0, 0), (0, 47, 0, 0, 0)]
def b_X11_right_47 : List LI := [(7, 0, 0, 0, 0), (71, 1, 0, 0, 0)]
def b_X11_right_49 : List LI := [(3, 0, 0, 0, 0), (47, 11, 4, 14, 0), (7, 0, 0, 0, 4), (1, 1, 0, 0, 0), (12, 0, 0, 0, 0), (1, 3, 0, 0, 0), (57, 0, 0, 0, 0), (3, 0, 0, 0, 0), (47, 11, 4, 14, 0), (7, 0, 0, 0, 4), (1, 1, 0, 0, 0), (12, 0, 0, 0, 0), (7, 0, 0, 0, 1), (10, 0, 0, 0, 0), (1, 4, 0, 0, 0), (57, 0, 0, 0, 0), (3, 0, 0, 0, 0), (47, 11, 4, 14, 0), (7, 0, 0, 0, 4), (1, 1, 0, 0, 0), (12, 0, 0, 0, 0), (7, 0, 0, 0, 2), (10, 0, 0, 0, 0), (1, 5, 0, 0, 0), (57, 0, 0, 0, 0), (3, 0, 0, 0, 0), (47, 11, 4, 14, 0), (7, 0, 0, 0, 4), (1, 1, 0, 0, 0), (12, 0, 0, 0, 0), (7, 0, 0, 0, 3), (10, 0, 0, 0, 0), (1, 2, 0, 0, 0), (57, 0, 0, 0, 0), (7, 0, 0, 0, 1), (71, 1, 0, 0, 0)]
def cd_X11_right : Nat → List LI := fun pc => if pc = 0 then b_X11_right_0 else if pc = 47 then b_X11_right_47 else if pc = 49 then b_X11_right_49 else []
def b_X11_breaks_0 : List LI := [(3, 0, 0, 0, 0), (1, 1, 0, 0, 0), (67, 188, 2, 11, 5), (6, 2, 0, 0, 0), (3, 2, 0, 0, 0), (39, 0, 13, 0, 0), (7, 0, 0, 0, (-2)), (71, 0, 0, 0, 0)]
def b_X11_breaks_13 : List LI := [(7, 0, 0, 0, 0), (4, 3, 0, 0, 0), (0, 15, 0, 0, 0)]
def b_X11_breaks_15 : List LI := [(1, 3, 0, 0, 0), (7, 0, 0, 0, 512), (36, 3, 50, 0, 0), (3, 2, 0, 0, 0), (1, 3, 0, 0, 0), (67, 136, 2, 10, 5), (37, 1, 44, 0, 0), (3, 0, 0, 0, 0), (3, 2, 0, 0, 0), (45, 10, 0, 0, 0), (1, 3, 0, 0, 0), (67, 151, 3, 11, 7), (37, 1, 44, 0, 0), (1, 3, 0, 0, 0), (71, 0, 0, 0, 0)]
def b_X11_breaks_44 : List LI := [(35, 3, 0, 0, 1), (40, 15, 0, 0, 0)]
def b_X11_breaks_50 : List LI := [(7, 0, 0, 0, (-1)), (71, 0, 0, 0, 0)]
def cd_X11_breaks : Nat → List LI := fun pc => if pc = 0 then b_X11_breaks_0 else if pc = 13 then b_X11_breaks_13 else if pc = 15 then b_X11_breaks_15 else if pc = 44 then b_X11_breaks_44 else if pc = 50 then b_X11_breaks_50 else []
def b_X11_mayTouch_0 : List LI := [(7, 0, 0, 0, 0), (4, 3, 0, 0, 0), (0, 2, 0, 0, 0)]
def b_X11_mayTouch_2 : List LI := [(1, 3, 0, 0, 0), (7, 0, 0, 0, 4), (36, 3, 36, 0, 0), (3, 0, 0, 0, 0), (47, 11, 4, 14, 0), (7, 0, 0, 0, 4), (1, 1, 0, 0, 0), (12, 0, 0, 0, 0), (1, 3, 0, 0, 0), (10, 0, 0, 0, 0), (52, 0, 0, 0, 0), (1, 2, 0, 0, 0), (1, 3, 0, 0, 0), (67, 196, 2, 0, 4), (67, 194, 2, 0, 4), (37, 1, 30, 0, 0), (7, 0, 0, 0, 0), (71, 1, 0, 0, 0)]
def b_X11_mayTouch_30 : List LI := [(35, 3, 0, 0, 1), (40, 2, 0, 0, 0)]
def b_X11_mayTouch_36 : List LI := [(7, 0, 0, 0, 1), (71, 1, 0, 0, 0)]
def cd_X11_mayTouch : Nat → List LI := fun pc => if pc = 0 then b_X11_mayTouch_0 else if pc = 2 then b_X11_mayTouch_2 else if pc = 30 then b_X11_mayTouch_30 else if pc = 36 then b_X11_mayTouch_36 else []
def b_X11_quarrel_0 : List LI := [(3, 0, 0, 0, 0), (1, 1, 0, 0, 0), (67, 188, 2, 11, 5), (6, 3, 0, 0, 0), (3, 0, 0, 0, 0), (1, 2, 0, 0, 0), (67, 188, 2, 11, 5), (6, 4, 0, 0, 0), (3, 3, 0, 0, 0), (38, 0, 22, 0, 0), (3, 4, 0, 0, 0), (39, 0, 25, 0, 0), (0, 22, 0, 0, 0)]
def b_X11_quarrel_22 : List LI := [(7, 0, 0, 0, (-2)), (71, 0, 0, 0, 0)]
def b_X11_quarrel_25 : List LI := [(7, 0, 0, 0, 0), (4, 5, 0, 0, 0), (0, 28, 0, 0, 0)]
def b_X11_quarrel_28 : List LI := [(1, 5, 0, 0, 0), (7, 0, 0, 0, 512), (36, 3, 76, 0, 0), (3, 3, 0, 0, 0), (1, 5, 0, 0, 0), (67, 136, 2, 10, 5), (37, 1, 70, 0, 0), (3, 4, 0, 0, 0), (1, 5, 0, 0, 0), (67, 136, 2, 10, 5), (37, 1, 70, 0, 0), (3, 3, 0, 0, 0), (3, 4, 0, 0, 0), (1, 5, 0, 0, 0), (67, 138, 3, 10, 7), (7, 0, 0, 0, (-1)), (36, 0, 70, 0, 0), (1, 5, 0, 0, 0), (71, 0, 0, 0, 0)]
def b_X11_quarrel_70 : List LI := [(35, 5, 0, 0, 1), (40, 28, 0, 0, 0)]
def b_X11_quarrel_76 : List LI := [(7, 0, 0, 0, (-1)), (71, 0, 0, 0, 0)]
def cd_X11_quarrel : Nat → List LI := fun pc => if pc = 0 then b_X11_quarrel_0 else if pc = 22 then b_X11_quarrel_22 else if pc = 25 then b_X11_quarrel_25 else if pc = 28 then b_X11_quarrel_28 else if pc = 70 then b_X11_quarrel_70 else if pc = 76 then b_X11_quarrel_76 else []
def b_X11_rank_0 : List LI := [(1, 1, 0, 0, 0), (7, 0, 0, 0, 3), (67, 189, 2, 0, 4), (37, 0, 17, 0, 0), (1, 2, 0, 0, 0), (7, 0, 0, 0, 9), (67, 189, 2, 0, 4), (37, 1, 19, 0, 0), (0, 17, 0, 0, 0)]
def b_X11_rank_17 : List LI := [(7, 0, 0, 0, (-1)), (71, 0, 0, 0, 0)]
def b_X11_rank_19 : List LI := [(3, 0, 0, 0, 0), (47, 11, 5, 14, 0), (1, 1, 0, 0, 0), (52, 0, 0, 0, 0), (4, 3, 0, 0, 0), (3, 0, 0, 0, 0), (47, 11, 5, 14, 0), (1, 1, 0, 0, 0), (1, 2, 0, 0, 0), (57, 0, 0, 0, 0), (1, 3, 0, 0, 0), (71, 0, 0, 0, 0)]
def cd_X11_rank : Nat → List LI := fun pc => if pc = 0 then b_X11_rank_0 else if pc = 17 then b_X11_rank_17 else if pc = 19 then b_X11_rank_19 else []
def b_X11_joined_0 : List LI := [(1, 1, 0, 0, 0), (67, 190, 1, 0, 2), (37, 0, 15, 0, 0), (1, 2, 0, 0, 0), (7, 0, 0, 0, 2), (67, 189, 2, 0, 4), (37, 1, 17, 0, 0), (0, 15, 0, 0, 0)]
def b_X11_joined_15 : List LI := [(7, 0, 0, 0, (-1)), (71, 0, 0, 0, 0)]
def b_X11_joined_17 : List LI := [(3, 0, 0, 0, 0), (1, 1, 0, 0, 0), (67, 155, 2, 11, 5), (4, 3, 0, 0, 0), (1, 2, 0, 0, 0), (37, 1, 29, 0, 0), (1, 3, 0, 0, 0), (71, 0, 0, 0, 0)]
def b_X11_joined_29 : List LI := [(1, 3, 0, 0, 0), (7, 0, 0, 0, (-1)), (36, 1, 45, 0, 0), (1, 2, 0, 0, 0), (7, 0, 0, 0, 1), (36, 1, 43, 0, 0), (7, 0, 0, 0, 0), (40, 44, 0, 0, 0)]
def b_X11_joined_43 : List LI := [(7, 0, 0, 0, (-1)), (0, 44, 0, 0, 0)]
def b_X11_joined_44 : List LI := [(71, 0, 0, 0, 0)]
def b_X11_joined_45 : List LI := [(1, 2, 0, 0, 0), (7, 0, 0, 0, 1), (36, 1, 63, 0, 0), (3, 0, 0, 0, 0), (47, 11, 2, 18, 0), (1, 3, 0, 0, 0), (56, 18, 0, 10, 0), (1, 1, 0, 0, 0), (67, 132, 2, 10, 5), (40, 74, 0, 0, 0)]
def b_X11_joined_63 : List LI := [(3, 0, 0, 0, 0), (47, 11, 2, 18, 0), (1, 3, 0, 0, 0), (56, 18, 0, 10, 0), (1, 1, 0, 0, 0), (7, 0, 0, 0, 0), (67, 133, 3, 10, 7), (0, 74, 0, 0, 0)]
def b_X11_joined_74 : List LI := [(71, 0, 0, 0, 0)]
def cd_X11_joined : Nat → List LI := fun pc => if pc = 0 then b_X11_joined_0 else if pc = 15 then b_X11_joined_15 else if pc = 17 then b_X11_joined_17 else if pc = 29 then b_X11_joined_29 else if pc = 43 then b_X11_joined_43 else if pc = 44 then b_X11_joined_44 else if pc = 45 then b_X11_joined_45 else if pc = 63 then b_X11_joined_63 else if pc = 74 then b_X11_joined_74 else []
def b_X11_firstByRank_0 : List LI := [(7, 0, 0, 0, (-1)), (4, 2, 0, 0, 0), (7, 0, 0, 0, 0), (4, 3, 0, 0, 0), (0, 4, 0, 0, 0)]
def b_X11_firstByRank_4 : List LI := [(1, 3, 0, 0, 0), (3, 0, 0, 0, 0), (45, 11, 3, 0, 0), (36, 3, 69, 0, 0), (3, 0, 0, 0, 0), (47, 11, 2, 18, 0), (1, 3, 0, 0, 0), (56, 18, 0, 10, 0), (1, 1, 0, 0, 0), (67, 136, 2, 10, 5), (37, 1, 63, 0, 0), (1, 2, 0, 0, 0), (7, 0, 0, 0, (-1)), (36, 0, 61, 0, 0), (3, 0, 0, 0, 0), (47, 11, 5, 14, 0), (3, 0, 0, 0, 0), (47, 11, 2, 18, 0), (1, 3, 0, 0, 0), (56, 18, 0, 10, 0), (45, 10, 0, 0, 0), (52, 0, 0, 0, 0), (3, 0, 0, 0, 0), (47, 11, 5, 14, 0), (3, 0, 0, 0, 0), (47, 11, 2, 18, 0), (1, 2, 0, 0, 0), (56, 18, 0, 10, 0), (45, 10, 0, 0, 0), (52, 0, 0, 0, 0), (36, 5, 63, 0, 0), (0, 61, 0, 0, 0)]
def b_X11_firstByRank_61 : List LI := [(1, 3, 0, 0, 0), (4, 2, 0, 0, 0), (0, 63, 0, 0, 0)]
def b_X11_firstByRank_63 : List LI := [(35, 3, 0, 0, 1), (40, 4, 0, 0, 0)]
def b_X11_firstByRank_69 : List LI := [(1, 2, 0, 0, 0), (71, 0, 0, 0, 0)]
def cd_X11_firstByRank : Nat → List LI := fun pc => if pc = 0 then b_X11_firstByRank_0 else if pc = 4 then b_X11_firstByRank_4 else if pc = 61 then b_X11_firstByRank_61 else if pc = 63 then b_X11_firstByRank_63 else if pc = 69 then b_X11_firstByRank_69 else []
def b_X11_row_0 : List LI := [(3, 0, 0, 0, 0), (47, 11, 9, 3, 0), (1, 1, 0, 0, 0), (1, 2, 0, 0, 0), (67, 32, 3, 3, 7), (6, 6, 0, 0, 0), (3, 6, 0, 0, 0), (38, 0, 45, 0, 0), (1, 3, 0, 0, 0), (7, 0, 0, 0, 124), (67, 189, 2, 0, 4), (37, 0, 45, 0, 0), (1, 4, 0, 0, 0), (7, 0, 0, 0, 124), (67, 189, 2, 0, 4), (37, 0, 45, 0, 0), (1, 5, 0, 0, 0), (7, 0, 0, 0, 9), (67, 189, 2, 0, 4), (37, 1, 47, 0, 0), (0, 45, 0, 0, 0)]
def b_X11_row_45 : List LI := [(7, 0, 0, 0, (-1)), (71, 0, 0, 0, 0)]
def b_X11_row_47 : List LI := [(3, 6, 0, 0, 0), (1, 3, 0, 0, 0), (1, 4, 0, 0, 0), (1, 5, 0, 0, 0), (67, 96, 4, 7, 9), (71, 0, 0, 0, 0)]
def cd_X11_row : Nat → List LI := fun pc => if pc = 0 then b_X11_row_0 else if pc = 45 then b_X11_row_45 else if pc = 47 then b_X11_row_47 else []
def b_X11_erase_0 : List LI := [(3, 0, 0, 0, 0), (47, 11, 9, 3, 0), (1, 1, 0, 0, 0), (1, 2, 0, 0, 0), (67, 32, 3, 3, 7), (6, 3, 0, 0, 0), (3, 3, 0, 0, 0), (39, 0, 16, 0, 0), (7, 0, 0, 0, (-1)), (71, 0, 0, 0, 0)]
def b_X11_erase_16 : List LI := [(3, 3, 0, 0, 0), (45, 7, 3, 0, 0), (4, 4, 0, 0, 0), (3, 3, 0, 0, 0), (67, 97, 1, 7, 3), (1, 4, 0, 0, 0), (71, 0, 0, 0, 0)]
def cd_X11_erase : Nat → List LI := fun pc => if pc = 0 then b_X11_erase_0 else if pc = 16 then b_X11_erase_16 else []
def b_X11_renew_0 : List LI := [(3, 0, 0, 0, 0), (47, 11, 9, 3, 0), (67, 34, 1, 3, 3), (4, 1, 0, 0, 0), (3, 0, 0, 0, 0), (47, 11, 9, 3, 0), (1, 1, 0, 0, 0), (67, 35, 2, 3, 5), (1, 1, 0, 0, 0), (67, 312, 1, 0, 2), (71, 0, 0, 0, 0)]
def cd_X11_renew : Nat → List LI := fun pc => if pc = 0 then b_X11_renew_0 else []
def b_X11_line_0 : List LI := [(1, 1, 0, 0, 0), (1, 2, 0, 0, 0), (67, 193, 2, 0, 4), (37, 0, 25, 0, 0), (3, 0, 0, 0, 0), (47, 11, 9, 3, 0), (1, 1, 0, 0, 0), (1, 2, 0, 0, 0), (1, 3, 0, 0, 0), (67, 37, 4, 3, 9), (37, 0, 25, 0, 0), (7, 0, 0, 0, 1), (40, 26, 0, 0, 0)]
def b_X11_line_25 : List LI := [(7, 0, 0, 0, 0), (0, 26, 0, 0, 0)]
def b_X11_line_26 : List LI := [(71, 1, 0, 0, 0)]
def cd_X11_line : Nat → List LI := fun pc => if pc = 0 then b_X11_line_0 else if pc = 25 then b_X11_line_25 else if pc = 26 then b_X11_line_26 else []
def b_X11_entries_0 : List LI := [(1, 1, 0, 0, 0), (7, 0, 0, 0, 255), (67, 189, 2, 0, 4), (37, 1, 12, 0, 0), (7, 0, 0, 0, (-1)), (71, 0, 0, 0, 0)]
def b_X11_entries_12 : List LI := [(3, 0, 0, 0, 0), (47, 11, 9, 3, 0), (45, 3, 2, 0, 0), (4, 2, 0, 0, 0), (3, 0, 0, 0, 0), (47, 11, 9, 3, 0), (1, 1, 0, 0, 0), (48, 3, 2, 0, 0), (1, 2, 0, 0, 0), (71, 0, 0, 0, 0)]
def cd_X11_entries : Nat → List LI := fun pc => if pc = 0 then b_X11_entries_0 else if pc = 12 then b_X11_entries_12 else []
def b_X11_ends_0 : List LI := [(1, 1, 0, 0, 0), (67, 190, 1, 0, 2), (37, 0, 17, 0, 0), (1, 2, 0, 0, 0), (7, 0, 0, 0, 255), (67, 189, 2, 0, 4), (37, 1, 19, 0, 0), (0, 17, 0, 0, 0)]
def b_X11_ends_17 : List LI := [(7, 0, 0, 0, (-1)), (71, 0, 0, 0, 0)]
def b_X11_ends_19 : List LI := [(3, 0, 0, 0, 0), (47, 11, 9, 3, 0), (1, 1, 0, 0, 0), (1, 2, 0, 0, 0), (67, 43, 3, 3, 7), (71, 0, 0, 0, 0)]
def cd_X11_ends : Nat → List LI := fun pc => if pc = 0 then b_X11_ends_0 else if pc = 17 then b_X11_ends_17 else if pc = 19 then b_X11_ends_19 else []
def b_X11_way_0 : List LI := [(1, 1, 0, 0, 0), (37, 2, 27, 0, 0), (1, 1, 0, 0, 0), (3, 0, 0, 0, 0), (47, 11, 9, 3, 0), (45, 3, 4, 0, 0), (36, 3, 27, 0, 0), (3, 0, 0, 0, 0), (47, 11, 9, 3, 0), (47, 3, 3, 14, 0), (1, 1, 0, 0, 0), (52, 0, 0, 0, 0), (40, 28, 0, 0, 0)]
def b_X11_way_27 : List LI := [(7, 0, 0, 0, (-1)), (0, 28, 0, 0, 0)]
def b_X11_way_28 : List LI := [(71, 0, 0, 0, 0)]
def cd_X11_way : Nat → List LI := fun pc => if pc = 0 then b_X11_way_0 else if pc = 27 then b_X11_way_27 else if pc = 28 then b_X11_way_28 else []
def b_X11_shown_0 : List LI := [(3, 0, 0, 0, 0), (1, 1, 0, 0, 0), (67, 188, 2, 11, 5), (6, 3, 0, 0, 0), (3, 3, 0, 0, 0), (38, 0, 20, 0, 0), (1, 2, 0, 0, 0), (7, 0, 0, 0, 255), (67, 189, 2, 0, 4), (37, 1, 23, 0, 0), (0, 20, 0, 0, 0)]
def b_X11_shown_20 : List LI := [(7, 0, 0, 0, (-2)), (71, 0, 0, 0, 0)]
def b_X11_shown_23 : List LI := [(3, 0, 0, 0, 0), (47, 11, 9, 3, 0), (3, 3, 0, 0, 0), (3, 0, 0, 0, 0), (47, 11, 9, 3, 0), (1, 2, 0, 0, 0), (67, 45, 2, 3, 5), (67, 48, 3, 3, 7), (71, 0, 0, 0, 0)]
def cd_X11_shown : Nat → List LI := fun pc => if pc = 0 then b_X11_shown_0 else if pc = 20 then b_X11_shown_20 else if pc = 23 then b_X11_shown_23 else []
def b_X11_guessed_0 : List LI := [(1, 1, 0, 0, 0), (7, 0, 0, 0, 255), (67, 189, 2, 0, 4), (37, 1, 12, 0, 0), (7, 0, 0, 0, (-1)), (71, 0, 0, 0, 0)]
def b_X11_guessed_12 : List LI := [(3, 0, 0, 0, 0), (47, 11, 9, 3, 0), (1, 1, 0, 0, 0), (67, 45, 2, 3, 5), (6, 2, 0, 0, 0), (7, 0, 0, 0, 0), (4, 3, 0, 0, 0), (7, 0, 0, 0, 0), (4, 4, 0, 0, 0), (0, 26, 0, 0, 0)]
def b_X11_guessed_26 : List LI := [(1, 4, 0, 0, 0), (3, 0, 0, 0, 0), (45, 11, 3, 0, 0), (36, 3, 67, 0, 0), (3, 0, 0, 0, 0), (47, 11, 9, 3, 0), (3, 0, 0, 0, 0), (47, 11, 2, 18, 0), (1, 4, 0, 0, 0), (56, 18, 0, 10, 0), (3, 2, 0, 0, 0), (67, 48, 3, 3, 7), (7, 0, 0, 0, (-1)), (36, 1, 61, 0, 0), (1, 3, 0, 0, 0), (7, 0, 0, 0, 1), (1, 4, 0, 0, 0), (16, 0, 0, 0, 0), (20, 0, 0, 0, 0), (4, 3, 0, 0, 0), (0, 61, 0, 0, 0)]
def b_X11_guessed_61 : List LI := [(35, 4, 0, 0, 1), (40, 26, 0, 0, 0)]
def b_X11_guessed_67 : List LI := [(1, 3, 0, 0, 0), (71, 0, 0, 0, 0)]
def cd_X11_guessed : Nat → List LI := fun pc => if pc = 0 then b_X11_guessed_0 else if pc = 12 then b_X11_guessed_12 else if pc = 26 then b_X11_guessed_26 else if pc = 61 then b_X11_guessed_61 else if pc = 67 then b_X11_guessed_67 else []
def b_X11_packed_0 : List LI := [(3, 0, 0, 0, 0), (47, 11, 9, 3, 0), (1, 1, 0, 0, 0), (1, 2, 0, 0, 0), (67, 32, 3, 3, 7), (6, 3, 0, 0, 0), (3, 3, 0, 0, 0), (39, 0, 18, 0, 0), (7, 0, 0, 0, (-1)), (40, 22, 0, 0, 0)]
def b_X11_packed_18 : List LI := [(3, 3, 0, 0, 0), (67, 103, 1, 7, 3), (0, 22, 0, 0, 0)]
def b_X11_packed_22 : List LI := [(71, 0, 0, 0, 0)]
def cd_X11_packed : Nat → List LI := fun pc => if pc = 0 then b_X11_packed_0 else if pc = 18 then b_X11_packed_18 else if pc = 22 then b_X11_packed_22 else []
def b_X11_writes_0 : List LI := [(3, 0, 0, 0, 0), (47, 11, 10, 5, 0), (67, 73, 1, 5, 3), (71, 0, 0, 0, 0)]
def cd_X11_writes : Nat → List LI := fun pc => if pc = 0 then b_X11_writes_0 else []
def b_X11_written_0 : List LI := [(1, 1, 0, 0, 0), (37, 2, 27, 0, 0), (1, 1, 0, 0, 0), (3, 0, 0, 0, 0), (47, 11, 10, 5, 0), (45, 5, 3, 0, 0), (36, 3, 27, 0, 0), (3, 0, 0, 0, 0), (47, 11, 10, 5, 0), (47, 5, 2, 14, 0), (1, 1, 0, 0, 0), (52, 0, 0, 0, 0), (40, 28, 0, 0, 0)]
def b_X11_written_27 : List LI := [(7, 0, 0, 0, (-1)), (0, 28, 0, 0, 0)]
def b_X11_written_28 : List LI := [(71, 0, 0, 0, 0)]
def cd_X11_written : Nat → List LI := fun pc => if pc = 0 then b_X11_written_0 else if pc = 27 then b_X11_written_27 else if pc = 28 then b_X11_written_28 else []
def b_X11_worst_0 : List LI := [(1, 1, 0, 0, 0), (7, 0, 0, 0, 2), (67, 189, 2, 0, 4), (37, 0, 23, 0, 0), (1, 1, 0, 0, 0), (37, 5, 23, 0, 0), (3, 0, 0, 0, 0), (47, 11, 11, 6, 0), (1, 1, 0, 0, 0), (67, 87, 2, 6, 5), (40, 24, 0, 0, 0)]
def b_X11_worst_23 : List LI := [(7, 0, 0, 0, (-1)), (0, 24, 0, 0, 0)]
def b_X11_worst_24 : List LI := [(71, 0, 0, 0, 0)]
def cd_X11_worst : Nat → List LI := fun pc => if pc = 0 then b_X11_worst_0 else if pc = 23 then b_X11_worst_23 else if pc = 24 then b_X11_worst_24 else []
def b_X11_falls_0 : List LI := [(1, 1, 0, 0, 0), (37, 2, 27, 0, 0), (1, 1, 0, 0, 0), (3, 0, 0, 0, 0), (47, 11, 11, 6, 0), (45, 6, 2, 0, 0), (36, 3, 27, 0, 0), (3, 0, 0, 0, 0), (47, 11, 11, 6, 0), (47, 6, 1, 14, 0), (1, 1, 0, 0, 0), (52, 0, 0, 0, 0), (40, 28, 0, 0, 0)]
def b_X11_falls_27 : List LI := [(7, 0, 0, 0, (-1)), (0, 28, 0, 0, 0)]
def b_X11_falls_28 : List LI := [(71, 0, 0, 0, 0)]
def cd_X11_falls : Nat → List LI := fun pc => if pc = 0 then b_X11_falls_0 else if pc = 27 then b_X11_falls_27 else if pc = 28 then b_X11_falls_28 else []
def b_X11_needs_0 : List LI := [(3, 0, 0, 0, 0), (1, 1, 0, 0, 0), (67, 188, 2, 11, 5), (6, 4, 0, 0, 0), (3, 4, 0, 0, 0), (38, 0, 28, 0, 0), (1, 2, 0, 0, 0), (67, 191, 1, 0, 2), (37, 0, 28, 0, 0), (1, 3, 0, 0, 0), (7, 0, 0, 0, 99), (67, 189, 2, 0, 4), (37, 1, 30, 0, 0), (0, 28, 0, 0, 0)]
def b_X11_needs_28 : List LI := [(7, 0, 0, 0, (-1)), (71, 0, 0, 0, 0)]
def b_X11_needs_30 : List LI := [(3, 4, 0, 0, 0), (47, 10, 3, 14, 0), (1, 2, 0, 0, 0), (52, 0, 0, 0, 0), (4, 5, 0, 0, 0), (3, 4, 0, 0, 0), (47, 10, 3, 14, 0), (1, 2, 0, 0, 0), (1, 3, 0, 0, 0), (57, 0, 0, 0, 0), (1, 5, 0, 0, 0), (71, 0, 0, 0, 0)]
def cd_X11_needs : Nat → List LI := fun pc => if pc = 0 then b_X11_needs_0 else if pc = 28 then b_X11_needs_28 else if pc = 30 then b_X11_needs_30 else []
def b_X11_worth_0 : List LI := [(1, 3, 0, 0, 0), (7, 0, 0, 0, 999), (67, 189, 2, 0, 4), (37, 1, 12, 0, 0), (7, 0, 0, 0, (-1)), (71, 0, 0, 0, 0)]
def b_X11_worth_12 : List LI := [(1, 1, 0, 0, 0), (7, 0, 0, 0, 1), (36, 1, 38, 0, 0), (1, 2, 0, 0, 0), (67, 191, 1, 0, 2), (37, 0, 36, 0, 0), (3, 0, 0, 0, 0), (47, 11, 12, 1, 0), (1, 2, 0, 0, 0), (1, 3, 0, 0, 0), (67, 8, 3, 1, 7), (40, 37, 0, 0, 0)]
def b_X11_worth_36 : List LI := [(7, 0, 0, 0, (-1)), (0, 37, 0, 0, 0)]
def b_X11_worth_37 : List LI := [(71, 0, 0, 0, 0)]
def b_X11_worth_38 : List LI := [(3, 0, 0, 0, 0), (1, 2, 0, 0, 0), (67, 188, 2, 11, 5), (6, 4, 0, 0, 0), (1, 1, 0, 0, 0), (37, 1, 54, 0, 0), (3, 4, 0, 0, 0), (39, 0, 56, 0, 0), (0, 54, 0, 0, 0)]
def b_X11_worth_54 : List LI := [(7, 0, 0, 0, (-1)), (71, 0, 0, 0, 0)]
def b_X11_worth_56 : List LI := [(3, 4, 0, 0, 0), (45, 10, 4, 0, 0), (4, 5, 0, 0, 0), (3, 4, 0, 0, 0), (1, 3, 0, 0, 0), (48, 10, 4, 0, 0), (1, 5, 0, 0, 0), (71, 0, 0, 0, 0)]
def cd_X11_worth : Nat → List LI := fun pc => if pc = 0 then b_X11_worth_0 else if pc = 12 then b_X11_worth_12 else if pc = 36 then b_X11_worth_36 else if pc = 37 then b_X11_worth_37 else if pc = 38 then b_X11_worth_38 else if pc = 54 then b_X11_worth_54 else if pc = 56 then b_X11_worth_56 else []
def b_X11_kept_0 : List LI := [(1, 1, 0, 0, 0), (7, 0, 0, 0, 1), (67, 189, 2, 0, 4), (37, 1, 10, 0, 0), (7, 0, 0, 0, (-1)), (71, 0, 0, 0, 0)]
def b_X11_kept_10 : List LI := [(3, 0, 0, 0, 0), (47, 11, 12, 1, 0), (3, 0, 0, 0, 0), (47, 11, 2, 18, 0), (3, 0, 0, 0, 0), (45, 11, 3, 0, 0), (67, 9, 3, 1, 7), (1, 1, 0, 0, 0), (37, 1, 39, 0, 0), (3, 0, 0, 0, 0), (47, 11, 12, 1, 0), (45, 1, 3, 0, 0), (40, 46, 0, 0, 0)]
def b_X11_kept_39 : List LI := [(3, 0, 0, 0, 0), (47, 11, 12, 1, 0), (45, 1, 4, 0, 0), (0, 46, 0, 0, 0)]
def b_X11_kept_46 : List LI := [(71, 0, 0, 0, 0)]
def cd_X11_kept : Nat → List LI := fun pc => if pc = 0 then b_X11_kept_0 else if pc = 10 then b_X11_kept_10 else if pc = 39 then b_X11_kept_39 else if pc = 46 then b_X11_kept_46 else []
def b_X11_counts_0 : List LI := [(1, 1, 0, 0, 0), (1, 2, 0, 0, 0), (67, 193, 2, 0, 4), (37, 0, 19, 0, 0), (1, 4, 0, 0, 0), (7, 0, 0, 0, 999999), (67, 189, 2, 0, 4), (37, 1, 21, 0, 0), (0, 19, 0, 0, 0)]
def b_X11_counts_19 : List LI := [(7, 0, 0, 0, (-1)), (71, 0, 0, 0, 0)]
def b_X11_counts_21 : List LI := [(3, 0, 0, 0, 0), (47, 11, 12, 1, 0), (1, 1, 0, 0, 0), (1, 2, 0, 0, 0), (1, 3, 0, 0, 0), (1, 4, 0, 0, 0), (67, 14, 5, 1, 11), (71, 0, 0, 0, 0)]
def cd_X11_counts : Nat → List LI := fun pc => if pc = 0 then b_X11_counts_0 else if pc = 19 then b_X11_counts_19 else if pc = 21 then b_X11_counts_21 else []
def b_X11_liars_0 : List LI := [(3, 0, 0, 0, 0), (47, 11, 12, 1, 0), (67, 15, 1, 1, 3), (71, 0, 0, 0, 0)]
def cd_X11_liars : Nat → List LI := fun pc => if pc = 0 then b_X11_liars_0 else []
def b_X11_tell_0 : List LI := [(3, 0, 0, 0, 0), (1, 1, 0, 0, 0), (67, 188, 2, 11, 5), (6, 3, 0, 0, 0), (3, 3, 0, 0, 0), (39, 0, 12, 0, 0), (7, 0, 0, 0, (-1)), (71, 0, 0, 0, 0)]
def b_X11_tell_12 : List LI := [(1, 2, 0, 0, 0), (37, 0, 30, 0, 0), (3, 0, 0, 0, 0), (47, 11, 8, 8, 0), (3, 3, 0, 0, 0), (47, 10, 1, 9, 0), (67, 115, 2, 8, 5), (40, 41, 0, 0, 0)]
def b_X11_tell_30 : List LI := [(3, 0, 0, 0, 0), (47, 11, 8, 8, 0), (3, 3, 0, 0, 0), (47, 10, 1, 9, 0), (67, 114, 2, 8, 5), (0, 41, 0, 0, 0)]
def b_X11_tell_41 : List LI := [(71, 0, 0, 0, 0)]
def cd_X11_tell : Nat → List LI := fun pc => if pc = 0 then b_X11_tell_0 else if pc = 12 then b_X11_tell_12 else if pc = 30 then b_X11_tell_30 else if pc = 41 then b_X11_tell_41 else []
def b_X11_octet_0 : List LI := [(1, 1, 0, 0, 0), (37, 2, 27, 0, 0), (1, 1, 0, 0, 0), (3, 0, 0, 0, 0), (47, 11, 8, 8, 0), (45, 8, 1, 0, 0), (36, 3, 27, 0, 0), (3, 0, 0, 0, 0), (47, 11, 8, 8, 0), (47, 8, 0, 14, 0), (1, 1, 0, 0, 0), (52, 0, 0, 0, 0), (40, 28, 0, 0, 0)]
def b_X11_octet_27 : List LI := [(7, 0, 0, 0, (-1)), (0, 28, 0, 0, 0)]
def b_X11_octet_28 : List LI := [(71, 0, 0, 0, 0)]
def cd_X11_octet : Nat → List LI := fun pc => if pc = 0 then b_X11_octet_0 else if pc = 27 then b_X11_octet_27 else if pc = 28 then b_X11_octet_28 else []
def b_X11_cable_0 : List LI := [(1, 1, 0, 0, 0), (1, 2, 0, 0, 0), (67, 193, 2, 0, 4), (37, 0, 20, 0, 0), (3, 0, 0, 0, 0), (47, 11, 13, 0, 0), (1, 1, 0, 0, 0), (1, 2, 0, 0, 0), (67, 1, 3, 0, 7), (40, 21, 0, 0, 0)]
def b_X11_cable_20 : List LI := [(7, 0, 0, 0, (-1)), (0, 21, 0, 0, 0)]
def b_X11_cable_21 : List LI := [(71, 0, 0, 0, 0)]
def cd_X11_cable : Nat → List LI := fun pc => if pc = 0 then b_X11_cable_0 else if pc = 20 then b_X11_cable_20 else if pc = 21 then b_X11_cable_21 else []
def b_X11_edges_0 : List LI := [(1, 1, 0, 0, 0), (7, 0, 0, 0, 255), (67, 189, 2, 0, 4), (37, 1, 12, 0, 0), (7, 0, 0, 0, (-1)), (71, 0, 0, 0, 0)]
def b_X11_edges_12 : List LI := [(3, 0, 0, 0, 0), (47, 11, 13, 0, 0), (45, 0, 3, 0, 0), (4, 2, 0, 0, 0), (3, 0, 0, 0, 0), (47, 11, 13, 0, 0), (1, 1, 0, 0, 0), (48, 0, 3, 0, 0), (1, 2, 0, 0, 0), (71, 0, 0, 0, 0)]
def cd_X11_edges : Nat → List LI := fun pc => if pc = 0 then b_X11_edges_0 else if pc = 12 then b_X11_edges_12 else []
def b_X11_known_0 : List LI := [(3, 0, 0, 0, 0), (47, 11, 13, 0, 0), (1, 1, 0, 0, 0), (67, 2, 2, 0, 5), (37, 0, 22, 0, 0), (3, 0, 0, 0, 0), (47, 11, 13, 0, 0), (1, 1, 0, 0, 0), (67, 3, 2, 0, 5), (40, 23, 0, 0, 0)]
def b_X11_known_22 : List LI := [(7, 0, 0, 0, (-1)), (0, 23, 0, 0, 0)]
def b_X11_known_23 : List LI := [(71, 0, 0, 0, 0)]
def cd_X11_known : Nat → List LI := fun pc => if pc = 0 then b_X11_known_0 else if pc = 22 then b_X11_known_22 else if pc = 23 then b_X11_known_23 else []
def b_X11_taps_0 : List LI := [(3, 0, 0, 0, 0), (47, 11, 13, 0, 0), (1, 1, 0, 0, 0), (67, 2, 2, 0, 5), (37, 0, 22, 0, 0), (3, 0, 0, 0, 0), (47, 11, 13, 0, 0), (1, 1, 0, 0, 0), (67, 6, 2, 0, 5), (40, 23, 0, 0, 0)]
def b_X11_taps_22 : List LI := [(7, 0, 0, 0, (-1)), (0, 23, 0, 0, 0)]
def b_X11_taps_23 : List LI := [(71, 0, 0, 0, 0)]
def cd_X11_taps : Nat → List LI := fun pc => if pc = 0 then b_X11_taps_0 else if pc = 22 then b_X11_taps_22 else if pc = 23 then b_X11_taps_23 else []
def b_X11_make_0 : List LI := [(3, 0, 0, 0, 0), (1, 1, 0, 0, 0), (67, 188, 2, 11, 5), (6, 4, 0, 0, 0), (3, 0, 0, 0, 0), (47, 11, 9, 3, 0), (1, 2, 0, 0, 0), (1, 3, 0, 0, 0), (67, 32, 3, 3, 7), (6, 5, 0, 0, 0), (3, 4, 0, 0, 0), (38, 0, 28, 0, 0), (3, 5, 0, 0, 0), (39, 0, 30, 0, 0), (0, 28, 0, 0, 0)]
def b_X11_make_28 : List LI := [(7, 0, 0, 0, (-1)), (71, 0, 0, 0, 0)]
def b_X11_make_30 : List LI := [(3, 5, 0, 0, 0), (3, 4, 0, 0, 0), (1, 3, 0, 0, 0), (67, 107, 3, 7, 7), (71, 0, 0, 0, 0)]
def cd_X11_make : Nat → List LI := fun pc => if pc = 0 then b_X11_make_0 else if pc = 28 then b_X11_make_28 else if pc = 30 then b_X11_make_30 else []
def b_X11_rows_0 : List LI := [(3, 0, 0, 0, 0), (47, 11, 9, 3, 0), (1, 1, 0, 0, 0), (1, 2, 0, 0, 0), (67, 32, 3, 3, 7), (6, 5, 0, 0, 0), (3, 5, 0, 0, 0), (38, 0, 38, 0, 0), (1, 3, 0, 0, 0), (37, 2, 38, 0, 0), (1, 3, 0, 0, 0), (3, 5, 0, 0, 0), (45, 7, 3, 0, 0), (36, 3, 38, 0, 0), (1, 4, 0, 0, 0), (7, 0, 0, 0, 2), (67, 189, 2, 0, 4), (37, 1, 40, 0, 0), (0, 38, 0, 0, 0)]
def b_X11_rows_38 : List LI := [(7, 0, 0, 0, (-1)), (71, 0, 0, 0, 0)]
def b_X11_rows_40 : List LI := [(1, 4, 0, 0, 0), (37, 1, 55, 0, 0), (3, 5, 0, 0, 0), (47, 7, 0, 14, 0), (1, 3, 0, 0, 0), (52, 0, 0, 0, 0), (40, 78, 0, 0, 0)]
def b_X11_rows_55 : List LI := [(1, 4, 0, 0, 0), (7, 0, 0, 0, 1), (36, 1, 71, 0, 0), (3, 5, 0, 0, 0), (47, 7, 1, 14, 0), (1, 3, 0, 0, 0), (52, 0, 0, 0, 0), (40, 78, 0, 0, 0)]
def b_X11_rows_71 : List LI := [(3, 5, 0, 0, 0), (47, 7, 2, 14, 0), (1, 3, 0, 0, 0), (52, 0, 0, 0, 0), (0, 78, 0, 0, 0)]
def b_X11_rows_78 : List LI := [(71, 0, 0, 0, 0)]
def cd_X11_rows : Nat → List LI := fun pc => if pc = 0 then b_X11_rows_0 else if pc = 38 then b_X11_rows_38 else if pc = 40 then b_X11_rows_40 else if pc = 55 then b_X11_rows_55 else if pc = 71 then b_X11_rows_71 else if pc = 78 then b_X11_rows_78 else []
def b_X11_write_0 : List LI := [(1, 1, 0, 0, 0), (67, 191, 1, 0, 2), (37, 0, 19, 0, 0), (1, 2, 0, 0, 0), (7, 0, 0, 0, (-1)), (36, 0, 22, 0, 0), (1, 2, 0, 0, 0), (67, 192, 1, 0, 2), (37, 1, 22, 0, 0), (0, 19, 0, 0, 0)]
def b_X11_write_19 : List LI := [(7, 0, 0, 0, (-2)), (71, 0, 0, 0, 0)]
def b_X11_write_22 : List LI := [(3, 0, 0, 0, 0), (47, 11, 10, 5, 0), (47, 5, 1, 14, 0), (1, 1, 0, 0, 0), (52, 0, 0, 0, 0), (4, 3, 0, 0, 0), (3, 0, 0, 0, 0), (47, 11, 10, 5, 0), (47, 5, 1, 14, 0), (1, 1, 0, 0, 0), (1, 2, 0, 0, 0), (57, 0, 0, 0, 0), (1, 3, 0, 0, 0), (71, 0, 0, 0, 0)]
def cd_X11_write : Nat → List LI := fun pc => if pc = 0 then b_X11_write_0 else if pc = 19 then b_X11_write_19 else if pc = 22 then b_X11_write_22 else []
def b_X11_seen_0 : List LI := [(1, 1, 0, 0, 0), (67, 190, 1, 0, 2), (37, 0, 14, 0, 0), (1, 2, 0, 0, 0), (67, 192, 1, 0, 2), (37, 1, 16, 0, 0), (0, 14, 0, 0, 0)]
def b_X11_seen_14 : List LI := [(7, 0, 0, 0, (-1)), (71, 0, 0, 0, 0)]
def b_X11_seen_16 : List LI := [(3, 0, 0, 0, 0), (47, 11, 10, 5, 0), (1, 1, 0, 0, 0), (1, 2, 0, 0, 0), (67, 78, 3, 5, 7), (71, 0, 0, 0, 0)]
def cd_X11_seen : Nat → List LI := fun pc => if pc = 0 then b_X11_seen_0 else if pc = 14 then b_X11_seen_14 else if pc = 16 then b_X11_seen_16 else []
def b_X11_neither_0 : List LI := [(1, 1, 0, 0, 0), (67, 192, 1, 0, 2), (37, 0, 12, 0, 0), (1, 2, 0, 0, 0), (7, 0, 0, 0, (-1)), (36, 3, 14, 0, 0), (0, 12, 0, 0, 0)]
def b_X11_neither_12 : List LI := [(7, 0, 0, 0, (-1)), (71, 0, 0, 0, 0)]
def b_X11_neither_14 : List LI := [(3, 0, 0, 0, 0), (47, 11, 10, 5, 0), (1, 1, 0, 0, 0), (1, 2, 0, 0, 0), (67, 79, 3, 5, 7), (71, 0, 0, 0, 0)]
def cd_X11_neither : Nat → List LI := fun pc => if pc = 0 then b_X11_neither_0 else if pc = 12 then b_X11_neither_12 else if pc = 14 then b_X11_neither_14 else []
def b_X11_gap_0 : List LI := [(3, 0, 0, 0, 0), (47, 11, 10, 5, 0), (67, 80, 1, 5, 3), (71, 0, 0, 0, 0)]
def cd_X11_gap : Nat → List LI := fun pc => if pc = 0 then b_X11_gap_0 else []
def b_X11_count_0 : List LI := [(1, 1, 0, 0, 0), (41, 8, 114, 0, 0)]
def b_X11_count_48 : List LI := [(3, 0, 0, 0, 0), (45, 11, 3, 0, 0), (71, 0, 0, 0, 0)]
def b_X11_count_53 : List LI := [(3, 0, 0, 0, 0), (47, 11, 9, 3, 0), (7, 0, 0, 0, 0), (67, 33, 2, 3, 5), (71, 0, 0, 0, 0)]
def b_X11_count_62 : List LI := [(3, 0, 0, 0, 0), (47, 11, 9, 3, 0), (7, 0, 0, 0, 1), (67, 33, 2, 3, 5), (71, 0, 0, 0, 0)]
def b_X11_count_71 : List LI := [(3, 0, 0, 0, 0), (47, 11, 9, 3, 0), (46, 3, 1, 0, 0), (67, 313, 1, 0, 4), (71, 0, 0, 0, 0)]
def b_X11_count_82 : List LI := [(3, 0, 0, 0, 0), (45, 11, 1, 0, 0), (71, 0, 0, 0, 0)]
def b_X11_count_87 : List LI := [(3, 0, 0, 0, 0), (47, 11, 9, 3, 0), (67, 34, 1, 3, 3), (67, 312, 1, 0, 2), (71, 0, 0, 0, 0)]
def b_X11_count_98 : List LI := [(3, 0, 0, 0, 0), (47, 11, 8, 8, 0), (45, 8, 1, 0, 0), (71, 0, 0, 0, 0)]
def b_X11_count_106 : List LI := [(3, 0, 0, 0, 0), (47, 11, 13, 0, 0), (45, 0, 2, 0, 0), (71, 0, 0, 0, 0)]
def b_X11_count_114 : List LI := [(7, 0, 0, 0, (-1)), (71, 0, 0, 0, 0)]
def cd_X11_count : Nat → List LI := fun pc => if pc = 0 then b_X11_count_0 else if pc = 48 then b_X11_count_48 else if pc = 53 then b_X11_count_53 else if pc = 62 then b_X11_count_62 else if pc = 71 then b_X11_count_71 else if pc = 82 then b_X11_count_82 else if pc = 87 then b_X11_count_87 else if pc = 98 then b_X11_count_98 else if pc = 106 then b_X11_count_106 else if pc = 114 then b_X11_count_114 else if pc = 100000 then [(0, 48, 0, 0, 0)] else if pc = 100001 then [(0, 53, 0, 0, 0)] else if pc = 100002 then [(0, 62, 0, 0, 0)] else if pc = 100003 then [(0, 71, 0, 0, 0)] else if pc = 100004 then [(0, 82, 0, 0, 0)] else if pc = 100005 then [(0, 87, 0, 0, 0)] else if pc = 100006 then [(0, 98, 0, 0, 0)] else if pc = 100007 then [(0, 106, 0, 0, 0)] else []
def b_X11_wishAt_0 : List LI := [(1, 1, 0, 0, 0), (37, 2, 21, 0, 0), (1, 1, 0, 0, 0), (3, 0, 0, 0, 0), (45, 11, 3, 0, 0), (36, 3, 21, 0, 0), (3, 0, 0, 0, 0), (47, 11, 2, 18, 0), (1, 1, 0, 0, 0), (56, 18, 0, 10, 0), (40, 22, 0, 0, 0)]
def b_X11_wishAt_21 : List LI := [(9, 10, 0, 0, 0), (0, 22, 0, 0, 0)]
def b_X11_wishAt_22 : List LI := [(73, 0, 0, 0, 0)]
def cd_X11_wishAt : Nat → List LI := fun pc => if pc = 0 then b_X11_wishAt_0 else if pc = 21 then b_X11_wishAt_21 else if pc = 22 then b_X11_wishAt_22 else []
def b_X11_upTo_0 : List LI := [(1, 0, 0, 0, 0), (37, 2, 13, 0, 0), (1, 0, 0, 0, 0), (1, 1, 0, 0, 0), (36, 4, 13, 0, 0), (7, 0, 0, 0, 1), (40, 14, 0, 0, 0)]
def b_X11_upTo_13 : List LI := [(7, 0, 0, 0, 0), (0, 14, 0, 0, 0)]
def b_X11_upTo_14 : List LI := [(71, 1, 0, 0, 0)]
def cd_X11_upTo : Nat → List LI := fun pc => if pc = 0 then b_X11_upTo_0 else if pc = 13 then b_X11_upTo_13 else if pc = 14 then b_X11_upTo_14 else []
def b_X11_isPacket_0 : List LI := [(1, 0, 0, 0, 0), (7, 0, 0, 0, 511), (67, 189, 2, 0, 4), (71, 1, 0, 0, 0)]
def cd_X11_isPacket : Nat → List LI := fun pc => if pc = 0 then b_X11_isPacket_0 else []
def b_X11_isBox_0 : List LI := [(1, 0, 0, 0, 0), (7, 0, 0, 0, 7), (67, 189, 2, 0, 4), (71, 1, 0, 0, 0)]
def cd_X11_isBox : Nat → List LI := fun pc => if pc = 0 then b_X11_isBox_0 else []
def b_X11_isTick_0 : List LI := [(1, 0, 0, 0, 0), (7, 0, 0, 0, 999), (67, 189, 2, 0, 4), (71, 1, 0, 0, 0)]
def cd_X11_isTick : Nat → List LI := fun pc => if pc = 0 then b_X11_isTick_0 else []
def b_X11_isLine_0 : List LI := [(1, 0, 0, 0, 0), (67, 191, 1, 0, 2), (37, 0, 23, 0, 0), (1, 1, 0, 0, 0), (67, 191, 1, 0, 2), (37, 0, 23, 0, 0), (1, 0, 0, 0, 0), (1, 1, 0, 0, 0), (36, 0, 23, 0, 0), (7, 0, 0, 0, 1), (40, 24, 0, 0, 0)]
def b_X11_isLine_23 : List LI := [(7, 0, 0, 0, 0), (0, 24, 0, 0, 0)]
def b_X11_isLine_24 : List LI := [(71, 1, 0, 0, 0)]
def cd_X11_isLine : Nat → List LI := fun pc => if pc = 0 then b_X11_isLine_0 else if pc = 23 then b_X11_isLine_23 else if pc = 24 then b_X11_isLine_24 else []
def b_X11_hasBit_0 : List LI := [(1, 0, 0, 0, 0), (1, 1, 0, 0, 0), (17, 0, 0, 0, 0), (7, 0, 0, 0, 1), (19, 0, 0, 0, 0), (37, 0, 12, 0, 0), (7, 0, 0, 0, 1), (40, 13, 0, 0, 0)]
def b_X11_hasBit_12 : List LI := [(7, 0, 0, 0, 0), (0, 13, 0, 0, 0)]
def b_X11_hasBit_13 : List LI := [(71, 1, 0, 0, 0)]
def cd_X11_hasBit : Nat → List LI := fun pc => if pc = 0 then b_X11_hasBit_0 else if pc = 12 then b_X11_hasBit_12 else if pc = 13 then b_X11_hasBit_13 else []
def b_X11_lowestBit_0 : List LI := [(2, 0, 0, 0, 0), (2, 0, 0, 0, 0), (24, 0, 0, 0, 0), (25, 0, 0, 0, 0), (8, 0, 0, 0, 1), (23, 0, 0, 0, 0), (67, 313, 1, 0, 4), (71, 0, 0, 0, 0)]
def cd_X11_lowestBit : Nat → List LI := fun pc => if pc = 0 then b_X11_lowestBit_0 else []
def b_X11_valueOf_0 : List LI := [(1, 0, 0, 0, 0), (51, 0, 0, 0, 0), (1, 1, 0, 0, 0), (52, 0, 0, 0, 0), (17, 0, 0, 0, 0), (51, 1, 0, 0, 0), (1, 1, 0, 0, 0), (52, 0, 0, 0, 0), (19, 0, 0, 0, 0), (71, 0, 0, 0, 0)]
def cd_X11_valueOf : Nat → List LI := fun pc => if pc = 0 then b_X11_valueOf_0 else []
def b_X11_changed_0 : List LI := [(1, 0, 0, 0, 0), (51, 1, 0, 0, 0), (1, 1, 0, 0, 0), (52, 0, 0, 0, 0), (51, 0, 0, 0, 0), (1, 1, 0, 0, 0), (52, 0, 0, 0, 0), (16, 0, 0, 0, 0), (7, 0, 0, 0, (-1)), (21, 0, 0, 0, 0), (19, 0, 0, 0, 0), (1, 2, 0, 0, 0), (51, 0, 0, 0, 0), (1, 1, 0, 0, 0), (52, 0, 0, 0, 0), (16, 0, 0, 0, 0), (20, 0, 0, 0, 0), (71, 0, 0, 0, 0)]
def cd_X11_changed : Nat → List LI := fun pc => if pc = 0 then b_X11_changed_0 else []
def b_X12_init_0 : List LI := [(3, 0, 0, 0, 0), (68, 0, 0, 0, 0), (3, 0, 0, 0, 0), (7, 0, 0, 0, 200), (63, 13, 0, 0, 0), (50, 12, 9, 13, 0), (3, 0, 0, 0, 0), (7, 0, 0, 0, 3600), (63, 14, 0, 0, 0), (50, 12, 10, 14, 0), (3, 0, 0, 0, 0), (7, 0, 0, 0, 3600), (63, 14, 0, 0, 0), (50, 12, 11, 14, 0), (3, 0, 0, 0, 0), (7, 0, 0, 0, 3600), (63, 14, 0, 0, 0), (50, 12, 12, 14, 0), (3, 0, 0, 0, 0), (7, 0, 0, 0, 12), (63, 14, 0, 0, 0), (50, 12, 13, 14, 0), (3, 0, 0, 0, 0), (7, 0, 0, 0, 12), (63, 14, 0, 0, 0), (50, 12, 14, 14, 0), (3, 0, 0, 0, 0), (7, 0, 0, 0, 202), (63, 14, 0, 0, 0), (50, 12, 15, 14, 0), (3, 0, 0, 0, 0), (7, 0, 0, 0, 202), (63, 14, 0, 0, 0), (50, 12, 16, 14, 0), (3, 0, 0, 0, 0), (7, 0, 0, 0, 114688), (63, 15, 0, 0, 0), (50, 12, 19, 15, 0), (3, 0, 0, 0, 0), (7, 0, 0, 0, 49152), (63, 15, 0, 0, 0), (50, 12, 20, 15, 0), (3, 0, 0, 0, 0), (7, 0, 0, 0, 8), (63, 15, 0, 0, 0), (50, 12, 21, 15, 0), (3, 0, 0, 0, 0), (7, 0, 0, 0, 300), (63, 14, 0, 0, 0), (50, 12, 22, 14, 0), (3, 0, 0, 0, 0), (7, 0, 0, 0, 4), (63, 14, 0, 0, 0), (50, 12, 23, 14, 0), (3, 0, 0, 0, 0), (7, 0, 0, 0, 4), (63, 14, 0, 0, 0), (50, 12, 24, 14, 0), (3, 0, 0, 0, 0), (7, 0, 0, 0, 4), (63, 14, 0, 0, 0), (50, 12, 25, 14, 0), (3, 0, 0, 0, 0), (7, 0, 0, 0, 4), (63, 14, 0, 0, 0), (50, 12, 26, 14, 0), (3, 0, 0, 0, 0), (7, 0, 0, 0, 4), (63, 14, 0, 0, 0), (50, 12, 27, 14, 0), (3, 0, 0, 0, 0), (7, 0, 0, 0, 192), (63, 14, 0, 0, 0), (50, 12, 28, 14, 0), (3, 0, 0, 0, 0), (7, 0, 0, 0, 192), (63, 14, 0, 0, 0), (50, 12, 29, 14, 0), (3, 0, 0, 0, 0), (7, 0, 0, 0, 192), (63, 14, 0, 0, 0), (50, 12, 30, 14, 0), (3, 0, 0, 0, 0), (7, 0, 0, 0, 16), (63, 14, 0, 0, 0), (50, 12, 31, 14, 0), (3, 0, 0, 0, 0), (7, 0, 0, 0, 64), (63, 16, 0, 0, 0), (50, 12, 32, 16, 0), (3, 0, 0, 0, 0), (7, 0, 0, 0, 513), (63, 14, 0, 0, 0), (50, 12, 35, 14, 0), (3, 0, 0, 0, 0), (7, 0, 0, 0, 512), (63, 14, 0, 0, 0), (50, 12, 36, 14, 0), (3, 0, 0, 0, 0), (7, 0, 0, 0, 512), (63, 15, 0, 0, 0), (50, 12, 42, 15, 0), (3, 0, 0, 0, 0), (7, 0, 0, 0, 512), (63, 14, 0, 0, 0), (50, 12, 43, 14, 0), (3, 0, 0, 0, 0), (7, 0, 0, 0, 512), (63, 14, 0, 0, 0), (50, 12, 44, 14, 0), (3, 0, 0, 0, 0), (7, 0, 0, 0, 513), (63, 14, 0, 0, 0), (50, 12, 45, 14, 0), (3, 0, 0, 0, 0), (7, 0, 0, 0, 64), (63, 14, 0, 0, 0), (50, 12, 46, 14, 0), (3, 0, 0, 0, 0), (7, 0, 0, 0, 64), (63, 14, 0, 0, 0), (50, 12, 47, 14, 0), (3, 0, 0, 0, 0), (7, 0, 0, 0, 256), (63, 16, 0, 0, 0), (50, 12, 48, 16, 0), (3, 0, 0, 0, 0), (7, 0, 0, 0, 256), (63, 16, 0, 0, 0), (50, 12, 49, 16, 0), (3, 0, 0, 0, 0), (7, 0, 0, 0, 8), (63, 14, 0, 0, 0), (50, 12, 50, 14, 0), (3, 0, 0, 0, 0), (7, 0, 0, 0, 2), (63, 14, 0, 0, 0), (50, 12, 52, 14, 0), (3, 0, 0, 0, 0), (7, 0, 0, 0, 64), (63, 14, 0, 0, 0), (50, 12, 53, 14, 0), (3, 0, 0, 0, 0), (7, 0, 0, 0, 96), (63, 14, 0, 0, 0), (50, 12, 55, 14, 0), (3, 0, 0, 0, 0), (7, 0, 0, 0, 12), (63, 14, 0, 0, 0), (50, 12, 56, 14, 0), (3, 0, 0, 0, 0), (7, 0, 0, 0, 8), (63, 14, 0, 0, 0), (50, 12, 57, 14, 0), (3, 0, 0, 0, 0), (7, 0, 0, 0, 64), (63, 14, 0, 0, 0), (50, 12, 58, 14, 0), (3, 0, 0, 0, 0), (7, 0, 0, 0, 64), (63, 14, 0, 0, 0), (50, 12, 59, 14, 0), (3, 0, 0, 0, 0), (7, 0, 0, 0, 600), (63, 14, 0, 0, 0), (50, 12, 60, 14, 0), (3, 0, 0, 0, 0), (7, 0, 0, 0, 600), (63, 14, 0, 0, 0), (50, 12, 61, 14, 0), (3, 0, 0, 0, 0), (7, 0, 0, 0, 600), (63, 14, 0, 0, 0), (50, 12, 62, 14, 0), (3, 0, 0, 0, 0), (7, 0, 0, 0, 300), (63, 14, 0, 0, 0), (50, 12, 63, 14, 0), (3, 0, 0, 0, 0), (7, 0, 0, 0, 800), (63, 13, 0, 0, 0), (50, 12, 65, 13, 0), (3, 0, 0, 0, 0), (7, 0, 0, 0, 800), (63, 14, 0, 0, 0), (50, 12, 66, 14, 0), (3, 0, 0, 0, 0), (7, 0, 0, 0, 16), (63, 14, 0, 0, 0), (50, 12, 71, 14, 0), (3, 0, 0, 0, 0), (7, 0, 0, 0, 16), (63, 14, 0, 0, 0), (50, 12, 72, 14, 0), (3, 0, 0, 0, 0), (7, 0, 0, 0, 64), (63, 14, 0, 0, 0), (50, 12, 73, 14, 0), (3, 0, 0, 0, 0), (7, 0, 0, 0, 12), (63, 14, 0, 0, 0), (50, 12, 74, 14, 0), (3, 0, 0, 0, 0), (7, 0, 0, 0, 12), (63, 14, 0, 0, 0), (50, 12, 75, 14, 0), (3, 0, 0, 0, 0), (7, 0, 0, 0, 12), (63, 14, 0, 0, 0), (50, 12, 76, 14, 0), (3, 0, 0, 0, 0), (7, 0, 0, 0, 8), (63, 14, 0, 0, 0), (50, 12, 77, 14, 0), (3, 0, 0, 0, 0), (7, 0, 0, 0, 8), (63, 14, 0, 0, 0), (50, 12, 78, 14, 0), (7, 0, 0, 0, 0), (4, 1, 0, 0, 0), (0, 456, 0, 0, 0)]
def b_X12_init_456 : List LI := [(1, 1, 0, 0, 0), (7, 0, 0, 0, 4), (36, 3, 500, 0, 0), (3, 0, 0, 0, 0), (47, 12, 23, 14, 0), (1, 1, 0, 0, 0), (7, 0, 0, 0, 255), (57, 0, 0, 0, 0), (3, 0, 0, 0, 0), (47, 12, 24, 14, 0), (1, 1, 0, 0, 0), (7, 0, 0, 0, 15), (57, 0, 0, 0, 0), (3, 0, 0, 0, 0), (47, 12, 25, 14, 0), (1, 1, 0, 0, 0), (7, 0, 0, 0, 15), (57, 0, 0, 0, 0), (3, 0, 0, 0, 0), (47, 12, 26, 14, 0), (1, 1, 0, 0, 0), (7, 0, 0, 0, 15), (57, 0, 0, 0, 0), (35, 1, 0, 0, 1), (40, 456, 0, 0, 0)]
def b_X12_init_500 : List LI := [(7, 0, 0, 0, 0), (4, 1, 0, 0, 0), (0, 502, 0, 0, 0)]
def b_X12_init_502 : List LI := [(1, 1, 0, 0, 0), (7, 0, 0, 0, 8), (36, 3, 521, 0, 0), (3, 0, 0, 0, 0), (47, 12, 77, 14, 0), (1, 1, 0, 0, 0), (7, 0, 0, 0, (-1)), (57, 0, 0, 0, 0), (35, 1, 0, 0, 1), (40, 502, 0, 0, 0)]
def b_X12_init_521 : List LI := [(3, 0, 0, 0, 0), (7, 0, 0, 0, 255), (48, 12, 33, 0, 0), (3, 0, 0, 0, 0), (7, 0, 0, 0, (-1)), (48, 12, 51, 0, 0), (3, 0, 0, 0, 0), (7, 0, 0, 0, (-1)), (48, 12, 54, 0, 0), (3, 0, 0, 0, 0), (7, 0, 0, 0, (-1)), (48, 12, 37, 0, 0), (74, 0, 0, 0, 0)]
def cd_X12_init : Nat → List LI := fun pc => if pc = 0 then b_X12_init_0 else if pc = 456 then b_X12_init_456 else if pc = 500 then b_X12_init_500 else if pc = 502 then b_X12_init_502 else if pc = 521 then b_X12_init_521 else []
def b_X12_in_0 : List LI := [(2, 0, 0, 0, 0), (2, 2, 0, 0, 0), (31, 0, 0, 0, 0), (37, 2, 17, 0, 0), (2, 0, 0, 0, 0), (2, 4, 0, 0, 0), (31, 0, 0, 0, 0), (37, 4, 17, 0, 0), (7, 0, 0, 0, 1), (40, 18, 0, 0, 0)]
def b_X12_in_17 : List LI := [(7, 0, 0, 0, 0), (0, 18, 0, 0, 0)]
def b_X12_in_18 : List LI := [(71, 1, 0, 0, 0)]
def cd_X12_in : Nat → List LI := fun pc => if pc = 0 then b_X12_in_0 else if pc = 17 then b_X12_in_17 else if pc = 18 then b_X12_in_18 else []
def b_X12_isPacket_0 : List LI := [(1, 0, 0, 0, 0), (32, 0, 0, 0, 0), (8, 0, 0, 0, 0), (8, 0, 0, 0, 511), (67, 199, 3, 0, 12), (71, 1, 0, 0, 0)]
def cd_X12_isPacket : Nat → List LI := fun pc => if pc = 0 then b_X12_isPacket_0 else []
def b_X12_isPlace_0 : List LI := [(1, 0, 0, 0, 0), (32, 0, 0, 0, 0), (8, 0, 0, 0, 0), (8, 0, 0, 0, 7), (67, 199, 3, 0, 12), (71, 1, 0, 0, 0)]
def cd_X12_isPlace : Nat → List LI := fun pc => if pc = 0 then b_X12_isPlace_0 else []
def b_X12_fieldOf_0 : List LI := [(1, 1, 0, 0, 0), (37, 1, 12, 0, 0), (1, 0, 0, 0, 0), (7, 0, 0, 0, 4), (17, 0, 0, 0, 0), (7, 0, 0, 0, 3), (19, 0, 0, 0, 0), (40, 40, 0, 0, 0)]
def b_X12_fieldOf_12 : List LI := [(1, 1, 0, 0, 0), (7, 0, 0, 0, 1), (36, 1, 25, 0, 0), (1, 0, 0, 0, 0), (7, 0, 0, 0, 2), (17, 0, 0, 0, 0), (7, 0, 0, 0, 3), (19, 0, 0, 0, 0), (40, 40, 0, 0, 0)]
def b_X12_fieldOf_25 : List LI := [(1, 1, 0, 0, 0), (7, 0, 0, 0, 2), (36, 1, 36, 0, 0), (1, 0, 0, 0, 0), (7, 0, 0, 0, 3), (19, 0, 0, 0, 0), (40, 40, 0, 0, 0)]
def b_X12_fieldOf_36 : List LI := [(1, 0, 0, 0, 0), (7, 0, 0, 0, 6), (17, 0, 0, 0, 0), (0, 40, 0, 0, 0)]
def b_X12_fieldOf_40 : List LI := [(71, 0, 0, 0, 0)]
def cd_X12_fieldOf : Nat → List LI := fun pc => if pc = 0 then b_X12_fieldOf_0 else if pc = 12 then b_X12_fieldOf_12 else if pc = 25 then b_X12_fieldOf_25 else if pc = 36 then b_X12_fieldOf_36 else if pc = 40 then b_X12_fieldOf_40 else []
def b_X12_with_0 : List LI := [(1, 1, 0, 0, 0), (37, 1, 15, 0, 0), (1, 0, 0, 0, 0), (7, 0, 0, 0, (-49)), (19, 0, 0, 0, 0), (1, 2, 0, 0, 0), (7, 0, 0, 0, 4), (16, 0, 0, 0, 0), (20, 0, 0, 0, 0), (40, 54, 0, 0, 0)]
def b_X12_with_15 : List LI := [(1, 1, 0, 0, 0), (7, 0, 0, 0, 1), (36, 1, 31, 0, 0), (1, 0, 0, 0, 0), (7, 0, 0, 0, (-13)), (19, 0, 0, 0, 0), (1, 2, 0, 0, 0), (7, 0, 0, 0, 2), (16, 0, 0, 0, 0), (20, 0, 0, 0, 0), (40, 54, 0, 0, 0)]
def b_X12_with_31 : List LI := [(1, 1, 0, 0, 0), (7, 0, 0, 0, 2), (36, 1, 45, 0, 0), (1, 0, 0, 0, 0), (7, 0, 0, 0, (-4)), (19, 0, 0, 0, 0), (1, 2, 0, 0, 0), (20, 0, 0, 0, 0), (40, 54, 0, 0, 0)]
def b_X12_with_45 : List LI := [(1, 0, 0, 0, 0), (7, 0, 0, 0, 63), (19, 0, 0, 0, 0), (1, 2, 0, 0, 0), (7, 0, 0, 0, 6), (16, 0, 0, 0, 0), (20, 0, 0, 0, 0), (0, 54, 0, 0, 0)]
def b_X12_with_54 : List LI := [(71, 0, 0, 0, 0)]
def cd_X12_with : Nat → List LI := fun pc => if pc = 0 then b_X12_with_0 else if pc = 15 then b_X12_with_15 else if pc = 31 then b_X12_with_31 else if pc = 45 then b_X12_with_45 else if pc = 54 then b_X12_with_54 else []
def b_X12_feed_0 : List LI := [(3, 0, 0, 0, 0), (45, 12, 1, 0, 0), (7, 0, 0, 0, 20), (10, 0, 0, 0, 0), (7, 0, 0, 0, 200), (36, 5, 15, 0, 0), (7, 0, 0, 0, (-1)), (71, 0, 0, 0, 0)]
def b_X12_feed_15 : List LI := [(3, 0, 0, 0, 0), (1, 1, 0, 0, 0), (67, 205, 2, 12, 5), (3, 0, 0, 0, 0), (1, 2, 0, 0, 0), (67, 205, 2, 12, 5), (3, 0, 0, 0, 0), (1, 3, 0, 0, 0), (67, 205, 2, 12, 5), (3, 0, 0, 0, 0), (1, 4, 0, 0, 0), (67, 205, 2, 12, 5), (3, 0, 0, 0, 0), (1, 5, 0, 0, 0), (67, 205, 2, 12, 5), (3, 0, 0, 0, 0), (45, 12, 1, 0, 0), (71, 0, 0, 0, 0)]
def cd_X12_feed : Nat → List LI := fun pc => if pc = 0 then b_X12_feed_0 else if pc = 15 then b_X12_feed_15 else []
def b_X12_put_0 : List LI := [(7, 0, 0, 0, 24), (4, 2, 0, 0, 0), (0, 3, 0, 0, 0)]
def b_X12_put_3 : List LI := [(1, 2, 0, 0, 0), (37, 2, 36, 0, 0), (3, 0, 0, 0, 0), (47, 12, 9, 13, 0), (3, 0, 0, 0, 0), (45, 12, 1, 0, 0), (1, 1, 0, 0, 0), (1, 2, 0, 0, 0), (17, 0, 0, 0, 0), (34, 0, 0, 0, 0), (59, 0, 0, 0, 0), (3, 0, 0, 0, 0), (42, 0, 0, 0, 0), (45, 12, 1, 0, 0), (7, 0, 0, 0, 1), (10, 0, 0, 0, 0), (48, 12, 1, 0, 0), (35, 2, 0, 0, (-8)), (40, 3, 0, 0, 0)]
def b_X12_put_36 : List LI := [(74, 0, 0, 0, 0)]
def cd_X12_put : Nat → List LI := fun pc => if pc = 0 then b_X12_put_0 else if pc = 3 then b_X12_put_3 else if pc = 36 then b_X12_put_36 else []
def b_X12_end_0 : List LI := [(1, 1, 0, 0, 0), (37, 2, 12, 0, 0), (1, 1, 0, 0, 0), (3, 0, 0, 0, 0), (45, 12, 1, 0, 0), (36, 5, 14, 0, 0), (0, 12, 0, 0, 0)]
def b_X12_end_12 : List LI := [(7, 0, 0, 0, (-1)), (71, 0, 0, 0, 0)]
def b_X12_end_14 : List LI := [(3, 0, 0, 0, 0), (1, 1, 0, 0, 0), (48, 12, 1, 0, 0), (1, 1, 0, 0, 0), (71, 0, 0, 0, 0)]
def cd_X12_end : Nat → List LI := fun pc => if pc = 0 then b_X12_end_0 else if pc = 12 then b_X12_end_12 else if pc = 14 then b_X12_end_14 else []
def b_X12_fails_0 : List LI := [(3, 0, 0, 0, 0), (3, 0, 0, 0, 0), (45, 12, 3, 0, 0), (37, 1, 19, 0, 0), (7, 0, 0, 0, 1), (7, 0, 0, 0, 8), (1, 2, 0, 0, 0), (12, 0, 0, 0, 0), (10, 0, 0, 0, 0), (1, 1, 0, 0, 0), (10, 0, 0, 0, 0), (40, 23, 0, 0, 0)]
def b_X12_fails_19 : List LI := [(3, 0, 0, 0, 0), (45, 12, 3, 0, 0), (0, 23, 0, 0, 0)]
def b_X12_fails_23 : List LI := [(48, 12, 3, 0, 0), (74, 0, 0, 0, 0)]
def cd_X12_fails : Nat → List LI := fun pc => if pc = 0 then b_X12_fails_0 else if pc = 19 then b_X12_fails_19 else if pc = 23 then b_X12_fails_23 else []
def b_X12_sign_0 : List LI := [(3, 0, 0, 0, 0), (45, 12, 2, 0, 0), (3, 0, 0, 0, 0), (45, 12, 1, 0, 0), (36, 3, 27, 0, 0), (3, 0, 0, 0, 0), (47, 12, 9, 13, 0), (3, 0, 0, 0, 0), (45, 12, 2, 0, 0), (54, 0, 0, 0, 0), (7, 0, 0, 0, 255), (19, 0, 0, 0, 0), (40, 28, 0, 0, 0)]
def b_X12_sign_27 : List LI := [(7, 0, 0, 0, (-1)), (0, 28, 0, 0, 0)]
def b_X12_sign_28 : List LI := [(71, 0, 0, 0, 0)]
def cd_X12_sign : Nat → List LI := fun pc => if pc = 0 then b_X12_sign_0 else if pc = 27 then b_X12_sign_27 else if pc = 28 then b_X12_sign_28 else []
def b_X12_blanks_0 : List LI := [(3, 0, 0, 0, 0), (67, 208, 1, 12, 3), (7, 0, 0, 0, 32), (36, 1, 22, 0, 0), (3, 0, 0, 0, 0), (42, 0, 0, 0, 0), (45, 12, 2, 0, 0), (7, 0, 0, 0, 1), (10, 0, 0, 0, 0), (48, 12, 2, 0, 0), (40, 0, 0, 0, 0)]
def b_X12_blanks_22 : List LI := [(74, 0, 0, 0, 0)]
def cd_X12_blanks : Nat → List LI := fun pc => if pc = 0 then b_X12_blanks_0 else if pc = 22 then b_X12_blanks_22 else []
def b_X12_isDigit_0 : List LI := [(3, 0, 0, 0, 0), (67, 208, 1, 12, 3), (32, 0, 0, 0, 0), (8, 0, 0, 0, 48), (8, 0, 0, 0, 57), (67, 199, 3, 0, 12), (71, 1, 0, 0, 0)]
def cd_X12_isDigit : Nat → List LI := fun pc => if pc = 0 then b_X12_isDigit_0 else []
def b_X12_isLetter_0 : List LI := [(3, 0, 0, 0, 0), (67, 208, 1, 12, 3), (32, 0, 0, 0, 0), (8, 0, 0, 0, 97), (8, 0, 0, 0, 122), (67, 199, 3, 0, 12), (71, 1, 0, 0, 0)]
def cd_X12_isLetter : Nat → List LI := fun pc => if pc = 0 then b_X12_isLetter_0 else []
def b_X12_node_0 : List LI := [(3, 0, 0, 0, 0), (45, 12, 3, 0, 0), (37, 1, 79, 0, 0), (7, 0, 0, 0, 300), (3, 0, 0, 0, 0), (45, 12, 4, 0, 0), (12, 0, 0, 0, 0), (3, 0, 0, 0, 0), (45, 12, 5, 0, 0), (10, 0, 0, 0, 0), (4, 4, 0, 0, 0), (3, 0, 0, 0, 0), (47, 12, 10, 14, 0), (1, 4, 0, 0, 0), (1, 1, 0, 0, 0), (57, 0, 0, 0, 0), (3, 0, 0, 0, 0), (47, 12, 11, 14, 0), (1, 4, 0, 0, 0), (1, 2, 0, 0, 0), (57, 0, 0, 0, 0), (3, 0, 0, 0, 0), (47, 12, 12, 14, 0), (1, 4, 0, 0, 0), (1, 3, 0, 0, 0), (57, 0, 0, 0, 0), (3, 0, 0, 0, 0), (47, 12, 16, 14, 0), (3, 0, 0, 0, 0), (45, 12, 17, 0, 0), (3, 0, 0, 0, 0), (45, 12, 5, 0, 0), (57, 0, 0, 0, 0), (3, 0, 0, 0, 0), (42, 0, 0, 0, 0), (45, 12, 17, 0, 0), (7, 0, 0, 0, 1), (10, 0, 0, 0, 0), (48, 12, 17, 0, 0), (3, 0, 0, 0, 0), (42, 0, 0, 0, 0), (45, 12, 5, 0, 0), (7, 0, 0, 0, 1), (10, 0, 0, 0, 0), (48, 12, 5, 0, 0), (0, 79, 0, 0, 0)]
def b_X12_node_79 : List LI := [(74, 0, 0, 0, 0)]
def cd_X12_node : Nat → List LI := fun pc => if pc = 0 then b_X12_node_0 else if pc = 79 then b_X12_node_79 else []
def b_X12_join_0 : List LI := [(3, 0, 0, 0, 0), (45, 12, 3, 0, 0), (37, 1, 42, 0, 0), (3, 0, 0, 0, 0), (42, 0, 0, 0, 0), (45, 12, 17, 0, 0), (7, 0, 0, 0, 2), (11, 0, 0, 0, 0), (48, 12, 17, 0, 0), (3, 0, 0, 0, 0), (1, 1, 0, 0, 0), (3, 0, 0, 0, 0), (47, 12, 16, 14, 0), (3, 0, 0, 0, 0), (45, 12, 17, 0, 0), (52, 0, 0, 0, 0), (3, 0, 0, 0, 0), (47, 12, 16, 14, 0), (3, 0, 0, 0, 0), (45, 12, 17, 0, 0), (7, 0, 0, 0, 1), (10, 0, 0, 0, 0), (52, 0, 0, 0, 0), (67, 212, 4, 12, 9), (0, 42, 0, 0, 0)]
def b_X12_join_42 : List LI := [(74, 0, 0, 0, 0)]
def cd_X12_join : Nat → List LI := fun pc => if pc = 0 then b_X12_join_0 else if pc = 42 then b_X12_join_42 else []
def b_X12_top_0 : List LI := [(3, 0, 0, 0, 0), (45, 12, 8, 0, 0), (37, 1, 11, 0, 0), (7, 0, 0, 0, (-1)), (40, 22, 0, 0, 0)]
def b_X12_top_11 : List LI := [(3, 0, 0, 0, 0), (47, 12, 15, 14, 0), (3, 0, 0, 0, 0), (45, 12, 8, 0, 0), (7, 0, 0, 0, 1), (11, 0, 0, 0, 0), (52, 0, 0, 0, 0), (0, 22, 0, 0, 0)]
def b_X12_top_22 : List LI := [(71, 0, 0, 0, 0)]
def cd_X12_top : Nat → List LI := fun pc => if pc = 0 then b_X12_top_0 else if pc = 11 then b_X12_top_11 else if pc = 22 then b_X12_top_22 else []
def b_X12_counts_0 : List LI := [(3, 0, 0, 0, 0), (45, 12, 6, 0, 0), (7, 0, 0, 0, 40), (36, 1, 15, 0, 0), (3, 0, 0, 0, 0), (7, 0, 0, 0, 3), (1, 1, 0, 0, 0), (67, 207, 3, 12, 7), (0, 15, 0, 0, 0)]
def b_X12_counts_15 : List LI := [(3, 0, 0, 0, 0), (42, 0, 0, 0, 0), (45, 12, 6, 0, 0), (7, 0, 0, 0, 1), (10, 0, 0, 0, 0), (48, 12, 6, 0, 0), (74, 0, 0, 0, 0)]
def cd_X12_counts : Nat → List LI := fun pc => if pc = 0 then b_X12_counts_0 else if pc = 15 then b_X12_counts_15 else []
def b_X12_field_0 : List LI := [(3, 0, 0, 0, 0), (45, 12, 2, 0, 0), (4, 1, 0, 0, 0), (0, 5, 0, 0, 0)]
def b_X12_field_5 : List LI := [(1, 1, 0, 0, 0), (3, 0, 0, 0, 0), (45, 12, 1, 0, 0), (36, 3, 41, 0, 0), (3, 0, 0, 0, 0), (47, 12, 9, 13, 0), (1, 1, 0, 0, 0), (54, 0, 0, 0, 0), (7, 0, 0, 0, 97), (36, 2, 41, 0, 0), (3, 0, 0, 0, 0), (47, 12, 9, 13, 0), (1, 1, 0, 0, 0), (54, 0, 0, 0, 0), (7, 0, 0, 0, 122), (36, 4, 41, 0, 0), (35, 1, 0, 0, 1), (40, 5, 0, 0, 0)]
def b_X12_field_41 : List LI := [(1, 1, 0, 0, 0), (3, 0, 0, 0, 0), (45, 12, 2, 0, 0), (11, 0, 0, 0, 0), (4, 2, 0, 0, 0), (1, 2, 0, 0, 0), (7, 0, 0, 0, 1), (36, 1, 68, 0, 0), (3, 0, 0, 0, 0), (47, 12, 9, 13, 0), (3, 0, 0, 0, 0), (45, 12, 2, 0, 0), (54, 0, 0, 0, 0), (7, 0, 0, 0, 97), (11, 0, 0, 0, 0), (40, 108, 0, 0, 0)]
def b_X12_field_68 : List LI := [(1, 2, 0, 0, 0), (7, 0, 0, 0, 2), (36, 1, 107, 0, 0), (3, 0, 0, 0, 0), (47, 12, 9, 13, 0), (3, 0, 0, 0, 0), (45, 12, 2, 0, 0), (54, 0, 0, 0, 0), (7, 0, 0, 0, 97), (36, 1, 107, 0, 0), (3, 0, 0, 0, 0), (47, 12, 9, 13, 0), (3, 0, 0, 0, 0), (45, 12, 2, 0, 0), (7, 0, 0, 0, 1), (10, 0, 0, 0, 0), (54, 0, 0, 0, 0), (7, 0, 0, 0, 116), (36, 1, 107, 0, 0), (7, 0, 0, 0, 3), (40, 108, 0, 0, 0)]
def b_X12_field_107 : List LI := [(7, 0, 0, 0, (-1)), (0, 108, 0, 0, 0)]
def b_X12_field_108 : List LI := [(4, 3, 0, 0, 0), (1, 2, 0, 0, 0), (7, 0, 0, 0, 1), (36, 1, 119, 0, 0), (1, 3, 0, 0, 0), (7, 0, 0, 0, 2), (36, 4, 123, 0, 0), (0, 119, 0, 0, 0)]
def b_X12_field_119 : List LI := [(1, 2, 0, 0, 0), (37, 1, 125, 0, 0), (0, 123, 0, 0, 0)]
def b_X12_field_123 : List LI := [(7, 0, 0, 0, (-1)), (4, 3, 0, 0, 0), (0, 125, 0, 0, 0)]
def b_X12_field_125 : List LI := [(3, 0, 0, 0, 0), (42, 0, 0, 0, 0), (45, 12, 2, 0, 0), (1, 3, 0, 0, 0), (7, 0, 0, 0, (-1)), (36, 1, 139, 0, 0), (7, 0, 0, 0, 0), (40, 140, 0, 0, 0)]
def b_X12_field_139 : List LI := [(1, 2, 0, 0, 0), (0, 140, 0, 0, 0)]
def b_X12_field_140 : List LI := [(10, 0, 0, 0, 0), (48, 12, 2, 0, 0), (1, 3, 0, 0, 0), (71, 0, 0, 0, 0)]
def cd_X12_field : Nat → List LI := fun pc => if pc = 0 then b_X12_field_0 else if pc = 5 then b_X12_field_5 else if pc = 41 then b_X12_field_41 else if pc = 68 then b_X12_field_68 else if pc = 107 then b_X12_field_107 else if pc = 108 then b_X12_field_108 else if pc = 119 then b_X12_field_119 else if pc = 123 then b_X12_field_123 else if pc = 125 then b_X12_field_125 else if pc = 139 then b_X12_field_139 else if pc = 140 then b_X12_field_140 else []
def b_X12_number_0 : List LI := [(3, 0, 0, 0, 0), (67, 209, 1, 12, 3), (3, 0, 0, 0, 0), (67, 210, 1, 12, 3), (37, 1, 22, 0, 0), (3, 0, 0, 0, 0), (7, 0, 0, 0, 0), (3, 0, 0, 0, 0), (45, 12, 2, 0, 0), (67, 207, 3, 12, 7), (7, 0, 0, 0, 0), (71, 0, 0, 0, 0)]
def b_X12_number_22 : List LI := [(3, 0, 0, 0, 0), (45, 12, 2, 0, 0), (4, 2, 0, 0, 0), (3, 0, 0, 0, 0), (67, 208, 1, 12, 3), (7, 0, 0, 0, 48), (11, 0, 0, 0, 0), (4, 3, 0, 0, 0), (0, 35, 0, 0, 0)]
def b_X12_number_35 : List LI := [(3, 0, 0, 0, 0), (67, 210, 1, 12, 3), (37, 0, 55, 0, 0), (3, 0, 0, 0, 0), (42, 0, 0, 0, 0), (45, 12, 2, 0, 0), (7, 0, 0, 0, 1), (10, 0, 0, 0, 0), (48, 12, 2, 0, 0), (40, 35, 0, 0, 0)]
def b_X12_number_55 : List LI := [(3, 0, 0, 0, 0), (45, 12, 2, 0, 0), (1, 2, 0, 0, 0), (11, 0, 0, 0, 0), (7, 0, 0, 0, 1), (36, 4, 80, 0, 0), (1, 3, 0, 0, 0), (1, 1, 0, 0, 0), (7, 0, 0, 0, 3), (36, 1, 76, 0, 0), (7, 0, 0, 0, 7), (40, 77, 0, 0, 0)]
def b_X12_number_76 : List LI := [(7, 0, 0, 0, 3), (0, 77, 0, 0, 0)]
def b_X12_number_77 : List LI := [(36, 5, 86, 0, 0), (0, 80, 0, 0, 0)]
def b_X12_number_80 : List LI := [(3, 0, 0, 0, 0), (7, 0, 0, 0, 1), (1, 2, 0, 0, 0), (67, 207, 3, 12, 7), (0, 86, 0, 0, 0)]
def b_X12_number_86 : List LI := [(1, 3, 0, 0, 0), (71, 0, 0, 0, 0)]
def cd_X12_number : Nat → List LI := fun pc => if pc = 0 then b_X12_number_0 else if pc = 22 then b_X12_number_22 else if pc = 35 then b_X12_number_35 else if pc = 55 then b_X12_number_55 else if pc = 76 then b_X12_number_76 else if pc = 77 then b_X12_number_77 else if pc = 80 then b_X12_number_80 else if pc = 86 then b_X12_number_86 else []
def b_X12_atom_0 : List LI := [(3, 0, 0, 0, 0), (67, 208, 1, 12, 3), (7, 0, 0, 0, 33), (36, 1, 13, 0, 0), (7, 0, 0, 0, 1), (40, 14, 0, 0, 0)]
def b_X12_atom_13 : List LI := [(7, 0, 0, 0, 0), (0, 14, 0, 0, 0)]
def b_X12_atom_14 : List LI := [(4, 2, 0, 0, 0), (1, 2, 0, 0, 0), (37, 0, 38, 0, 0), (3, 0, 0, 0, 0), (1, 1, 0, 0, 0), (67, 215, 2, 12, 5), (3, 0, 0, 0, 0), (42, 0, 0, 0, 0), (45, 12, 2, 0, 0), (7, 0, 0, 0, 1), (10, 0, 0, 0, 0), (48, 12, 2, 0, 0), (3, 0, 0, 0, 0), (67, 209, 1, 12, 3), (0, 38, 0, 0, 0)]
def b_X12_atom_38 : List LI := [(3, 0, 0, 0, 0), (45, 12, 2, 0, 0), (4, 3, 0, 0, 0), (3, 0, 0, 0, 0), (67, 216, 1, 12, 3), (4, 4, 0, 0, 0), (1, 4, 0, 0, 0), (7, 0, 0, 0, (-1)), (36, 1, 62, 0, 0), (3, 0, 0, 0, 0), (7, 0, 0, 0, 0), (1, 3, 0, 0, 0), (67, 207, 3, 12, 7), (74, 0, 0, 0, 0)]
def b_X12_atom_62 : List LI := [(1, 2, 0, 0, 0), (37, 1, 71, 0, 0), (3, 0, 0, 0, 0), (1, 1, 0, 0, 0), (67, 215, 2, 12, 5), (0, 71, 0, 0, 0)]
def b_X12_atom_71 : List LI := [(3, 0, 0, 0, 0), (67, 209, 1, 12, 3), (3, 0, 0, 0, 0), (67, 208, 1, 12, 3), (4, 5, 0, 0, 0), (1, 5, 0, 0, 0), (7, 0, 0, 0, 61), (36, 0, 109, 0, 0), (1, 2, 0, 0, 0), (37, 1, 99, 0, 0), (1, 5, 0, 0, 0), (7, 0, 0, 0, 58), (36, 0, 109, 0, 0), (0, 99, 0, 0, 0)]
def b_X12_atom_99 : List LI := [(3, 0, 0, 0, 0), (7, 0, 0, 0, 0), (3, 0, 0, 0, 0), (45, 12, 2, 0, 0), (67, 207, 3, 12, 7), (74, 0, 0, 0, 0)]
def b_X12_atom_109 : List LI := [(3, 0, 0, 0, 0), (42, 0, 0, 0, 0), (45, 12, 2, 0, 0), (7, 0, 0, 0, 1), (10, 0, 0, 0, 0), (48, 12, 2, 0, 0), (3, 0, 0, 0, 0), (1, 4, 0, 0, 0), (67, 217, 2, 12, 5), (4, 6, 0, 0, 0), (3, 0, 0, 0, 0), (1, 5, 0, 0, 0), (7, 0, 0, 0, 58), (36, 1, 139, 0, 0), (7, 0, 0, 0, 4), (40, 148, 0, 0, 0)]
def b_X12_atom_139 : List LI := [(1, 2, 0, 0, 0), (37, 0, 147, 0, 0), (7, 0, 0, 0, 3), (40, 148, 0, 0, 0)]
def b_X12_atom_147 : List LI := [(7, 0, 0, 0, 2), (0, 148, 0, 0, 0)]
def b_X12_atom_148 : List LI := [(1, 4, 0, 0, 0), (1, 6, 0, 0, 0), (67, 212, 4, 12, 9), (74, 0, 0, 0, 0)]
def cd_X12_atom : Nat → List LI := fun pc => if pc = 0 then b_X12_atom_0 else if pc = 13 then b_X12_atom_13 else if pc = 14 then b_X12_atom_14 else if pc = 38 then b_X12_atom_38 else if pc = 62 then b_X12_atom_62 else if pc = 71 then b_X12_atom_71 else if pc = 99 then b_X12_atom_99 else if pc = 109 then b_X12_atom_109 else if pc = 139 then b_X12_atom_139 else if pc = 147 then b_X12_atom_147 else if pc = 148 then b_X12_atom_148 else []
def b_X12_wanted_0 : List LI := [(3, 0, 0, 0, 0), (67, 209, 1, 12, 3), (3, 0, 0, 0, 0), (45, 12, 2, 0, 0), (4, 1, 0, 0, 0), (3, 0, 0, 0, 0), (67, 208, 1, 12, 3), (7, 0, 0, 0, 40), (36, 1, 79, 0, 0), (3, 0, 0, 0, 0), (45, 12, 7, 0, 0), (7, 0, 0, 0, 8), (36, 1, 36, 0, 0), (3, 0, 0, 0, 0), (7, 0, 0, 0, 2), (3, 0, 0, 0, 0), (45, 12, 2, 0, 0), (67, 207, 3, 12, 7), (0, 36, 0, 0, 0)]
def b_X12_wanted_36 : List LI := [(3, 0, 0, 0, 0), (42, 0, 0, 0, 0), (45, 12, 7, 0, 0), (7, 0, 0, 0, 1), (10, 0, 0, 0, 0), (48, 12, 7, 0, 0), (3, 0, 0, 0, 0), (47, 12, 15, 14, 0), (3, 0, 0, 0, 0), (45, 12, 8, 0, 0), (7, 0, 0, 0, 8), (57, 0, 0, 0, 0), (3, 0, 0, 0, 0), (42, 0, 0, 0, 0), (45, 12, 8, 0, 0), (7, 0, 0, 0, 1), (10, 0, 0, 0, 0), (48, 12, 8, 0, 0), (3, 0, 0, 0, 0), (42, 0, 0, 0, 0), (45, 12, 2, 0, 0), (7, 0, 0, 0, 1), (10, 0, 0, 0, 0), (48, 12, 2, 0, 0), (7, 0, 0, 0, 0), (71, 1, 0, 0, 0)]
def b_X12_wanted_79 : List LI := [(3, 0, 0, 0, 0), (67, 210, 1, 12, 3), (37, 0, 157, 0, 0), (3, 0, 0, 0, 0), (67, 208, 1, 12, 3), (7, 0, 0, 0, 48), (11, 0, 0, 0, 0), (4, 2, 0, 0, 0), (0, 94, 0, 0, 0)]
def b_X12_wanted_94 : List LI := [(3, 0, 0, 0, 0), (67, 210, 1, 12, 3), (37, 0, 114, 0, 0), (3, 0, 0, 0, 0), (42, 0, 0, 0, 0), (45, 12, 2, 0, 0), (7, 0, 0, 0, 1), (10, 0, 0, 0, 0), (48, 12, 2, 0, 0), (40, 94, 0, 0, 0)]
def b_X12_wanted_114 : List LI := [(3, 0, 0, 0, 0), (45, 12, 2, 0, 0), (1, 1, 0, 0, 0), (11, 0, 0, 0, 0), (7, 0, 0, 0, 1), (36, 4, 129, 0, 0), (1, 2, 0, 0, 0), (7, 0, 0, 0, 1), (36, 5, 135, 0, 0), (0, 129, 0, 0, 0)]
def b_X12_wanted_129 : List LI := [(3, 0, 0, 0, 0), (7, 0, 0, 0, 0), (1, 1, 0, 0, 0), (67, 207, 3, 12, 7), (0, 135, 0, 0, 0)]
def b_X12_wanted_135 : List LI := [(3, 0, 0, 0, 0), (1, 1, 0, 0, 0), (67, 215, 2, 12, 5), (3, 0, 0, 0, 0), (1, 2, 0, 0, 0), (37, 1, 149, 0, 0), (7, 0, 0, 0, 0), (40, 150, 0, 0, 0)]
def b_X12_wanted_149 : List LI := [(7, 0, 0, 0, 1), (0, 150, 0, 0, 0)]
def b_X12_wanted_150 : List LI := [(7, 0, 0, 0, 0), (7, 0, 0, 0, 0), (67, 212, 4, 12, 9), (7, 0, 0, 0, 1), (71, 1, 0, 0, 0)]
def b_X12_wanted_157 : List LI := [(3, 0, 0, 0, 0), (67, 208, 1, 12, 3), (7, 0, 0, 0, 33), (36, 0, 181, 0, 0), (3, 0, 0, 0, 0), (67, 211, 1, 12, 3), (37, 1, 181, 0, 0), (3, 0, 0, 0, 0), (7, 0, 0, 0, 0), (1, 1, 0, 0, 0), (67, 207, 3, 12, 7), (7, 0, 0, 0, 1), (71, 1, 0, 0, 0)]
def b_X12_wanted_181 : List LI := [(3, 0, 0, 0, 0), (1, 1, 0, 0, 0), (67, 218, 2, 12, 5), (7, 0, 0, 0, 1), (71, 1, 0, 0, 0)]
def cd_X12_wanted : Nat → List LI := fun pc => if pc = 0 then b_X12_wanted_0 else if pc = 36 then b_X12_wanted_36 else if pc = 79 then b_X12_wanted_79 else if pc = 94 then b_X12_wanted_94 else if pc = 114 then b_X12_wanted_114 else if pc = 129 then b_X12_wanted_129 else if pc = 135 then b_X12_wanted_135 else if pc = 149 then b_X12_wanted_149 else if pc = 150 then b_X12_wanted_150 else if pc = 157 then b_X12_wanted_157 else if pc = 181 then b_X12_wanted_181 else []
def b_X12_makes_0 : List LI := [(3, 0, 0, 0, 0), (67, 214, 1, 12, 3), (1, 1, 0, 0, 0), (36, 1, 26, 0, 0), (3, 0, 0, 0, 0), (1, 1, 0, 0, 0), (67, 213, 2, 12, 5), (3, 0, 0, 0, 0), (42, 0, 0, 0, 0), (45, 12, 8, 0, 0), (7, 0, 0, 0, 1), (11, 0, 0, 0, 0), (48, 12, 8, 0, 0), (40, 0, 0, 0, 0)]
def b_X12_makes_26 : List LI := [(74, 0, 0, 0, 0)]
def cd_X12_makes : Nat → List LI := fun pc => if pc = 0 then b_X12_makes_0 else if pc = 26 then b_X12_makes_26 else []
def b_X12_behind_0 : List LI := [(3, 0, 0, 0, 0), (67, 209, 1, 12, 3), (3, 0, 0, 0, 0), (67, 208, 1, 12, 3), (4, 1, 0, 0, 0), (1, 1, 0, 0, 0), (7, 0, 0, 0, 42), (36, 1, 59, 0, 0), (3, 0, 0, 0, 0), (42, 0, 0, 0, 0), (45, 12, 2, 0, 0), (7, 0, 0, 0, 1), (10, 0, 0, 0, 0), (48, 12, 2, 0, 0), (3, 0, 0, 0, 0), (45, 12, 3, 0, 0), (37, 1, 57, 0, 0), (3, 0, 0, 0, 0), (42, 0, 0, 0, 0), (45, 12, 17, 0, 0), (7, 0, 0, 0, 1), (11, 0, 0, 0, 0), (48, 12, 17, 0, 0), (3, 0, 0, 0, 0), (7, 0, 0, 0, 5), (3, 0, 0, 0, 0), (47, 12, 16, 14, 0), (3, 0, 0, 0, 0), (45, 12, 17, 0, 0), (52, 0, 0, 0, 0), (7, 0, 0, 0, 0), (67, 212, 4, 12, 9), (0, 57, 0, 0, 0)]
def b_X12_behind_57 : List LI := [(7, 0, 0, 0, 0), (71, 1, 0, 0, 0)]
def b_X12_behind_59 : List LI := [(1, 1, 0, 0, 0), (7, 0, 0, 0, 59), (36, 0, 71, 0, 0), (1, 1, 0, 0, 0), (7, 0, 0, 0, 43), (36, 1, 133, 0, 0), (0, 71, 0, 0, 0)]
def b_X12_behind_71 : List LI := [(3, 0, 0, 0, 0), (7, 0, 0, 0, 7), (67, 220, 2, 12, 5), (1, 1, 0, 0, 0), (7, 0, 0, 0, 43), (36, 1, 89, 0, 0), (3, 0, 0, 0, 0), (7, 0, 0, 0, 6), (67, 220, 2, 12, 5), (0, 89, 0, 0, 0)]
def b_X12_behind_89 : List LI := [(3, 0, 0, 0, 0), (47, 12, 15, 14, 0), (3, 0, 0, 0, 0), (45, 12, 8, 0, 0), (1, 1, 0, 0, 0), (7, 0, 0, 0, 59), (36, 1, 108, 0, 0), (7, 0, 0, 0, 7), (40, 110, 0, 0, 0)]
def b_X12_behind_108 : List LI := [(7, 0, 0, 0, 6), (0, 110, 0, 0, 0)]
def b_X12_behind_110 : List LI := [(57, 0, 0, 0, 0), (3, 0, 0, 0, 0), (42, 0, 0, 0, 0), (45, 12, 8, 0, 0), (7, 0, 0, 0, 1), (10, 0, 0, 0, 0), (48, 12, 8, 0, 0), (3, 0, 0, 0, 0), (42, 0, 0, 0, 0), (45, 12, 2, 0, 0), (7, 0, 0, 0, 1), (10, 0, 0, 0, 0), (48, 12, 2, 0, 0), (7, 0, 0, 0, 1), (71, 1, 0, 0, 0)]
def b_X12_behind_133 : List LI := [(3, 0, 0, 0, 0), (7, 0, 0, 0, 7), (67, 220, 2, 12, 5), (3, 0, 0, 0, 0), (7, 0, 0, 0, 6), (67, 220, 2, 12, 5), (3, 0, 0, 0, 0), (67, 214, 1, 12, 3), (7, 0, 0, 0, 8), (36, 1, 201, 0, 0), (1, 1, 0, 0, 0), (7, 0, 0, 0, 41), (36, 0, 169, 0, 0), (3, 0, 0, 0, 0), (7, 0, 0, 0, 0), (3, 0, 0, 0, 0), (45, 12, 2, 0, 0), (67, 207, 3, 12, 7), (0, 169, 0, 0, 0)]
def b_X12_behind_169 : List LI := [(3, 0, 0, 0, 0), (42, 0, 0, 0, 0), (45, 12, 8, 0, 0), (7, 0, 0, 0, 1), (11, 0, 0, 0, 0), (48, 12, 8, 0, 0), (3, 0, 0, 0, 0), (42, 0, 0, 0, 0), (45, 12, 7, 0, 0), (7, 0, 0, 0, 1), (11, 0, 0, 0, 0), (48, 12, 7, 0, 0), (3, 0, 0, 0, 0), (42, 0, 0, 0, 0), (45, 12, 2, 0, 0), (7, 0, 0, 0, 1), (10, 0, 0, 0, 0), (48, 12, 2, 0, 0), (7, 0, 0, 0, 0), (71, 1, 0, 0, 0)]
def b_X12_behind_201 : List LI := [(1, 1, 0, 0, 0), (7, 0, 0, 0, (-1)), (36, 0, 215, 0, 0), (3, 0, 0, 0, 0), (7, 0, 0, 0, 0), (3, 0, 0, 0, 0), (45, 12, 2, 0, 0), (67, 207, 3, 12, 7), (0, 215, 0, 0, 0)]
def b_X12_behind_215 : List LI := [(3, 0, 0, 0, 0), (7, 0, 0, 0, 1), (48, 12, 18, 1, 0), (7, 0, 0, 0, 0), (71, 1, 0, 0, 0)]
def cd_X12_behind : Nat → List LI := fun pc => if pc = 0 then b_X12_behind_0 else if pc = 57 then b_X12_behind_57 else if pc = 59 then b_X12_behind_59 else if pc = 71 then b_X12_behind_71 else if pc = 89 then b_X12_behind_89 else if pc = 108 then b_X12_behind_108 else if pc = 110 then b_X12_behind_110 else if pc = 133 then b_X12_behind_133 else if pc = 169 then b_X12_behind_169 else if pc = 201 then b_X12_behind_201 else if pc = 215 then b_X12_behind_215 else []
def b_X12_wish_0 : List LI := [(3, 0, 0, 0, 0), (45, 12, 4, 0, 0), (7, 0, 0, 0, 12), (36, 0, 21, 0, 0), (1, 1, 0, 0, 0), (32, 0, 0, 0, 0), (8, 0, 0, 0, 0), (8, 0, 0, 0, 3), (67, 199, 3, 0, 12), (37, 1, 23, 0, 0), (0, 21, 0, 0, 0)]
def b_X12_wish_21 : List LI := [(7, 0, 0, 0, (-1)), (71, 0, 0, 0, 0)]
def b_X12_wish_23 : List LI := [(3, 0, 0, 0, 0), (7, 0, 0, 0, 0), (48, 12, 2, 0, 0), (3, 0, 0, 0, 0), (7, 0, 0, 0, 0), (48, 12, 3, 0, 0), (3, 0, 0, 0, 0), (7, 0, 0, 0, 0), (48, 12, 5, 0, 0), (3, 0, 0, 0, 0), (7, 0, 0, 0, 0), (48, 12, 6, 0, 0), (3, 0, 0, 0, 0), (7, 0, 0, 0, 0), (48, 12, 7, 0, 0), (3, 0, 0, 0, 0), (7, 0, 0, 0, 0), (48, 12, 8, 0, 0), (3, 0, 0, 0, 0), (7, 0, 0, 0, 0), (48, 12, 17, 0, 0), (3, 0, 0, 0, 0), (7, 0, 0, 0, 0), (48, 12, 18, 1, 0), (7, 0, 0, 0, 1), (4, 2, 0, 0, 0), (0, 65, 0, 0, 0)]
def b_X12_wish_65 : List LI := [(3, 0, 0, 0, 0), (45, 12, 18, 0, 0), (37, 1, 106, 0, 0), (3, 0, 0, 0, 0), (45, 12, 3, 0, 0), (37, 1, 106, 0, 0), (1, 2, 0, 0, 0), (37, 0, 98, 0, 0), (3, 0, 0, 0, 0), (67, 219, 1, 12, 3), (37, 1, 94, 0, 0), (7, 0, 0, 0, 1), (40, 102, 0, 0, 0)]
def b_X12_wish_94 : List LI := [(7, 0, 0, 0, 0), (40, 102, 0, 0, 0)]
def b_X12_wish_98 : List LI := [(3, 0, 0, 0, 0), (67, 221, 1, 12, 3), (0, 102, 0, 0, 0)]
def b_X12_wish_102 : List LI := [(4, 2, 0, 0, 0), (40, 65, 0, 0, 0)]
def b_X12_wish_106 : List LI := [(3, 0, 0, 0, 0), (7, 0, 0, 0, 0), (48, 12, 1, 0, 0), (3, 0, 0, 0, 0), (45, 12, 3, 0, 0), (37, 5, 126, 0, 0), (7, 0, 0, 0, (-2)), (3, 0, 0, 0, 0), (45, 12, 3, 0, 0), (11, 0, 0, 0, 0), (71, 0, 0, 0, 0)]
def b_X12_wish_126 : List LI := [(3, 0, 0, 0, 0), (47, 12, 13, 14, 0), (3, 0, 0, 0, 0), (45, 12, 4, 0, 0), (3, 0, 0, 0, 0), (45, 12, 5, 0, 0), (57, 0, 0, 0, 0), (3, 0, 0, 0, 0), (47, 12, 14, 14, 0), (3, 0, 0, 0, 0), (45, 12, 4, 0, 0), (1, 1, 0, 0, 0), (57, 0, 0, 0, 0), (3, 0, 0, 0, 0), (3, 0, 0, 0, 0), (45, 12, 4, 0, 0), (67, 223, 2, 12, 5), (3, 0, 0, 0, 0), (42, 0, 0, 0, 0), (45, 12, 4, 0, 0), (7, 0, 0, 0, 1), (10, 0, 0, 0, 0), (48, 12, 4, 0, 0), (3, 0, 0, 0, 0), (45, 12, 4, 0, 0), (7, 0, 0, 0, 1), (11, 0, 0, 0, 0), (71, 0, 0, 0, 0)]
def cd_X12_wish : Nat → List LI := fun pc => if pc = 0 then b_X12_wish_0 else if pc = 21 then b_X12_wish_21 else if pc = 23 then b_X12_wish_23 else if pc = 65 then b_X12_wish_65 else if pc = 94 then b_X12_wish_94 else if pc = 98 then b_X12_wish_98 else if pc = 102 then b_X12_wish_102 else if pc = 106 then b_X12_wish_106 else if pc = 126 then b_X12_wish_126 else []
def b_X12_works_0 : List LI := [(7, 0, 0, 0, 0), (4, 2, 0, 0, 0), (7, 0, 0, 0, 0), (4, 3, 0, 0, 0), (0, 4, 0, 0, 0)]
def b_X12_works_4 : List LI := [(1, 3, 0, 0, 0), (3, 0, 0, 0, 0), (47, 12, 13, 14, 0), (1, 1, 0, 0, 0), (52, 0, 0, 0, 0), (36, 3, 171, 0, 0), (7, 0, 0, 0, 300), (1, 1, 0, 0, 0), (12, 0, 0, 0, 0), (1, 3, 0, 0, 0), (10, 0, 0, 0, 0), (4, 4, 0, 0, 0), (3, 0, 0, 0, 0), (47, 12, 10, 14, 0), (1, 4, 0, 0, 0), (52, 0, 0, 0, 0), (7, 0, 0, 0, 5), (36, 1, 44, 0, 0), (3, 0, 0, 0, 0), (1, 2, 0, 0, 0), (7, 0, 0, 0, 1), (11, 0, 0, 0, 0), (67, 226, 2, 12, 5), (40, 165, 0, 0, 0)]
def b_X12_works_44 : List LI := [(3, 0, 0, 0, 0), (47, 12, 10, 14, 0), (1, 4, 0, 0, 0), (52, 0, 0, 0, 0), (7, 0, 0, 0, 6), (36, 1, 110, 0, 0), (35, 2, 0, 0, (-1)), (7, 0, 0, 0, 0), (4, 5, 0, 0, 0), (0, 62, 0, 0, 0)]
def b_X12_works_62 : List LI := [(1, 5, 0, 0, 0), (7, 0, 0, 0, 4096), (36, 3, 107, 0, 0), (3, 0, 0, 0, 0), (47, 12, 19, 15, 0), (7, 0, 0, 0, 4096), (1, 2, 0, 0, 0), (7, 0, 0, 0, 1), (11, 0, 0, 0, 0), (12, 0, 0, 0, 0), (1, 5, 0, 0, 0), (10, 0, 0, 0, 0), (43, 0, 0, 0, 0), (53, 0, 0, 0, 0), (3, 0, 0, 0, 0), (47, 12, 19, 15, 0), (7, 0, 0, 0, 4096), (1, 2, 0, 0, 0), (12, 0, 0, 0, 0), (1, 5, 0, 0, 0), (10, 0, 0, 0, 0), (53, 0, 0, 0, 0), (26, 0, 0, 0, 0), (58, 0, 0, 0, 0), (35, 5, 0, 0, 1), (40, 62, 0, 0, 0)]
def b_X12_works_107 : List LI := [(40, 165, 0, 0, 0)]
def b_X12_works_110 : List LI := [(3, 0, 0, 0, 0), (47, 12, 10, 14, 0), (1, 4, 0, 0, 0), (52, 0, 0, 0, 0), (7, 0, 0, 0, 7), (36, 1, 136, 0, 0), (35, 2, 0, 0, (-1)), (3, 0, 0, 0, 0), (1, 2, 0, 0, 0), (7, 0, 0, 0, 1), (11, 0, 0, 0, 0), (1, 2, 0, 0, 0), (67, 225, 3, 12, 7), (40, 165, 0, 0, 0)]
def b_X12_works_136 : List LI := [(3, 0, 0, 0, 0), (1, 2, 0, 0, 0), (3, 0, 0, 0, 0), (47, 12, 10, 14, 0), (1, 4, 0, 0, 0), (52, 0, 0, 0, 0), (3, 0, 0, 0, 0), (47, 12, 11, 14, 0), (1, 4, 0, 0, 0), (52, 0, 0, 0, 0), (3, 0, 0, 0, 0), (47, 12, 12, 14, 0), (1, 4, 0, 0, 0), (52, 0, 0, 0, 0), (67, 224, 5, 12, 11), (35, 2, 0, 0, 1), (0, 165, 0, 0, 0)]
def b_X12_works_165 : List LI := [(35, 3, 0, 0, 1), (40, 4, 0, 0, 0)]
def b_X12_works_171 : List LI := [(7, 0, 0, 0, 0), (4, 3, 0, 0, 0), (0, 173, 0, 0, 0)]
def b_X12_works_173 : List LI := [(1, 3, 0, 0, 0), (7, 0, 0, 0, 4096), (36, 3, 204, 0, 0), (3, 0, 0, 0, 0), (47, 12, 20, 15, 0), (7, 0, 0, 0, 4096), (1, 1, 0, 0, 0), (12, 0, 0, 0, 0), (1, 3, 0, 0, 0), (10, 0, 0, 0, 0), (3, 0, 0, 0, 0), (47, 12, 19, 15, 0), (1, 3, 0, 0, 0), (53, 0, 0, 0, 0), (58, 0, 0, 0, 0), (35, 3, 0, 0, 1), (40, 173, 0, 0, 0)]
def b_X12_works_204 : List LI := [(74, 0, 0, 0, 0)]
def cd_X12_works : Nat → List LI := fun pc => if pc = 0 then b_X12_works_0 else if pc = 4 then b_X12_works_4 else if pc = 44 then b_X12_works_44 else if pc = 62 then b_X12_works_62 else if pc = 107 then b_X12_works_107 else if pc = 110 then b_X12_works_110 else if pc = 136 then b_X12_works_136 else if pc = 165 then b_X12_works_165 else if pc = 171 then b_X12_works_171 else if pc = 173 then b_X12_works_173 else if pc = 204 then b_X12_works_204 else []
def b_X12_leaf_0 : List LI := [(7, 0, 0, 0, 0), (4, 5, 0, 0, 0), (0, 3, 0, 0, 0)]
def b_X12_leaf_3 : List LI := [(1, 5, 0, 0, 0), (7, 0, 0, 0, 512), (36, 3, 151, 0, 0), (7, 0, 0, 0, 4096), (1, 1, 0, 0, 0), (12, 0, 0, 0, 0), (7, 0, 0, 0, 8), (1, 5, 0, 0, 0), (12, 0, 0, 0, 0), (10, 0, 0, 0, 0), (4, 6, 0, 0, 0), (7, 0, 0, 0, 0), (4, 7, 0, 0, 0), (0, 27, 0, 0, 0)]
def b_X12_leaf_27 : List LI := [(1, 7, 0, 0, 0), (7, 0, 0, 0, 8), (36, 3, 51, 0, 0), (3, 0, 0, 0, 0), (47, 12, 19, 15, 0), (1, 6, 0, 0, 0), (1, 7, 0, 0, 0), (10, 0, 0, 0, 0), (8, 0, 0, 0, 0), (58, 0, 0, 0, 0), (35, 7, 0, 0, 1), (40, 27, 0, 0, 0)]
def b_X12_leaf_51 : List LI := [(1, 2, 0, 0, 0), (7, 0, 0, 0, 1), (36, 0, 93, 0, 0), (1, 2, 0, 0, 0), (7, 0, 0, 0, 4), (36, 0, 93, 0, 0), (1, 2, 0, 0, 0), (7, 0, 0, 0, 2), (36, 1, 77, 0, 0), (1, 5, 0, 0, 0), (1, 3, 0, 0, 0), (67, 202, 2, 0, 4), (1, 4, 0, 0, 0), (36, 0, 93, 0, 0), (0, 77, 0, 0, 0)]
def b_X12_leaf_77 : List LI := [(1, 2, 0, 0, 0), (7, 0, 0, 0, 3), (36, 1, 97, 0, 0), (1, 5, 0, 0, 0), (1, 3, 0, 0, 0), (67, 202, 2, 0, 4), (1, 4, 0, 0, 0), (36, 0, 97, 0, 0), (0, 93, 0, 0, 0)]
def b_X12_leaf_93 : List LI := [(7, 0, 0, 0, 1), (40, 98, 0, 0, 0)]
def b_X12_leaf_97 : List LI := [(7, 0, 0, 0, 0), (0, 98, 0, 0, 0)]
def b_X12_leaf_98 : List LI := [(4, 7, 0, 0, 0), (1, 2, 0, 0, 0), (7, 0, 0, 0, 4), (36, 1, 116, 0, 0), (1, 5, 0, 0, 0), (1, 3, 0, 0, 0), (1, 4, 0, 0, 0), (67, 203, 3, 0, 6), (40, 118, 0, 0, 0)]
def b_X12_leaf_116 : List LI := [(1, 5, 0, 0, 0), (0, 118, 0, 0, 0)]
def b_X12_leaf_118 : List LI := [(4, 8, 0, 0, 0), (1, 7, 0, 0, 0), (37, 0, 145, 0, 0), (3, 0, 0, 0, 0), (47, 12, 19, 15, 0), (1, 6, 0, 0, 0), (1, 8, 0, 0, 0), (7, 0, 0, 0, 6), (17, 0, 0, 0, 0), (10, 0, 0, 0, 0), (8, 0, 0, 0, 1), (1, 8, 0, 0, 0), (7, 0, 0, 0, 63), (19, 0, 0, 0, 0), (28, 0, 0, 0, 0), (58, 0, 0, 0, 0), (0, 145, 0, 0, 0)]
def b_X12_leaf_145 : List LI := [(35, 5, 0, 0, 1), (40, 3, 0, 0, 0)]
def b_X12_leaf_151 : List LI := [(74, 0, 0, 0, 0)]
def cd_X12_leaf : Nat → List LI := fun pc => if pc = 0 then b_X12_leaf_0 else if pc = 3 then b_X12_leaf_3 else if pc = 27 then b_X12_leaf_27 else if pc = 51 then b_X12_leaf_51 else if pc = 77 then b_X12_leaf_77 else if pc = 93 then b_X12_leaf_93 else if pc = 97 then b_X12_leaf_97 else if pc = 98 then b_X12_leaf_98 else if pc = 116 then b_X12_leaf_116 else if pc = 118 then b_X12_leaf_118 else if pc = 145 then b_X12_leaf_145 else if pc = 151 then b_X12_leaf_151 else []
def b_X12_follows_0 : List LI := [(7, 0, 0, 0, 0), (4, 3, 0, 0, 0), (0, 2, 0, 0, 0)]
def b_X12_follows_2 : List LI := [(1, 3, 0, 0, 0), (7, 0, 0, 0, 512), (36, 3, 198, 0, 0), (7, 0, 0, 0, 4096), (1, 1, 0, 0, 0), (12, 0, 0, 0, 0), (7, 0, 0, 0, 8), (1, 3, 0, 0, 0), (12, 0, 0, 0, 0), (10, 0, 0, 0, 0), (4, 4, 0, 0, 0), (7, 0, 0, 0, 0), (4, 5, 0, 0, 0), (0, 24, 0, 0, 0)]
def b_X12_follows_24 : List LI := [(1, 5, 0, 0, 0), (7, 0, 0, 0, 8), (36, 3, 45, 0, 0), (3, 0, 0, 0, 0), (47, 12, 21, 15, 0), (1, 5, 0, 0, 0), (8, 0, 0, 0, 0), (58, 0, 0, 0, 0), (35, 5, 0, 0, 1), (40, 24, 0, 0, 0)]
def b_X12_follows_45 : List LI := [(7, 0, 0, 0, 0), (4, 5, 0, 0, 0), (0, 48, 0, 0, 0)]
def b_X12_follows_48 : List LI := [(1, 5, 0, 0, 0), (7, 0, 0, 0, 8), (36, 3, 159, 0, 0), (3, 0, 0, 0, 0), (47, 12, 19, 15, 0), (1, 4, 0, 0, 0), (1, 5, 0, 0, 0), (10, 0, 0, 0, 0), (53, 0, 0, 0, 0), (5, 6, 0, 0, 0), (7, 0, 0, 0, 0), (4, 8, 0, 0, 0), (0, 70, 0, 0, 0)]
def b_X12_follows_70 : List LI := [(2, 6, 0, 0, 0), (8, 0, 0, 0, 0), (31, 0, 0, 0, 0), (37, 0, 153, 0, 0), (2, 6, 0, 0, 0), (8, 0, 0, 0, 1), (25, 0, 0, 0, 0), (8, 0, 0, 0, 1), (31, 0, 0, 0, 0), (37, 1, 141, 0, 0), (7, 0, 0, 0, 4096), (1, 2, 0, 0, 0), (12, 0, 0, 0, 0), (7, 0, 0, 0, 8), (7, 0, 0, 0, 64), (1, 5, 0, 0, 0), (12, 0, 0, 0, 0), (1, 8, 0, 0, 0), (10, 0, 0, 0, 0), (12, 0, 0, 0, 0), (10, 0, 0, 0, 0), (4, 9, 0, 0, 0), (7, 0, 0, 0, 0), (4, 10, 0, 0, 0), (0, 108, 0, 0, 0)]
def b_X12_follows_108 : List LI := [(1, 10, 0, 0, 0), (7, 0, 0, 0, 8), (36, 3, 141, 0, 0), (3, 0, 0, 0, 0), (47, 12, 21, 15, 0), (1, 10, 0, 0, 0), (43, 0, 0, 0, 0), (53, 0, 0, 0, 0), (3, 0, 0, 0, 0), (47, 12, 19, 15, 0), (1, 9, 0, 0, 0), (1, 10, 0, 0, 0), (10, 0, 0, 0, 0), (53, 0, 0, 0, 0), (26, 0, 0, 0, 0), (58, 0, 0, 0, 0), (35, 10, 0, 0, 1), (40, 108, 0, 0, 0)]
def b_X12_follows_141 : List LI := [(2, 6, 0, 0, 0), (7, 0, 0, 0, 1), (30, 0, 0, 0, 0), (5, 6, 0, 0, 0), (35, 8, 0, 0, 1), (40, 70, 0, 0, 0)]
def b_X12_follows_153 : List LI := [(35, 5, 0, 0, 1), (40, 48, 0, 0, 0)]
def b_X12_follows_159 : List LI := [(7, 0, 0, 0, 0), (4, 5, 0, 0, 0), (0, 162, 0, 0, 0)]
def b_X12_follows_162 : List LI := [(1, 5, 0, 0, 0), (7, 0, 0, 0, 8), (36, 3, 192, 0, 0), (3, 0, 0, 0, 0), (47, 12, 19, 15, 0), (1, 4, 0, 0, 0), (1, 5, 0, 0, 0), (10, 0, 0, 0, 0), (3, 0, 0, 0, 0), (47, 12, 21, 15, 0), (1, 5, 0, 0, 0), (53, 0, 0, 0, 0), (58, 0, 0, 0, 0), (35, 5, 0, 0, 1), (40, 162, 0, 0, 0)]
def b_X12_follows_192 : List LI := [(35, 3, 0, 0, 1), (40, 2, 0, 0, 0)]
def b_X12_follows_198 : List LI := [(74, 0, 0, 0, 0)]
def cd_X12_follows : Nat → List LI := fun pc => if pc = 0 then b_X12_follows_0 else if pc = 2 then b_X12_follows_2 else if pc = 24 then b_X12_follows_24 else if pc = 45 then b_X12_follows_45 else if pc = 48 then b_X12_follows_48 else if pc = 70 then b_X12_follows_70 else if pc = 108 then b_X12_follows_108 else if pc = 141 then b_X12_follows_141 else if pc = 153 then b_X12_follows_153 else if pc = 159 then b_X12_follows_159 else if pc = 162 then b_X12_follows_162 else if pc = 192 then b_X12_follows_192 else if pc = 198 then b_X12_follows_198 else []
def b_X12_closes_0 : List LI := [(7, 0, 0, 0, 0), (4, 2, 0, 0, 0), (0, 2, 0, 0, 0)]
def b_X12_closes_2 : List LI := [(1, 2, 0, 0, 0), (7, 0, 0, 0, 512), (36, 3, 44, 0, 0), (3, 0, 0, 0, 0), (47, 12, 19, 15, 0), (7, 0, 0, 0, 4096), (1, 1, 0, 0, 0), (12, 0, 0, 0, 0), (7, 0, 0, 0, 8), (1, 2, 0, 0, 0), (12, 0, 0, 0, 0), (10, 0, 0, 0, 0), (1, 2, 0, 0, 0), (7, 0, 0, 0, 6), (17, 0, 0, 0, 0), (10, 0, 0, 0, 0), (43, 0, 0, 0, 0), (53, 0, 0, 0, 0), (8, 0, 0, 0, 1), (1, 2, 0, 0, 0), (7, 0, 0, 0, 63), (19, 0, 0, 0, 0), (28, 0, 0, 0, 0), (26, 0, 0, 0, 0), (58, 0, 0, 0, 0), (35, 2, 0, 0, 1), (40, 2, 0, 0, 0)]
def b_X12_closes_44 : List LI := [(7, 0, 0, 0, 0), (4, 2, 0, 0, 0), (0, 46, 0, 0, 0)]
def b_X12_closes_46 : List LI := [(1, 2, 0, 0, 0), (7, 0, 0, 0, 512), (36, 3, 162, 0, 0), (7, 0, 0, 0, 4096), (1, 1, 0, 0, 0), (12, 0, 0, 0, 0), (7, 0, 0, 0, 8), (1, 2, 0, 0, 0), (12, 0, 0, 0, 0), (10, 0, 0, 0, 0), (4, 3, 0, 0, 0), (7, 0, 0, 0, 0), (4, 4, 0, 0, 0), (0, 67, 0, 0, 0)]
def b_X12_closes_67 : List LI := [(1, 4, 0, 0, 0), (7, 0, 0, 0, 512), (36, 3, 156, 0, 0), (7, 0, 0, 0, 4096), (1, 1, 0, 0, 0), (12, 0, 0, 0, 0), (7, 0, 0, 0, 8), (1, 4, 0, 0, 0), (12, 0, 0, 0, 0), (10, 0, 0, 0, 0), (4, 5, 0, 0, 0), (3, 0, 0, 0, 0), (47, 12, 19, 15, 0), (1, 5, 0, 0, 0), (1, 2, 0, 0, 0), (7, 0, 0, 0, 6), (17, 0, 0, 0, 0), (10, 0, 0, 0, 0), (53, 0, 0, 0, 0), (1, 2, 0, 0, 0), (7, 0, 0, 0, 63), (19, 0, 0, 0, 0), (29, 0, 0, 0, 0), (8, 0, 0, 0, 1), (25, 0, 0, 0, 0), (8, 0, 0, 0, 1), (31, 0, 0, 0, 0), (37, 1, 150, 0, 0), (7, 0, 0, 0, 0), (4, 6, 0, 0, 0), (0, 115, 0, 0, 0)]
def b_X12_closes_115 : List LI := [(1, 6, 0, 0, 0), (7, 0, 0, 0, 8), (36, 3, 150, 0, 0), (3, 0, 0, 0, 0), (47, 12, 19, 15, 0), (1, 5, 0, 0, 0), (1, 6, 0, 0, 0), (10, 0, 0, 0, 0), (43, 0, 0, 0, 0), (53, 0, 0, 0, 0), (3, 0, 0, 0, 0), (47, 12, 19, 15, 0), (1, 3, 0, 0, 0), (1, 6, 0, 0, 0), (10, 0, 0, 0, 0), (53, 0, 0, 0, 0), (26, 0, 0, 0, 0), (58, 0, 0, 0, 0), (35, 6, 0, 0, 1), (40, 115, 0, 0, 0)]
def b_X12_closes_150 : List LI := [(35, 4, 0, 0, 1), (40, 67, 0, 0, 0)]
def b_X12_closes_156 : List LI := [(35, 2, 0, 0, 1), (40, 46, 0, 0, 0)]
def b_X12_closes_162 : List LI := [(74, 0, 0, 0, 0)]
def cd_X12_closes : Nat → List LI := fun pc => if pc = 0 then b_X12_closes_0 else if pc = 2 then b_X12_closes_2 else if pc = 44 then b_X12_closes_44 else if pc = 46 then b_X12_closes_46 else if pc = 67 then b_X12_closes_67 else if pc = 115 then b_X12_closes_115 else if pc = 150 then b_X12_closes_150 else if pc = 156 then b_X12_closes_156 else if pc = 162 then b_X12_closes_162 else []
def b_X12_isWish_0 : List LI := [(1, 1, 0, 0, 0), (32, 0, 0, 0, 0), (8, 0, 0, 0, 0), (3, 0, 0, 0, 0), (45, 12, 4, 0, 0), (7, 0, 0, 0, 1), (11, 0, 0, 0, 0), (32, 0, 0, 0, 0), (67, 199, 3, 0, 12), (71, 1, 0, 0, 0)]
def cd_X12_isWish : Nat → List LI := fun pc => if pc = 0 then b_X12_isWish_0 else []
def b_X12_makesOf_0 : List LI := [(3, 0, 0, 0, 0), (47, 12, 20, 15, 0), (7, 0, 0, 0, 4096), (1, 1, 0, 0, 0), (12, 0, 0, 0, 0), (7, 0, 0, 0, 8), (1, 2, 0, 0, 0), (12, 0, 0, 0, 0), (10, 0, 0, 0, 0), (1, 3, 0, 0, 0), (7, 0, 0, 0, 6), (17, 0, 0, 0, 0), (10, 0, 0, 0, 0), (53, 0, 0, 0, 0), (1, 3, 0, 0, 0), (7, 0, 0, 0, 63), (19, 0, 0, 0, 0), (29, 0, 0, 0, 0), (8, 0, 0, 0, 1), (25, 0, 0, 0, 0), (8, 0, 0, 0, 1), (31, 0, 0, 0, 0), (37, 1, 36, 0, 0), (7, 0, 0, 0, 1), (40, 37, 0, 0, 0)]
def b_X12_makesOf_36 : List LI := [(7, 0, 0, 0, 0), (0, 37, 0, 0, 0)]
def b_X12_makesOf_37 : List LI := [(71, 1, 0, 0, 0)]
def cd_X12_makesOf : Nat → List LI := fun pc => if pc = 0 then b_X12_makesOf_0 else if pc = 36 then b_X12_makesOf_36 else if pc = 37 then b_X12_makesOf_37 else []
def b_X12_kth_0 : List LI := [(7, 0, 0, 0, 0), (4, 4, 0, 0, 0), (7, 0, 0, 0, 0), (4, 5, 0, 0, 0), (0, 6, 0, 0, 0)]
def b_X12_kth_6 : List LI := [(1, 5, 0, 0, 0), (7, 0, 0, 0, 512), (36, 3, 43, 0, 0), (3, 0, 0, 0, 0), (1, 1, 0, 0, 0), (1, 2, 0, 0, 0), (1, 5, 0, 0, 0), (67, 228, 4, 12, 9), (37, 0, 37, 0, 0), (1, 4, 0, 0, 0), (1, 3, 0, 0, 0), (36, 1, 34, 0, 0), (1, 5, 0, 0, 0), (71, 0, 0, 0, 0)]
def b_X12_kth_34 : List LI := [(35, 4, 0, 0, 1), (0, 37, 0, 0, 0)]
def b_X12_kth_37 : List LI := [(35, 5, 0, 0, 1), (40, 6, 0, 0, 0)]
def b_X12_kth_43 : List LI := [(7, 0, 0, 0, (-1)), (71, 0, 0, 0, 0)]
def cd_X12_kth : Nat → List LI := fun pc => if pc = 0 then b_X12_kth_0 else if pc = 6 then b_X12_kth_6 else if pc = 34 then b_X12_kth_34 else if pc = 37 then b_X12_kth_37 else if pc = 43 then b_X12_kth_43 else []
def b_X12_many_0 : List LI := [(7, 0, 0, 0, 0), (4, 3, 0, 0, 0), (7, 0, 0, 0, 0), (4, 4, 0, 0, 0), (0, 5, 0, 0, 0)]
def b_X12_many_5 : List LI := [(1, 4, 0, 0, 0), (7, 0, 0, 0, 8), (36, 3, 60, 0, 0), (3, 0, 0, 0, 0), (47, 12, 20, 15, 0), (7, 0, 0, 0, 4096), (1, 1, 0, 0, 0), (12, 0, 0, 0, 0), (7, 0, 0, 0, 8), (1, 2, 0, 0, 0), (12, 0, 0, 0, 0), (10, 0, 0, 0, 0), (1, 4, 0, 0, 0), (10, 0, 0, 0, 0), (53, 0, 0, 0, 0), (5, 5, 0, 0, 0), (0, 32, 0, 0, 0)]
def b_X12_many_32 : List LI := [(2, 5, 0, 0, 0), (8, 0, 0, 0, 0), (31, 0, 0, 0, 0), (37, 0, 54, 0, 0), (2, 5, 0, 0, 0), (2, 5, 0, 0, 0), (8, 0, 0, 0, 1), (23, 0, 0, 0, 0), (25, 0, 0, 0, 0), (5, 5, 0, 0, 0), (35, 3, 0, 0, 1), (40, 32, 0, 0, 0)]
def b_X12_many_54 : List LI := [(35, 4, 0, 0, 1), (40, 5, 0, 0, 0)]
def b_X12_many_60 : List LI := [(1, 3, 0, 0, 0), (71, 0, 0, 0, 0)]
def cd_X12_many : Nat → List LI := fun pc => if pc = 0 then b_X12_many_0 else if pc = 5 then b_X12_many_5 else if pc = 32 then b_X12_many_32 else if pc = 54 then b_X12_many_54 else if pc = 60 then b_X12_many_60 else []
def b_X12_makes__0 : List LI := [(3, 0, 0, 0, 0), (1, 1, 0, 0, 0), (67, 227, 2, 12, 5), (37, 0, 15, 0, 0), (1, 2, 0, 0, 0), (67, 200, 1, 0, 2), (37, 1, 17, 0, 0), (0, 15, 0, 0, 0)]
def b_X12_makes__15 : List LI := [(7, 0, 0, 0, (-1)), (71, 0, 0, 0, 0)]
def b_X12_makes__17 : List LI := [(1, 3, 0, 0, 0), (7, 0, 0, 0, (-1)), (36, 1, 31, 0, 0), (3, 0, 0, 0, 0), (1, 1, 0, 0, 0), (1, 2, 0, 0, 0), (67, 230, 3, 12, 7), (40, 46, 0, 0, 0)]
def b_X12_makes__31 : List LI := [(1, 3, 0, 0, 0), (37, 3, 39, 0, 0), (7, 0, 0, 0, (-1)), (40, 46, 0, 0, 0)]
def b_X12_makes__39 : List LI := [(3, 0, 0, 0, 0), (1, 1, 0, 0, 0), (1, 2, 0, 0, 0), (1, 3, 0, 0, 0), (67, 229, 4, 12, 9), (0, 46, 0, 0, 0)]
def b_X12_makes__46 : List LI := [(71, 0, 0, 0, 0)]
def cd_X12_makes_ : Nat → List LI := fun pc => if pc = 0 then b_X12_makes__0 else if pc = 15 then b_X12_makes__15 else if pc = 17 then b_X12_makes__17 else if pc = 31 then b_X12_makes__31 else if pc = 39 then b_X12_makes__39 else if pc = 46 then b_X12_makes__46 else []
def b_X12_of_0 : List LI := [(3, 0, 0, 0, 0), (1, 1, 0, 0, 0), (67, 227, 2, 12, 5), (37, 0, 20, 0, 0), (1, 2, 0, 0, 0), (32, 0, 0, 0, 0), (8, 0, 0, 0, 0), (8, 0, 0, 0, 2), (67, 199, 3, 0, 12), (37, 1, 22, 0, 0), (0, 20, 0, 0, 0)]
def b_X12_of_20 : List LI := [(7, 0, 0, 0, (-1)), (71, 0, 0, 0, 0)]
def b_X12_of_22 : List LI := [(7, 0, 0, 0, 0), (4, 3, 0, 0, 0), (7, 0, 0, 0, 0), (4, 4, 0, 0, 0), (0, 27, 0, 0, 0)]
def b_X12_of_27 : List LI := [(1, 4, 0, 0, 0), (7, 0, 0, 0, 512), (36, 3, 101, 0, 0), (3, 0, 0, 0, 0), (1, 1, 0, 0, 0), (1, 4, 0, 0, 0), (67, 230, 3, 12, 7), (4, 5, 0, 0, 0), (1, 3, 0, 0, 0), (1, 2, 0, 0, 0), (37, 1, 54, 0, 0), (1, 5, 0, 0, 0), (37, 4, 88, 0, 0), (0, 54, 0, 0, 0)]
def b_X12_of_54 : List LI := [(1, 2, 0, 0, 0), (7, 0, 0, 0, 1), (36, 1, 77, 0, 0), (1, 5, 0, 0, 0), (7, 0, 0, 0, 1), (36, 1, 77, 0, 0), (3, 0, 0, 0, 0), (1, 1, 0, 0, 0), (1, 4, 0, 0, 0), (1, 4, 0, 0, 0), (67, 228, 4, 12, 9), (37, 1, 88, 0, 0), (0, 77, 0, 0, 0)]
def b_X12_of_77 : List LI := [(1, 2, 0, 0, 0), (7, 0, 0, 0, 2), (36, 1, 92, 0, 0), (1, 5, 0, 0, 0), (7, 0, 0, 0, 1), (36, 5, 92, 0, 0), (0, 88, 0, 0, 0)]
def b_X12_of_88 : List LI := [(7, 0, 0, 0, 1), (40, 93, 0, 0, 0)]
def b_X12_of_92 : List LI := [(7, 0, 0, 0, 0), (0, 93, 0, 0, 0)]
def b_X12_of_93 : List LI := [(10, 0, 0, 0, 0), (4, 3, 0, 0, 0), (35, 4, 0, 0, 1), (40, 27, 0, 0, 0)]
def b_X12_of_101 : List LI := [(1, 3, 0, 0, 0), (71, 0, 0, 0, 0)]
def cd_X12_of : Nat → List LI := fun pc => if pc = 0 then b_X12_of_0 else if pc = 20 then b_X12_of_20 else if pc = 22 then b_X12_of_22 else if pc = 27 then b_X12_of_27 else if pc = 54 then b_X12_of_54 else if pc = 77 then b_X12_of_77 else if pc = 88 then b_X12_of_88 else if pc = 92 then b_X12_of_92 else if pc = 93 then b_X12_of_93 else if pc = 101 then b_X12_of_101 else []
def b_X12_unlike_0 : List LI := [(7, 0, 0, 0, 0), (4, 4, 0, 0, 0), (0, 3, 0, 0, 0)]
def b_X12_unlike_3 : List LI := [(1, 4, 0, 0, 0), (7, 0, 0, 0, 8), (36, 3, 56, 0, 0), (3, 0, 0, 0, 0), (47, 12, 20, 15, 0), (7, 0, 0, 0, 4096), (1, 1, 0, 0, 0), (12, 0, 0, 0, 0), (7, 0, 0, 0, 8), (1, 3, 0, 0, 0), (12, 0, 0, 0, 0), (10, 0, 0, 0, 0), (1, 4, 0, 0, 0), (10, 0, 0, 0, 0), (53, 0, 0, 0, 0), (3, 0, 0, 0, 0), (47, 12, 20, 15, 0), (7, 0, 0, 0, 4096), (1, 2, 0, 0, 0), (12, 0, 0, 0, 0), (7, 0, 0, 0, 8), (1, 3, 0, 0, 0), (12, 0, 0, 0, 0), (10, 0, 0, 0, 0), (1, 4, 0, 0, 0), (10, 0, 0, 0, 0), (53, 0, 0, 0, 0), (31, 0, 0, 0, 0), (37, 1, 56, 0, 0), (35, 4, 0, 0, 1), (40, 3, 0, 0, 0)]
def b_X12_unlike_56 : List LI := [(1, 4, 0, 0, 0), (71, 0, 0, 0, 0)]
def cd_X12_unlike : Nat → List LI := fun pc => if pc = 0 then b_X12_unlike_0 else if pc = 3 then b_X12_unlike_3 else if pc = 56 then b_X12_unlike_56 else []
def b_X12_parts_0 : List LI := [(3, 0, 0, 0, 0), (1, 1, 0, 0, 0), (67, 227, 2, 12, 5), (37, 0, 28, 0, 0), (3, 0, 0, 0, 0), (1, 2, 0, 0, 0), (67, 227, 2, 12, 5), (37, 0, 28, 0, 0), (1, 3, 0, 0, 0), (32, 0, 0, 0, 0), (8, 0, 0, 0, 0), (8, 0, 0, 0, 2), (67, 199, 3, 0, 12), (37, 1, 31, 0, 0), (0, 28, 0, 0, 0)]
def b_X12_parts_28 : List LI := [(7, 0, 0, 0, (-2)), (71, 0, 0, 0, 0)]
def b_X12_parts_31 : List LI := [(7, 0, 0, 0, 0), (4, 4, 0, 0, 0), (0, 34, 0, 0, 0)]
def b_X12_parts_34 : List LI := [(1, 4, 0, 0, 0), (7, 0, 0, 0, 512), (36, 3, 136, 0, 0), (3, 0, 0, 0, 0), (1, 1, 0, 0, 0), (1, 2, 0, 0, 0), (1, 4, 0, 0, 0), (67, 233, 4, 12, 9), (4, 5, 0, 0, 0), (1, 5, 0, 0, 0), (7, 0, 0, 0, 8), (36, 3, 130, 0, 0), (7, 0, 0, 0, 64), (1, 5, 0, 0, 0), (12, 0, 0, 0, 0), (4, 6, 0, 0, 0), (0, 66, 0, 0, 0)]
def b_X12_parts_66 : List LI := [(3, 0, 0, 0, 0), (1, 1, 0, 0, 0), (1, 4, 0, 0, 0), (1, 6, 0, 0, 0), (67, 228, 4, 12, 9), (3, 0, 0, 0, 0), (1, 2, 0, 0, 0), (1, 4, 0, 0, 0), (1, 6, 0, 0, 0), (67, 228, 4, 12, 9), (36, 1, 93, 0, 0), (35, 6, 0, 0, 1), (40, 66, 0, 0, 0)]
def b_X12_parts_93 : List LI := [(1, 3, 0, 0, 0), (37, 1, 102, 0, 0), (1, 4, 0, 0, 0), (40, 129, 0, 0, 0)]
def b_X12_parts_102 : List LI := [(1, 3, 0, 0, 0), (7, 0, 0, 0, 1), (36, 1, 112, 0, 0), (1, 6, 0, 0, 0), (40, 129, 0, 0, 0)]
def b_X12_parts_112 : List LI := [(3, 0, 0, 0, 0), (1, 1, 0, 0, 0), (1, 4, 0, 0, 0), (1, 6, 0, 0, 0), (67, 228, 4, 12, 9), (37, 0, 128, 0, 0), (7, 0, 0, 0, 0), (40, 129, 0, 0, 0)]
def b_X12_parts_128 : List LI := [(7, 0, 0, 0, 1), (0, 129, 0, 0, 0)]
def b_X12_parts_129 : List LI := [(71, 0, 0, 0, 0)]
def b_X12_parts_130 : List LI := [(35, 4, 0, 0, 1), (40, 34, 0, 0, 0)]
def b_X12_parts_136 : List LI := [(7, 0, 0, 0, (-1)), (71, 0, 0, 0, 0)]
def cd_X12_parts : Nat → List LI := fun pc => if pc = 0 then b_X12_parts_0 else if pc = 28 then b_X12_parts_28 else if pc = 31 then b_X12_parts_31 else if pc = 34 then b_X12_parts_34 else if pc = 66 then b_X12_parts_66 else if pc = 93 then b_X12_parts_93 else if pc = 102 then b_X12_parts_102 else if pc = 112 then b_X12_parts_112 else if pc = 128 then b_X12_parts_128 else if pc = 129 then b_X12_parts_129 else if pc = 130 then b_X12_parts_130 else if pc = 136 then b_X12_parts_136 else []
def b_X12_within_0 : List LI := [(3, 0, 0, 0, 0), (1, 1, 0, 0, 0), (67, 227, 2, 12, 5), (37, 0, 16, 0, 0), (3, 0, 0, 0, 0), (1, 2, 0, 0, 0), (67, 227, 2, 12, 5), (37, 1, 18, 0, 0), (0, 16, 0, 0, 0)]
def b_X12_within_16 : List LI := [(7, 0, 0, 0, (-1)), (71, 0, 0, 0, 0)]
def b_X12_within_18 : List LI := [(7, 0, 0, 0, 1), (4, 3, 0, 0, 0), (7, 0, 0, 0, 0), (4, 4, 0, 0, 0), (0, 23, 0, 0, 0)]
def b_X12_within_23 : List LI := [(1, 4, 0, 0, 0), (7, 0, 0, 0, 4096), (36, 3, 83, 0, 0), (1, 3, 0, 0, 0), (37, 0, 83, 0, 0), (3, 0, 0, 0, 0), (47, 12, 20, 15, 0), (7, 0, 0, 0, 4096), (1, 1, 0, 0, 0), (12, 0, 0, 0, 0), (1, 4, 0, 0, 0), (10, 0, 0, 0, 0), (53, 0, 0, 0, 0), (3, 0, 0, 0, 0), (47, 12, 20, 15, 0), (7, 0, 0, 0, 4096), (1, 2, 0, 0, 0), (12, 0, 0, 0, 0), (1, 4, 0, 0, 0), (10, 0, 0, 0, 0), (53, 0, 0, 0, 0), (8, 0, 0, 0, (-1)), (27, 0, 0, 0, 0), (25, 0, 0, 0, 0), (8, 0, 0, 0, 0), (31, 0, 0, 0, 0), (37, 1, 75, 0, 0), (7, 0, 0, 0, 1), (40, 76, 0, 0, 0)]
def b_X12_within_75 : List LI := [(7, 0, 0, 0, 0), (0, 76, 0, 0, 0)]
def b_X12_within_76 : List LI := [(4, 3, 0, 0, 0), (35, 4, 0, 0, 1), (40, 23, 0, 0, 0)]
def b_X12_within_83 : List LI := [(1, 3, 0, 0, 0), (37, 0, 91, 0, 0), (7, 0, 0, 0, 1), (40, 92, 0, 0, 0)]
def b_X12_within_91 : List LI := [(7, 0, 0, 0, 0), (0, 92, 0, 0, 0)]
def b_X12_within_92 : List LI := [(71, 0, 0, 0, 0)]
def cd_X12_within : Nat → List LI := fun pc => if pc = 0 then b_X12_within_0 else if pc = 16 then b_X12_within_16 else if pc = 18 then b_X12_within_18 else if pc = 23 then b_X12_within_23 else if pc = 75 then b_X12_within_75 else if pc = 76 then b_X12_within_76 else if pc = 83 then b_X12_within_83 else if pc = 91 then b_X12_within_91 else if pc = 92 then b_X12_within_92 else []
def b_X12_isHouse_0 : List LI := [(1, 0, 0, 0, 0), (32, 0, 0, 0, 0), (8, 0, 0, 0, 0), (8, 0, 0, 0, 3), (67, 199, 3, 0, 12), (71, 1, 0, 0, 0)]
def cd_X12_isHouse : Nat → List LI := fun pc => if pc = 0 then b_X12_isHouse_0 else []
def b_X12_right_0 : List LI := [(1, 1, 0, 0, 0), (67, 236, 1, 0, 2), (37, 0, 57, 0, 0), (1, 2, 0, 0, 0), (32, 0, 0, 0, 0), (8, 0, 0, 0, 0), (8, 0, 0, 0, 255), (67, 199, 3, 0, 12), (37, 0, 57, 0, 0), (1, 3, 0, 0, 0), (32, 0, 0, 0, 0), (8, 0, 0, 0, 0), (8, 0, 0, 0, 15), (67, 199, 3, 0, 12), (37, 0, 57, 0, 0), (1, 4, 0, 0, 0), (32, 0, 0, 0, 0), (8, 0, 0, 0, 0), (8, 0, 0, 0, 15), (67, 199, 3, 0, 12), (37, 0, 57, 0, 0), (1, 5, 0, 0, 0), (32, 0, 0, 0, 0), (8, 0, 0, 0, 0), (8, 0, 0, 0, 15), (67, 199, 3, 0, 12), (37, 1, 59, 0, 0), (0, 57, 0, 0, 0)]
def b_X12_right_57 : List LI := [(7, 0, 0, 0, 0), (71, 1, 0, 0, 0)]
def b_X12_right_59 : List LI := [(3, 0, 0, 0, 0), (47, 12, 23, 14, 0), (1, 1, 0, 0, 0), (1, 2, 0, 0, 0), (57, 0, 0, 0, 0), (3, 0, 0, 0, 0), (47, 12, 24, 14, 0), (1, 1, 0, 0, 0), (1, 3, 0, 0, 0), (57, 0, 0, 0, 0), (3, 0, 0, 0, 0), (47, 12, 25, 14, 0), (1, 1, 0, 0, 0), (1, 4, 0, 0, 0), (57, 0, 0, 0, 0), (3, 0, 0, 0, 0), (47, 12, 26, 14, 0), (1, 1, 0, 0, 0), (1, 5, 0, 0, 0), (57, 0, 0, 0, 0), (7, 0, 0, 0, 1), (71, 1, 0, 0, 0)]
def cd_X12_right : Nat → List LI := fun pc => if pc = 0 then b_X12_right_0 else if pc = 57 then b_X12_right_57 else if pc = 59 then b_X12_right_59 else []
def b_X12_breaks_0 : List LI := [(3, 0, 0, 0, 0), (1, 1, 0, 0, 0), (67, 227, 2, 12, 5), (37, 1, 11, 0, 0), (7, 0, 0, 0, (-2)), (71, 0, 0, 0, 0)]
def b_X12_breaks_11 : List LI := [(3, 0, 0, 0, 0), (47, 12, 14, 14, 0), (1, 1, 0, 0, 0), (52, 0, 0, 0, 0), (4, 2, 0, 0, 0), (7, 0, 0, 0, 0), (4, 3, 0, 0, 0), (0, 20, 0, 0, 0)]
def b_X12_breaks_20 : List LI := [(1, 3, 0, 0, 0), (7, 0, 0, 0, 512), (36, 3, 104, 0, 0), (3, 0, 0, 0, 0), (47, 12, 23, 14, 0), (1, 2, 0, 0, 0), (52, 0, 0, 0, 0), (1, 3, 0, 0, 0), (7, 0, 0, 0, 3), (67, 202, 2, 0, 4), (17, 0, 0, 0, 0), (3, 0, 0, 0, 0), (47, 12, 24, 14, 0), (1, 2, 0, 0, 0), (52, 0, 0, 0, 0), (1, 3, 0, 0, 0), (7, 0, 0, 0, 0), (67, 202, 2, 0, 4), (17, 0, 0, 0, 0), (19, 0, 0, 0, 0), (3, 0, 0, 0, 0), (47, 12, 25, 14, 0), (1, 2, 0, 0, 0), (52, 0, 0, 0, 0), (1, 3, 0, 0, 0), (7, 0, 0, 0, 1), (67, 202, 2, 0, 4), (17, 0, 0, 0, 0), (19, 0, 0, 0, 0), (3, 0, 0, 0, 0), (47, 12, 26, 14, 0), (1, 2, 0, 0, 0), (52, 0, 0, 0, 0), (1, 3, 0, 0, 0), (7, 0, 0, 0, 2), (67, 202, 2, 0, 4), (17, 0, 0, 0, 0), (19, 0, 0, 0, 0), (4, 4, 0, 0, 0), (1, 4, 0, 0, 0), (7, 0, 0, 0, 1), (19, 0, 0, 0, 0), (37, 1, 98, 0, 0), (3, 0, 0, 0, 0), (1, 1, 0, 0, 0), (1, 3, 0, 0, 0), (67, 230, 3, 12, 7), (37, 5, 98, 0, 0), (1, 3, 0, 0, 0), (71, 0, 0, 0, 0)]
def b_X12_breaks_98 : List LI := [(35, 3, 0, 0, 1), (40, 20, 0, 0, 0)]
def b_X12_breaks_104 : List LI := [(7, 0, 0, 0, (-1)), (71, 0, 0, 0, 0)]
def cd_X12_breaks : Nat → List LI := fun pc => if pc = 0 then b_X12_breaks_0 else if pc = 11 then b_X12_breaks_11 else if pc = 20 then b_X12_breaks_20 else if pc = 98 then b_X12_breaks_98 else if pc = 104 then b_X12_breaks_104 else []
def b_X12_quarrel_0 : List LI := [(3, 0, 0, 0, 0), (1, 1, 0, 0, 0), (67, 227, 2, 12, 5), (37, 0, 16, 0, 0), (3, 0, 0, 0, 0), (1, 2, 0, 0, 0), (67, 227, 2, 12, 5), (37, 1, 19, 0, 0), (0, 16, 0, 0, 0)]
def b_X12_quarrel_16 : List LI := [(7, 0, 0, 0, (-2)), (71, 0, 0, 0, 0)]
def b_X12_quarrel_19 : List LI := [(7, 0, 0, 0, 0), (4, 3, 0, 0, 0), (0, 21, 0, 0, 0)]
def b_X12_quarrel_21 : List LI := [(1, 3, 0, 0, 0), (7, 0, 0, 0, 512), (36, 3, 66, 0, 0), (3, 0, 0, 0, 0), (1, 1, 0, 0, 0), (1, 2, 0, 0, 0), (1, 3, 0, 0, 0), (67, 233, 4, 12, 9), (7, 0, 0, 0, 8), (36, 3, 60, 0, 0), (3, 0, 0, 0, 0), (1, 1, 0, 0, 0), (1, 3, 0, 0, 0), (67, 230, 3, 12, 7), (37, 5, 60, 0, 0), (3, 0, 0, 0, 0), (1, 2, 0, 0, 0), (1, 3, 0, 0, 0), (67, 230, 3, 12, 7), (37, 5, 60, 0, 0), (1, 3, 0, 0, 0), (71, 0, 0, 0, 0)]
def b_X12_quarrel_60 : List LI := [(35, 3, 0, 0, 1), (40, 21, 0, 0, 0)]
def b_X12_quarrel_66 : List LI := [(7, 0, 0, 0, (-1)), (71, 0, 0, 0, 0)]
def cd_X12_quarrel : Nat → List LI := fun pc => if pc = 0 then b_X12_quarrel_0 else if pc = 16 then b_X12_quarrel_16 else if pc = 19 then b_X12_quarrel_19 else if pc = 21 then b_X12_quarrel_21 else if pc = 60 then b_X12_quarrel_60 else if pc = 66 then b_X12_quarrel_66 else []
def b_X12_rank_0 : List LI := [(1, 1, 0, 0, 0), (67, 236, 1, 0, 2), (37, 0, 19, 0, 0), (1, 2, 0, 0, 0), (32, 0, 0, 0, 0), (8, 0, 0, 0, 0), (8, 0, 0, 0, 9), (67, 199, 3, 0, 12), (37, 1, 21, 0, 0), (0, 19, 0, 0, 0)]
def b_X12_rank_19 : List LI := [(7, 0, 0, 0, (-1)), (71, 0, 0, 0, 0)]
def b_X12_rank_21 : List LI := [(3, 0, 0, 0, 0), (47, 12, 27, 14, 0), (1, 1, 0, 0, 0), (52, 0, 0, 0, 0), (4, 3, 0, 0, 0), (3, 0, 0, 0, 0), (47, 12, 27, 14, 0), (1, 1, 0, 0, 0), (1, 2, 0, 0, 0), (57, 0, 0, 0, 0), (1, 3, 0, 0, 0), (71, 0, 0, 0, 0)]
def cd_X12_rank : Nat → List LI := fun pc => if pc = 0 then b_X12_rank_0 else if pc = 19 then b_X12_rank_19 else if pc = 21 then b_X12_rank_21 else []
def b_X12_joined_0 : List LI := [(1, 1, 0, 0, 0), (67, 200, 1, 0, 2), (37, 0, 19, 0, 0), (1, 2, 0, 0, 0), (32, 0, 0, 0, 0), (8, 0, 0, 0, 0), (8, 0, 0, 0, 2), (67, 199, 3, 0, 12), (37, 1, 21, 0, 0), (0, 19, 0, 0, 0)]
def b_X12_joined_19 : List LI := [(7, 0, 0, 0, (-1)), (71, 0, 0, 0, 0)]
def b_X12_joined_21 : List LI := [(7, 0, 0, 0, (-1)), (4, 3, 0, 0, 0), (7, 0, 0, 0, 0), (4, 4, 0, 0, 0), (0, 26, 0, 0, 0)]
def b_X12_joined_26 : List LI := [(1, 4, 0, 0, 0), (3, 0, 0, 0, 0), (45, 12, 4, 0, 0), (36, 3, 101, 0, 0), (1, 3, 0, 0, 0), (7, 0, 0, 0, (-1)), (36, 0, 66, 0, 0), (3, 0, 0, 0, 0), (47, 12, 27, 14, 0), (3, 0, 0, 0, 0), (47, 12, 14, 14, 0), (1, 4, 0, 0, 0), (52, 0, 0, 0, 0), (52, 0, 0, 0, 0), (3, 0, 0, 0, 0), (47, 12, 27, 14, 0), (3, 0, 0, 0, 0), (47, 12, 14, 14, 0), (1, 3, 0, 0, 0), (52, 0, 0, 0, 0), (52, 0, 0, 0, 0), (36, 5, 70, 0, 0), (0, 66, 0, 0, 0)]
def b_X12_joined_66 : List LI := [(7, 0, 0, 0, 1), (40, 71, 0, 0, 0)]
def b_X12_joined_70 : List LI := [(7, 0, 0, 0, 0), (0, 71, 0, 0, 0)]
def b_X12_joined_71 : List LI := [(4, 5, 0, 0, 0), (1, 5, 0, 0, 0), (37, 0, 93, 0, 0), (3, 0, 0, 0, 0), (1, 4, 0, 0, 0), (1, 1, 0, 0, 0), (67, 230, 3, 12, 7), (37, 5, 93, 0, 0), (1, 4, 0, 0, 0), (40, 94, 0, 0, 0)]
def b_X12_joined_93 : List LI := [(1, 3, 0, 0, 0), (0, 94, 0, 0, 0)]
def b_X12_joined_94 : List LI := [(4, 3, 0, 0, 0), (35, 4, 0, 0, 1), (40, 26, 0, 0, 0)]
def b_X12_joined_101 : List LI := [(1, 2, 0, 0, 0), (37, 1, 107, 0, 0), (1, 3, 0, 0, 0), (71, 0, 0, 0, 0)]
def b_X12_joined_107 : List LI := [(1, 3, 0, 0, 0), (7, 0, 0, 0, (-1)), (36, 1, 125, 0, 0), (1, 2, 0, 0, 0), (7, 0, 0, 0, 1), (36, 1, 121, 0, 0), (7, 0, 0, 0, 0), (40, 146, 0, 0, 0)]
def b_X12_joined_121 : List LI := [(7, 0, 0, 0, (-1)), (40, 146, 0, 0, 0)]
def b_X12_joined_125 : List LI := [(1, 2, 0, 0, 0), (7, 0, 0, 0, 1), (36, 1, 139, 0, 0), (3, 0, 0, 0, 0), (1, 3, 0, 0, 0), (1, 1, 0, 0, 0), (67, 230, 3, 12, 7), (40, 146, 0, 0, 0)]
def b_X12_joined_139 : List LI := [(3, 0, 0, 0, 0), (1, 3, 0, 0, 0), (1, 1, 0, 0, 0), (7, 0, 0, 0, 0), (67, 229, 4, 12, 9), (0, 146, 0, 0, 0)]
def b_X12_joined_146 : List LI := [(71, 0, 0, 0, 0)]
def cd_X12_joined : Nat → List LI := fun pc => if pc = 0 then b_X12_joined_0 else if pc = 19 then b_X12_joined_19 else if pc = 21 then b_X12_joined_21 else if pc = 26 then b_X12_joined_26 else if pc = 66 then b_X12_joined_66 else if pc = 70 then b_X12_joined_70 else if pc = 71 then b_X12_joined_71 else if pc = 93 then b_X12_joined_93 else if pc = 94 then b_X12_joined_94 else if pc = 101 then b_X12_joined_101 else if pc = 107 then b_X12_joined_107 else if pc = 121 then b_X12_joined_121 else if pc = 125 then b_X12_joined_125 else if pc = 139 then b_X12_joined_139 else if pc = 146 then b_X12_joined_146 else []
def b_X12_isTable_0 : List LI := [(1, 0, 0, 0, 0), (32, 0, 0, 0, 0), (8, 0, 0, 0, 0), (8, 0, 0, 0, 1), (67, 199, 3, 0, 12), (37, 0, 21, 0, 0), (1, 1, 0, 0, 0), (67, 201, 1, 0, 2), (37, 0, 21, 0, 0), (7, 0, 0, 0, 1), (40, 22, 0, 0, 0)]
def b_X12_isTable_21 : List LI := [(7, 0, 0, 0, 0), (0, 22, 0, 0, 0)]
def b_X12_isTable_22 : List LI := [(71, 1, 0, 0, 0)]
def cd_X12_isTable : Nat → List LI := fun pc => if pc = 0 then b_X12_isTable_0 else if pc = 21 then b_X12_isTable_21 else if pc = 22 then b_X12_isTable_22 else []
def b_X12_row_0 : List LI := [(1, 1, 0, 0, 0), (1, 2, 0, 0, 0), (67, 242, 2, 0, 4), (37, 0, 62, 0, 0), (3, 0, 0, 0, 0), (47, 12, 31, 14, 0), (7, 0, 0, 0, 8), (1, 1, 0, 0, 0), (12, 0, 0, 0, 0), (1, 2, 0, 0, 0), (10, 0, 0, 0, 0), (52, 0, 0, 0, 0), (7, 0, 0, 0, 12), (36, 0, 62, 0, 0), (1, 3, 0, 0, 0), (32, 0, 0, 0, 0), (8, 0, 0, 0, 0), (8, 0, 0, 0, 124), (67, 199, 3, 0, 12), (37, 0, 62, 0, 0), (1, 4, 0, 0, 0), (32, 0, 0, 0, 0), (8, 0, 0, 0, 0), (8, 0, 0, 0, 124), (67, 199, 3, 0, 12), (37, 0, 62, 0, 0), (1, 5, 0, 0, 0), (32, 0, 0, 0, 0), (8, 0, 0, 0, 0), (8, 0, 0, 0, 9), (67, 199, 3, 0, 12), (37, 1, 64, 0, 0), (0, 62, 0, 0, 0)]
def b_X12_row_62 : List LI := [(7, 0, 0, 0, (-1)), (71, 0, 0, 0, 0)]
def b_X12_row_64 : List LI := [(7, 0, 0, 0, 8), (1, 1, 0, 0, 0), (12, 0, 0, 0, 0), (1, 2, 0, 0, 0), (10, 0, 0, 0, 0), (4, 6, 0, 0, 0), (7, 0, 0, 0, 12), (1, 6, 0, 0, 0), (12, 0, 0, 0, 0), (3, 0, 0, 0, 0), (47, 12, 31, 14, 0), (1, 6, 0, 0, 0), (52, 0, 0, 0, 0), (10, 0, 0, 0, 0), (4, 7, 0, 0, 0), (3, 0, 0, 0, 0), (47, 12, 28, 14, 0), (1, 7, 0, 0, 0), (1, 3, 0, 0, 0), (57, 0, 0, 0, 0), (3, 0, 0, 0, 0), (47, 12, 29, 14, 0), (1, 7, 0, 0, 0), (1, 4, 0, 0, 0), (57, 0, 0, 0, 0), (3, 0, 0, 0, 0), (47, 12, 30, 14, 0), (1, 7, 0, 0, 0), (1, 5, 0, 0, 0), (57, 0, 0, 0, 0), (3, 0, 0, 0, 0), (47, 12, 31, 14, 0), (1, 6, 0, 0, 0), (43, 0, 0, 0, 0), (52, 0, 0, 0, 0), (7, 0, 0, 0, 1), (10, 0, 0, 0, 0), (57, 0, 0, 0, 0), (3, 0, 0, 0, 0), (47, 12, 31, 14, 0), (1, 6, 0, 0, 0), (52, 0, 0, 0, 0), (7, 0, 0, 0, 1), (11, 0, 0, 0, 0), (71, 0, 0, 0, 0)]
def cd_X12_row : Nat → List LI := fun pc => if pc = 0 then b_X12_row_0 else if pc = 62 then b_X12_row_62 else if pc = 64 then b_X12_row_64 else []
def b_X12_erase_0 : List LI := [(1, 1, 0, 0, 0), (1, 2, 0, 0, 0), (67, 242, 2, 0, 4), (37, 1, 10, 0, 0), (7, 0, 0, 0, (-1)), (71, 0, 0, 0, 0)]
def b_X12_erase_10 : List LI := [(3, 0, 0, 0, 0), (47, 12, 31, 14, 0), (7, 0, 0, 0, 8), (1, 1, 0, 0, 0), (12, 0, 0, 0, 0), (1, 2, 0, 0, 0), (10, 0, 0, 0, 0), (52, 0, 0, 0, 0), (4, 3, 0, 0, 0), (3, 0, 0, 0, 0), (47, 12, 31, 14, 0), (7, 0, 0, 0, 8), (1, 1, 0, 0, 0), (12, 0, 0, 0, 0), (1, 2, 0, 0, 0), (10, 0, 0, 0, 0), (7, 0, 0, 0, 0), (57, 0, 0, 0, 0), (1, 3, 0, 0, 0), (71, 0, 0, 0, 0)]
def cd_X12_erase : Nat → List LI := fun pc => if pc = 0 then b_X12_erase_0 else if pc = 10 then b_X12_erase_10 else []
def b_X12_isUnlike_0 : List LI := [(3, 0, 0, 0, 0), (47, 12, 31, 14, 0), (1, 1, 0, 0, 0), (52, 0, 0, 0, 0), (3, 0, 0, 0, 0), (47, 12, 31, 14, 0), (7, 0, 0, 0, 8), (1, 1, 0, 0, 0), (10, 0, 0, 0, 0), (52, 0, 0, 0, 0), (36, 1, 22, 0, 0), (7, 0, 0, 0, 1), (40, 23, 0, 0, 0)]
def b_X12_isUnlike_22 : List LI := [(7, 0, 0, 0, 0), (0, 23, 0, 0, 0)]
def b_X12_isUnlike_23 : List LI := [(4, 2, 0, 0, 0), (7, 0, 0, 0, 0), (4, 3, 0, 0, 0), (0, 26, 0, 0, 0)]
def b_X12_isUnlike_26 : List LI := [(1, 3, 0, 0, 0), (3, 0, 0, 0, 0), (47, 12, 31, 14, 0), (1, 1, 0, 0, 0), (52, 0, 0, 0, 0), (36, 3, 122, 0, 0), (1, 2, 0, 0, 0), (37, 0, 122, 0, 0), (7, 0, 0, 0, 12), (1, 1, 0, 0, 0), (12, 0, 0, 0, 0), (1, 3, 0, 0, 0), (10, 0, 0, 0, 0), (4, 4, 0, 0, 0), (7, 0, 0, 0, 12), (7, 0, 0, 0, 8), (1, 1, 0, 0, 0), (10, 0, 0, 0, 0), (12, 0, 0, 0, 0), (1, 3, 0, 0, 0), (10, 0, 0, 0, 0), (4, 5, 0, 0, 0), (3, 0, 0, 0, 0), (47, 12, 28, 14, 0), (1, 4, 0, 0, 0), (52, 0, 0, 0, 0), (3, 0, 0, 0, 0), (47, 12, 28, 14, 0), (1, 5, 0, 0, 0), (52, 0, 0, 0, 0), (36, 1, 114, 0, 0), (3, 0, 0, 0, 0), (47, 12, 29, 14, 0), (1, 4, 0, 0, 0), (52, 0, 0, 0, 0), (3, 0, 0, 0, 0), (47, 12, 29, 14, 0), (1, 5, 0, 0, 0), (52, 0, 0, 0, 0), (36, 1, 114, 0, 0), (3, 0, 0, 0, 0), (47, 12, 30, 14, 0), (1, 4, 0, 0, 0), (52, 0, 0, 0, 0), (3, 0, 0, 0, 0), (47, 12, 30, 14, 0), (1, 5, 0, 0, 0), (52, 0, 0, 0, 0), (36, 1, 114, 0, 0), (7, 0, 0, 0, 1), (40, 115, 0, 0, 0)]
def b_X12_isUnlike_114 : List LI := [(7, 0, 0, 0, 0), (0, 115, 0, 0, 0)]
def b_X12_isUnlike_115 : List LI := [(4, 2, 0, 0, 0), (35, 3, 0, 0, 1), (40, 26, 0, 0, 0)]
def b_X12_isUnlike_122 : List LI := [(1, 2, 0, 0, 0), (37, 1, 130, 0, 0), (7, 0, 0, 0, 1), (40, 131, 0, 0, 0)]
def b_X12_isUnlike_130 : List LI := [(7, 0, 0, 0, 0), (0, 131, 0, 0, 0)]
def b_X12_isUnlike_131 : List LI := [(71, 1, 0, 0, 0)]
def cd_X12_isUnlike : Nat → List LI := fun pc => if pc = 0 then b_X12_isUnlike_0 else if pc = 22 then b_X12_isUnlike_22 else if pc = 23 then b_X12_isUnlike_23 else if pc = 26 then b_X12_isUnlike_26 else if pc = 114 then b_X12_isUnlike_114 else if pc = 115 then b_X12_isUnlike_115 else if pc = 122 then b_X12_isUnlike_122 else if pc = 130 then b_X12_isUnlike_130 else if pc = 131 then b_X12_isUnlike_131 else []
def b_X12_unlikeMany_0 : List LI := [(7, 0, 0, 0, 0), (4, 1, 0, 0, 0), (7, 0, 0, 0, 0), (4, 2, 0, 0, 0), (0, 4, 0, 0, 0)]
def b_X12_unlikeMany_4 : List LI := [(1, 2, 0, 0, 0), (7, 0, 0, 0, 8), (36, 3, 32, 0, 0), (1, 1, 0, 0, 0), (3, 0, 0, 0, 0), (1, 2, 0, 0, 0), (67, 245, 2, 12, 5), (37, 0, 23, 0, 0), (7, 0, 0, 0, 1), (40, 24, 0, 0, 0)]
def b_X12_unlikeMany_23 : List LI := [(7, 0, 0, 0, 0), (0, 24, 0, 0, 0)]
def b_X12_unlikeMany_24 : List LI := [(10, 0, 0, 0, 0), (4, 1, 0, 0, 0), (35, 2, 0, 0, 1), (40, 4, 0, 0, 0)]
def b_X12_unlikeMany_32 : List LI := [(1, 1, 0, 0, 0), (71, 0, 0, 0, 0)]
def cd_X12_unlikeMany : Nat → List LI := fun pc => if pc = 0 then b_X12_unlikeMany_0 else if pc = 4 then b_X12_unlikeMany_4 else if pc = 23 then b_X12_unlikeMany_23 else if pc = 24 then b_X12_unlikeMany_24 else if pc = 32 then b_X12_unlikeMany_32 else []
def b_X12_renew_0 : List LI := [(3, 0, 0, 0, 0), (67, 246, 1, 12, 3), (4, 1, 0, 0, 0), (7, 0, 0, 0, 0), (4, 2, 0, 0, 0), (0, 7, 0, 0, 0)]
def b_X12_renew_7 : List LI := [(1, 2, 0, 0, 0), (7, 0, 0, 0, 8), (36, 3, 107, 0, 0), (3, 0, 0, 0, 0), (47, 12, 31, 14, 0), (1, 2, 0, 0, 0), (3, 0, 0, 0, 0), (47, 12, 31, 14, 0), (7, 0, 0, 0, 8), (1, 2, 0, 0, 0), (10, 0, 0, 0, 0), (52, 0, 0, 0, 0), (57, 0, 0, 0, 0), (7, 0, 0, 0, 0), (4, 3, 0, 0, 0), (0, 30, 0, 0, 0)]
def b_X12_renew_30 : List LI := [(1, 3, 0, 0, 0), (7, 0, 0, 0, 12), (36, 3, 101, 0, 0), (7, 0, 0, 0, 12), (1, 2, 0, 0, 0), (12, 0, 0, 0, 0), (1, 3, 0, 0, 0), (10, 0, 0, 0, 0), (4, 4, 0, 0, 0), (3, 0, 0, 0, 0), (47, 12, 28, 14, 0), (1, 4, 0, 0, 0), (3, 0, 0, 0, 0), (47, 12, 28, 14, 0), (7, 0, 0, 0, 96), (1, 4, 0, 0, 0), (10, 0, 0, 0, 0), (52, 0, 0, 0, 0), (57, 0, 0, 0, 0), (3, 0, 0, 0, 0), (47, 12, 29, 14, 0), (1, 4, 0, 0, 0), (3, 0, 0, 0, 0), (47, 12, 29, 14, 0), (7, 0, 0, 0, 96), (1, 4, 0, 0, 0), (10, 0, 0, 0, 0), (52, 0, 0, 0, 0), (57, 0, 0, 0, 0), (3, 0, 0, 0, 0), (47, 12, 30, 14, 0), (1, 4, 0, 0, 0), (3, 0, 0, 0, 0), (47, 12, 30, 14, 0), (7, 0, 0, 0, 96), (1, 4, 0, 0, 0), (10, 0, 0, 0, 0), (52, 0, 0, 0, 0), (57, 0, 0, 0, 0), (35, 3, 0, 0, 1), (40, 30, 0, 0, 0)]
def b_X12_renew_101 : List LI := [(35, 2, 0, 0, 1), (40, 7, 0, 0, 0)]
def b_X12_renew_107 : List LI := [(1, 1, 0, 0, 0), (71, 0, 0, 0, 0)]
def cd_X12_renew : Nat → List LI := fun pc => if pc = 0 then b_X12_renew_0 else if pc = 7 then b_X12_renew_7 else if pc = 30 then b_X12_renew_30 else if pc = 101 then b_X12_renew_101 else if pc = 107 then b_X12_renew_107 else []
def b_X12_line_0 : List LI := [(1, 1, 0, 0, 0), (67, 201, 1, 0, 2), (37, 0, 34, 0, 0), (1, 2, 0, 0, 0), (67, 201, 1, 0, 2), (37, 0, 34, 0, 0), (1, 1, 0, 0, 0), (1, 2, 0, 0, 0), (36, 0, 34, 0, 0), (3, 0, 0, 0, 0), (47, 12, 32, 16, 0), (7, 0, 0, 0, 8), (1, 1, 0, 0, 0), (12, 0, 0, 0, 0), (1, 2, 0, 0, 0), (10, 0, 0, 0, 0), (55, 0, 0, 0, 0), (1, 3, 0, 0, 0), (36, 1, 36, 0, 0), (0, 34, 0, 0, 0)]
def b_X12_line_34 : List LI := [(7, 0, 0, 0, 0), (71, 1, 0, 0, 0)]
def b_X12_line_36 : List LI := [(3, 0, 0, 0, 0), (47, 12, 32, 16, 0), (7, 0, 0, 0, 8), (1, 1, 0, 0, 0), (12, 0, 0, 0, 0), (1, 2, 0, 0, 0), (10, 0, 0, 0, 0), (1, 3, 0, 0, 0), (60, 0, 0, 0, 0), (3, 0, 0, 0, 0), (42, 0, 0, 0, 0), (45, 12, 34, 0, 0), (1, 3, 0, 0, 0), (37, 0, 61, 0, 0), (7, 0, 0, 0, 1), (40, 62, 0, 0, 0)]
def b_X12_line_61 : List LI := [(7, 0, 0, 0, (-1)), (0, 62, 0, 0, 0)]
def b_X12_line_62 : List LI := [(10, 0, 0, 0, 0), (48, 12, 34, 0, 0), (7, 0, 0, 0, 1), (71, 1, 0, 0, 0)]
def cd_X12_line : Nat → List LI := fun pc => if pc = 0 then b_X12_line_0 else if pc = 34 then b_X12_line_34 else if pc = 36 then b_X12_line_36 else if pc = 61 then b_X12_line_61 else if pc = 62 then b_X12_line_62 else []
def b_X12_entries_0 : List LI := [(1, 1, 0, 0, 0), (32, 0, 0, 0, 0), (8, 0, 0, 0, 0), (8, 0, 0, 0, 255), (67, 199, 3, 0, 12), (37, 1, 14, 0, 0), (7, 0, 0, 0, (-1)), (71, 0, 0, 0, 0)]
def b_X12_entries_14 : List LI := [(3, 0, 0, 0, 0), (45, 12, 33, 0, 0), (4, 2, 0, 0, 0), (3, 0, 0, 0, 0), (1, 1, 0, 0, 0), (48, 12, 33, 0, 0), (1, 2, 0, 0, 0), (71, 0, 0, 0, 0)]
def cd_X12_entries : Nat → List LI := fun pc => if pc = 0 then b_X12_entries_0 else if pc = 14 then b_X12_entries_14 else []
def b_X12_isField_0 : List LI := [(1, 0, 0, 0, 0), (37, 0, 11, 0, 0), (1, 0, 0, 0, 0), (1, 1, 0, 0, 0), (7, 0, 0, 0, 1), (10, 0, 0, 0, 0), (36, 1, 15, 0, 0), (0, 11, 0, 0, 0)]
def b_X12_isField_11 : List LI := [(7, 0, 0, 0, 1), (40, 16, 0, 0, 0)]
def b_X12_isField_15 : List LI := [(7, 0, 0, 0, 0), (0, 16, 0, 0, 0)]
def b_X12_isField_16 : List LI := [(71, 1, 0, 0, 0)]
def cd_X12_isField : Nat → List LI := fun pc => if pc = 0 then b_X12_isField_0 else if pc = 11 then b_X12_isField_11 else if pc = 15 then b_X12_isField_15 else if pc = 16 then b_X12_isField_16 else []
def b_X12_matches_0 : List LI := [(1, 0, 0, 0, 0), (7, 0, 0, 0, 25), (13, 0, 0, 0, 0), (1, 1, 0, 0, 0), (7, 0, 0, 0, 0), (67, 202, 2, 0, 4), (67, 250, 2, 0, 4), (37, 0, 49, 0, 0), (1, 0, 0, 0, 0), (7, 0, 0, 0, 5), (13, 0, 0, 0, 0), (7, 0, 0, 0, 5), (14, 0, 0, 0, 0), (1, 1, 0, 0, 0), (7, 0, 0, 0, 1), (67, 202, 2, 0, 4), (67, 250, 2, 0, 4), (37, 0, 49, 0, 0), (1, 0, 0, 0, 0), (7, 0, 0, 0, 5), (14, 0, 0, 0, 0), (1, 1, 0, 0, 0), (7, 0, 0, 0, 2), (67, 202, 2, 0, 4), (67, 250, 2, 0, 4), (37, 0, 49, 0, 0), (7, 0, 0, 0, 1), (40, 50, 0, 0, 0)]
def b_X12_matches_49 : List LI := [(7, 0, 0, 0, 0), (0, 50, 0, 0, 0)]
def b_X12_matches_50 : List LI := [(71, 1, 0, 0, 0)]
def cd_X12_matches : Nat → List LI := fun pc => if pc = 0 then b_X12_matches_0 else if pc = 49 then b_X12_matches_49 else if pc = 50 then b_X12_matches_50 else []
def b_X12_set_0 : List LI := [(1, 0, 0, 0, 0), (7, 0, 0, 0, 25), (13, 0, 0, 0, 0), (37, 5, 21, 0, 0), (1, 1, 0, 0, 0), (7, 0, 0, 0, 0), (1, 0, 0, 0, 0), (7, 0, 0, 0, 25), (13, 0, 0, 0, 0), (7, 0, 0, 0, 1), (11, 0, 0, 0, 0), (67, 203, 3, 0, 6), (40, 22, 0, 0, 0)]
def b_X12_set_21 : List LI := [(1, 1, 0, 0, 0), (0, 22, 0, 0, 0)]
def b_X12_set_22 : List LI := [(4, 2, 0, 0, 0), (1, 0, 0, 0, 0), (7, 0, 0, 0, 5), (13, 0, 0, 0, 0), (7, 0, 0, 0, 5), (14, 0, 0, 0, 0), (37, 5, 46, 0, 0), (1, 2, 0, 0, 0), (7, 0, 0, 0, 1), (1, 0, 0, 0, 0), (7, 0, 0, 0, 5), (13, 0, 0, 0, 0), (7, 0, 0, 0, 5), (14, 0, 0, 0, 0), (7, 0, 0, 0, 1), (11, 0, 0, 0, 0), (67, 203, 3, 0, 6), (40, 47, 0, 0, 0)]
def b_X12_set_46 : List LI := [(1, 2, 0, 0, 0), (0, 47, 0, 0, 0)]
def b_X12_set_47 : List LI := [(4, 2, 0, 0, 0), (1, 0, 0, 0, 0), (7, 0, 0, 0, 5), (14, 0, 0, 0, 0), (37, 5, 67, 0, 0), (1, 2, 0, 0, 0), (7, 0, 0, 0, 2), (1, 0, 0, 0, 0), (7, 0, 0, 0, 5), (14, 0, 0, 0, 0), (7, 0, 0, 0, 1), (11, 0, 0, 0, 0), (67, 203, 3, 0, 6), (40, 68, 0, 0, 0)]
def b_X12_set_67 : List LI := [(1, 2, 0, 0, 0), (0, 68, 0, 0, 0)]
def b_X12_set_68 : List LI := [(71, 0, 0, 0, 0)]
def cd_X12_set : Nat → List LI := fun pc => if pc = 0 then b_X12_set_0 else if pc = 21 then b_X12_set_21 else if pc = 22 then b_X12_set_22 else if pc = 46 then b_X12_set_46 else if pc = 47 then b_X12_set_47 else if pc = 67 then b_X12_set_67 else if pc = 68 then b_X12_set_68 else []
def b_X12_rowFor_0 : List LI := [(7, 0, 0, 0, 0), (4, 3, 0, 0, 0), (0, 2, 0, 0, 0)]
def b_X12_rowFor_2 : List LI := [(1, 3, 0, 0, 0), (3, 0, 0, 0, 0), (47, 12, 31, 14, 0), (1, 1, 0, 0, 0), (52, 0, 0, 0, 0), (36, 3, 36, 0, 0), (3, 0, 0, 0, 0), (47, 12, 28, 14, 0), (7, 0, 0, 0, 12), (1, 1, 0, 0, 0), (12, 0, 0, 0, 0), (1, 3, 0, 0, 0), (10, 0, 0, 0, 0), (52, 0, 0, 0, 0), (1, 2, 0, 0, 0), (67, 251, 2, 0, 4), (37, 1, 36, 0, 0), (35, 3, 0, 0, 1), (40, 2, 0, 0, 0)]
def b_X12_rowFor_36 : List LI := [(1, 3, 0, 0, 0), (3, 0, 0, 0, 0), (47, 12, 31, 14, 0), (1, 1, 0, 0, 0), (52, 0, 0, 0, 0), (36, 3, 55, 0, 0), (7, 0, 0, 0, 12), (1, 1, 0, 0, 0), (12, 0, 0, 0, 0), (1, 3, 0, 0, 0), (10, 0, 0, 0, 0), (40, 56, 0, 0, 0)]
def b_X12_rowFor_55 : List LI := [(7, 0, 0, 0, (-1)), (0, 56, 0, 0, 0)]
def b_X12_rowFor_56 : List LI := [(71, 0, 0, 0, 0)]
def cd_X12_rowFor : Nat → List LI := fun pc => if pc = 0 then b_X12_rowFor_0 else if pc = 2 then b_X12_rowFor_2 else if pc = 36 then b_X12_rowFor_36 else if pc = 55 then b_X12_rowFor_55 else if pc = 56 then b_X12_rowFor_56 else []
def b_X12_step_0 : List LI := [(3, 0, 0, 0, 0), (3, 0, 0, 0, 0), (1, 1, 0, 0, 0), (1, 2, 0, 0, 0), (67, 253, 3, 12, 7), (48, 12, 40, 0, 0), (3, 0, 0, 0, 0), (7, 0, 0, 0, 2), (48, 12, 41, 0, 0), (3, 0, 0, 0, 0), (45, 12, 40, 0, 0), (7, 0, 0, 0, (-1)), (36, 0, 37, 0, 0), (3, 0, 0, 0, 0), (47, 12, 30, 14, 0), (3, 0, 0, 0, 0), (45, 12, 40, 0, 0), (52, 0, 0, 0, 0), (7, 0, 0, 0, 9), (36, 1, 39, 0, 0), (0, 37, 0, 0, 0)]
def b_X12_step_37 : List LI := [(1, 2, 0, 0, 0), (71, 0, 0, 0, 0)]
def b_X12_step_39 : List LI := [(3, 0, 0, 0, 0), (47, 12, 29, 14, 0), (3, 0, 0, 0, 0), (45, 12, 40, 0, 0), (52, 0, 0, 0, 0), (1, 2, 0, 0, 0), (67, 252, 2, 0, 4), (4, 3, 0, 0, 0), (1, 2, 0, 0, 0), (7, 0, 0, 0, 6), (17, 0, 0, 0, 0), (4, 4, 0, 0, 0), (3, 0, 0, 0, 0), (47, 12, 30, 14, 0), (3, 0, 0, 0, 0), (45, 12, 40, 0, 0), (52, 0, 0, 0, 0), (7, 0, 0, 0, 8), (36, 0, 110, 0, 0), (3, 0, 0, 0, 0), (47, 12, 30, 14, 0), (3, 0, 0, 0, 0), (45, 12, 40, 0, 0), (52, 0, 0, 0, 0), (1, 4, 0, 0, 0), (36, 0, 135, 0, 0), (3, 0, 0, 0, 0), (47, 12, 32, 16, 0), (7, 0, 0, 0, 8), (1, 4, 0, 0, 0), (12, 0, 0, 0, 0), (3, 0, 0, 0, 0), (47, 12, 30, 14, 0), (3, 0, 0, 0, 0), (45, 12, 40, 0, 0), (52, 0, 0, 0, 0), (10, 0, 0, 0, 0), (55, 0, 0, 0, 0), (37, 0, 135, 0, 0), (0, 110, 0, 0, 0)]
def b_X12_step_110 : List LI := [(3, 0, 0, 0, 0), (3, 0, 0, 0, 0), (47, 12, 30, 14, 0), (3, 0, 0, 0, 0), (45, 12, 40, 0, 0), (52, 0, 0, 0, 0), (7, 0, 0, 0, 8), (36, 1, 129, 0, 0), (7, 0, 0, 0, 1), (40, 130, 0, 0, 0)]
def b_X12_step_129 : List LI := [(7, 0, 0, 0, 2), (0, 130, 0, 0, 0)]
def b_X12_step_130 : List LI := [(48, 12, 41, 0, 0), (1, 3, 0, 0, 0), (71, 0, 0, 0, 0)]
def b_X12_step_135 : List LI := [(3, 0, 0, 0, 0), (7, 0, 0, 0, 0), (48, 12, 41, 0, 0), (1, 3, 0, 0, 0), (7, 0, 0, 0, 3), (3, 0, 0, 0, 0), (47, 12, 30, 14, 0), (3, 0, 0, 0, 0), (45, 12, 40, 0, 0), (52, 0, 0, 0, 0), (67, 203, 3, 0, 6), (71, 0, 0, 0, 0)]
def cd_X12_step : Nat → List LI := fun pc => if pc = 0 then b_X12_step_0 else if pc = 37 then b_X12_step_37 else if pc = 39 then b_X12_step_39 else if pc = 110 then b_X12_step_110 else if pc = 129 then b_X12_step_129 else if pc = 130 then b_X12_step_130 else if pc = 135 then b_X12_step_135 else []
def b_X12_endsAs_0 : List LI := [(3, 0, 0, 0, 0), (42, 0, 0, 0, 0), (45, 12, 39, 0, 0), (7, 0, 0, 0, 1), (10, 0, 0, 0, 0), (48, 12, 39, 0, 0), (1, 1, 0, 0, 0), (4, 3, 0, 0, 0), (3, 0, 0, 0, 0), (7, 0, 0, 0, 0), (48, 12, 38, 0, 0), (0, 17, 0, 0, 0)]
def b_X12_endsAs_17 : List LI := [(3, 0, 0, 0, 0), (47, 12, 36, 14, 0), (1, 3, 0, 0, 0), (52, 0, 0, 0, 0), (3, 0, 0, 0, 0), (45, 12, 39, 0, 0), (36, 1, 33, 0, 0), (7, 0, 0, 0, (-3)), (71, 0, 0, 0, 0)]
def b_X12_endsAs_33 : List LI := [(3, 0, 0, 0, 0), (47, 12, 36, 14, 0), (1, 3, 0, 0, 0), (3, 0, 0, 0, 0), (45, 12, 39, 0, 0), (57, 0, 0, 0, 0), (1, 3, 0, 0, 0), (7, 0, 0, 0, 6), (17, 0, 0, 0, 0), (4, 4, 0, 0, 0), (3, 0, 0, 0, 0), (7, 0, 0, 0, 8), (1, 2, 0, 0, 0), (1, 4, 0, 0, 0), (17, 0, 0, 0, 0), (7, 0, 0, 0, 1), (19, 0, 0, 0, 0), (12, 0, 0, 0, 0), (1, 4, 0, 0, 0), (10, 0, 0, 0, 0), (1, 3, 0, 0, 0), (67, 254, 3, 12, 7), (4, 5, 0, 0, 0), (3, 0, 0, 0, 0), (47, 12, 35, 14, 0), (3, 0, 0, 0, 0), (45, 12, 38, 0, 0), (3, 0, 0, 0, 0), (45, 12, 40, 0, 0), (7, 0, 0, 0, (-1)), (36, 1, 89, 0, 0), (7, 0, 0, 0, (-2)), (40, 102, 0, 0, 0)]
def b_X12_endsAs_89 : List LI := [(7, 0, 0, 0, 16), (1, 4, 0, 0, 0), (12, 0, 0, 0, 0), (3, 0, 0, 0, 0), (45, 12, 40, 0, 0), (7, 0, 0, 0, 12), (14, 0, 0, 0, 0), (10, 0, 0, 0, 0), (0, 102, 0, 0, 0)]
def b_X12_endsAs_102 : List LI := [(57, 0, 0, 0, 0), (3, 0, 0, 0, 0), (42, 0, 0, 0, 0), (45, 12, 38, 0, 0), (7, 0, 0, 0, 1), (10, 0, 0, 0, 0), (48, 12, 38, 0, 0), (3, 0, 0, 0, 0), (45, 12, 41, 0, 0), (37, 5, 136, 0, 0), (3, 0, 0, 0, 0), (45, 12, 41, 0, 0), (7, 0, 0, 0, 1), (36, 1, 133, 0, 0), (1, 5, 0, 0, 0), (40, 135, 0, 0, 0)]
def b_X12_endsAs_133 : List LI := [(7, 0, 0, 0, (-2)), (0, 135, 0, 0, 0)]
def b_X12_endsAs_135 : List LI := [(71, 0, 0, 0, 0)]
def b_X12_endsAs_136 : List LI := [(1, 5, 0, 0, 0), (4, 3, 0, 0, 0), (40, 17, 0, 0, 0)]
def cd_X12_endsAs : Nat → List LI := fun pc => if pc = 0 then b_X12_endsAs_0 else if pc = 17 then b_X12_endsAs_17 else if pc = 33 then b_X12_endsAs_33 else if pc = 89 then b_X12_endsAs_89 else if pc = 102 then b_X12_endsAs_102 else if pc = 133 then b_X12_endsAs_133 else if pc = 135 then b_X12_endsAs_135 else if pc = 136 then b_X12_endsAs_136 else []
def b_X12_ends_0 : List LI := [(1, 1, 0, 0, 0), (67, 200, 1, 0, 2), (37, 0, 19, 0, 0), (1, 2, 0, 0, 0), (32, 0, 0, 0, 0), (8, 0, 0, 0, 0), (8, 0, 0, 0, 255), (67, 199, 3, 0, 12), (37, 1, 21, 0, 0), (0, 19, 0, 0, 0)]
def b_X12_ends_19 : List LI := [(7, 0, 0, 0, (-1)), (71, 0, 0, 0, 0)]
def b_X12_ends_21 : List LI := [(3, 0, 0, 0, 0), (1, 1, 0, 0, 0), (1, 2, 0, 0, 0), (67, 255, 3, 12, 7), (4, 3, 0, 0, 0), (3, 0, 0, 0, 0), (3, 0, 0, 0, 0), (45, 12, 38, 0, 0), (48, 12, 37, 0, 0), (7, 0, 0, 0, 0), (4, 4, 0, 0, 0), (0, 39, 0, 0, 0)]
def b_X12_ends_39 : List LI := [(1, 4, 0, 0, 0), (3, 0, 0, 0, 0), (45, 12, 38, 0, 0), (36, 3, 68, 0, 0), (3, 0, 0, 0, 0), (47, 12, 45, 14, 0), (1, 4, 0, 0, 0), (3, 0, 0, 0, 0), (47, 12, 35, 14, 0), (1, 4, 0, 0, 0), (52, 0, 0, 0, 0), (57, 0, 0, 0, 0), (35, 4, 0, 0, 1), (40, 39, 0, 0, 0)]
def b_X12_ends_68 : List LI := [(1, 3, 0, 0, 0), (71, 0, 0, 0, 0)]
def cd_X12_ends : Nat → List LI := fun pc => if pc = 0 then b_X12_ends_0 else if pc = 19 then b_X12_ends_19 else if pc = 21 then b_X12_ends_21 else if pc = 39 then b_X12_ends_39 else if pc = 68 then b_X12_ends_68 else []
def b_X12_way_0 : List LI := [(1, 1, 0, 0, 0), (32, 0, 0, 0, 0), (8, 0, 0, 0, 0), (3, 0, 0, 0, 0), (45, 12, 37, 0, 0), (7, 0, 0, 0, 1), (11, 0, 0, 0, 0), (32, 0, 0, 0, 0), (67, 199, 3, 0, 12), (37, 0, 25, 0, 0), (3, 0, 0, 0, 0), (47, 12, 45, 14, 0), (1, 1, 0, 0, 0), (52, 0, 0, 0, 0), (40, 26, 0, 0, 0)]
def b_X12_way_25 : List LI := [(7, 0, 0, 0, (-1)), (0, 26, 0, 0, 0)]
def b_X12_way_26 : List LI := [(71, 0, 0, 0, 0)]
def cd_X12_way : Nat → List LI := fun pc => if pc = 0 then b_X12_way_0 else if pc = 25 then b_X12_way_25 else if pc = 26 then b_X12_way_26 else []
def b_X12_enters_0 : List LI := [(3, 0, 0, 0, 0), (45, 12, 33, 0, 0), (1, 1, 0, 0, 0), (7, 0, 0, 0, 6), (17, 0, 0, 0, 0), (17, 0, 0, 0, 0), (7, 0, 0, 0, 1), (19, 0, 0, 0, 0), (7, 0, 0, 0, 1), (36, 1, 19, 0, 0), (7, 0, 0, 0, 1), (40, 20, 0, 0, 0)]
def b_X12_enters_19 : List LI := [(7, 0, 0, 0, 0), (0, 20, 0, 0, 0)]
def b_X12_enters_20 : List LI := [(71, 1, 0, 0, 0)]
def cd_X12_enters : Nat → List LI := fun pc => if pc = 0 then b_X12_enters_0 else if pc = 19 then b_X12_enters_19 else if pc = 20 then b_X12_enters_20 else []
def b_X12_isShown_0 : List LI := [(3, 0, 0, 0, 0), (1, 2, 0, 0, 0), (1, 3, 0, 0, 0), (67, 255, 3, 12, 7), (4, 4, 0, 0, 0), (1, 4, 0, 0, 0), (37, 3, 30, 0, 0), (3, 0, 0, 0, 0), (1, 1, 0, 0, 0), (1, 2, 0, 0, 0), (67, 230, 3, 12, 7), (37, 1, 26, 0, 0), (7, 0, 0, 0, 1), (40, 56, 0, 0, 0)]
def b_X12_isShown_26 : List LI := [(7, 0, 0, 0, 0), (40, 56, 0, 0, 0)]
def b_X12_isShown_30 : List LI := [(3, 0, 0, 0, 0), (1, 1, 0, 0, 0), (1, 2, 0, 0, 0), (67, 230, 3, 12, 7), (7, 0, 0, 0, 1), (36, 1, 55, 0, 0), (3, 0, 0, 0, 0), (1, 1, 0, 0, 0), (1, 2, 0, 0, 0), (1, 4, 0, 0, 0), (67, 228, 4, 12, 9), (37, 0, 55, 0, 0), (7, 0, 0, 0, 1), (40, 56, 0, 0, 0)]
def b_X12_isShown_55 : List LI := [(7, 0, 0, 0, 0), (0, 56, 0, 0, 0)]
def b_X12_isShown_56 : List LI := [(71, 1, 0, 0, 0)]
def cd_X12_isShown : Nat → List LI := fun pc => if pc = 0 then b_X12_isShown_0 else if pc = 26 then b_X12_isShown_26 else if pc = 30 then b_X12_isShown_30 else if pc = 55 then b_X12_isShown_55 else if pc = 56 then b_X12_isShown_56 else []
def b_X12_shownBut_0 : List LI := [(7, 0, 0, 0, 0), (4, 3, 0, 0, 0), (0, 2, 0, 0, 0)]
def b_X12_shownBut_2 : List LI := [(1, 3, 0, 0, 0), (7, 0, 0, 0, 512), (36, 3, 35, 0, 0), (3, 0, 0, 0, 0), (1, 3, 0, 0, 0), (67, 258, 2, 12, 5), (37, 0, 29, 0, 0), (3, 0, 0, 0, 0), (1, 1, 0, 0, 0), (1, 3, 0, 0, 0), (1, 2, 0, 0, 0), (67, 259, 4, 12, 9), (37, 1, 29, 0, 0), (1, 3, 0, 0, 0), (71, 0, 0, 0, 0)]
def b_X12_shownBut_29 : List LI := [(35, 3, 0, 0, 1), (40, 2, 0, 0, 0)]
def b_X12_shownBut_35 : List LI := [(7, 0, 0, 0, (-1)), (71, 0, 0, 0, 0)]
def cd_X12_shownBut : Nat → List LI := fun pc => if pc = 0 then b_X12_shownBut_0 else if pc = 2 then b_X12_shownBut_2 else if pc = 29 then b_X12_shownBut_29 else if pc = 35 then b_X12_shownBut_35 else []
def b_X12_shown_0 : List LI := [(3, 0, 0, 0, 0), (1, 1, 0, 0, 0), (67, 227, 2, 12, 5), (37, 0, 29, 0, 0), (1, 2, 0, 0, 0), (32, 0, 0, 0, 0), (8, 0, 0, 0, 0), (8, 0, 0, 0, 255), (67, 199, 3, 0, 12), (37, 0, 29, 0, 0), (3, 0, 0, 0, 0), (1, 1, 0, 0, 0), (1, 2, 0, 0, 0), (67, 260, 3, 12, 7), (40, 31, 0, 0, 0)]
def b_X12_shown_29 : List LI := [(7, 0, 0, 0, (-2)), (0, 31, 0, 0, 0)]
def b_X12_shown_31 : List LI := [(71, 0, 0, 0, 0)]
def cd_X12_shown : Nat → List LI := fun pc => if pc = 0 then b_X12_shown_0 else if pc = 29 then b_X12_shown_29 else if pc = 31 then b_X12_shown_31 else []
def b_X12_guessed_0 : List LI := [(1, 1, 0, 0, 0), (32, 0, 0, 0, 0), (8, 0, 0, 0, 0), (8, 0, 0, 0, 255), (67, 199, 3, 0, 12), (37, 1, 14, 0, 0), (7, 0, 0, 0, (-1)), (71, 0, 0, 0, 0)]
def b_X12_guessed_14 : List LI := [(7, 0, 0, 0, 0), (4, 2, 0, 0, 0), (7, 0, 0, 0, 0), (4, 3, 0, 0, 0), (0, 18, 0, 0, 0)]
def b_X12_guessed_18 : List LI := [(1, 3, 0, 0, 0), (3, 0, 0, 0, 0), (45, 12, 4, 0, 0), (36, 3, 52, 0, 0), (1, 2, 0, 0, 0), (3, 0, 0, 0, 0), (1, 3, 0, 0, 0), (1, 1, 0, 0, 0), (67, 260, 3, 12, 7), (7, 0, 0, 0, (-1)), (36, 1, 43, 0, 0), (7, 0, 0, 0, 1), (1, 3, 0, 0, 0), (16, 0, 0, 0, 0), (40, 44, 0, 0, 0)]
def b_X12_guessed_43 : List LI := [(7, 0, 0, 0, 0), (0, 44, 0, 0, 0)]
def b_X12_guessed_44 : List LI := [(20, 0, 0, 0, 0), (4, 2, 0, 0, 0), (35, 3, 0, 0, 1), (40, 18, 0, 0, 0)]
def b_X12_guessed_52 : List LI := [(1, 2, 0, 0, 0), (71, 0, 0, 0, 0)]
def cd_X12_guessed : Nat → List LI := fun pc => if pc = 0 then b_X12_guessed_0 else if pc = 14 then b_X12_guessed_14 else if pc = 18 then b_X12_guessed_18 else if pc = 43 then b_X12_guessed_43 else if pc = 44 then b_X12_guessed_44 else if pc = 52 then b_X12_guessed_52 else []
def b_X12_deal_0 : List LI := [(1, 1, 0, 0, 0), (7, 0, 0, 0, (-1)), (36, 0, 16, 0, 0), (3, 0, 0, 0, 0), (47, 12, 30, 14, 0), (1, 1, 0, 0, 0), (52, 0, 0, 0, 0), (7, 0, 0, 0, 9), (36, 1, 20, 0, 0), (0, 16, 0, 0, 0)]
def b_X12_deal_16 : List LI := [(7, 0, 0, 0, (-1)), (40, 40, 0, 0, 0)]
def b_X12_deal_20 : List LI := [(7, 0, 0, 0, 16), (3, 0, 0, 0, 0), (47, 12, 29, 14, 0), (1, 1, 0, 0, 0), (52, 0, 0, 0, 0), (1, 2, 0, 0, 0), (67, 252, 2, 0, 4), (12, 0, 0, 0, 0), (3, 0, 0, 0, 0), (47, 12, 30, 14, 0), (1, 1, 0, 0, 0), (52, 0, 0, 0, 0), (10, 0, 0, 0, 0), (0, 40, 0, 0, 0)]
def b_X12_deal_40 : List LI := [(71, 0, 0, 0, 0)]
def cd_X12_deal : Nat → List LI := fun pc => if pc = 0 then b_X12_deal_0 else if pc = 16 then b_X12_deal_16 else if pc = 20 then b_X12_deal_20 else if pc = 40 then b_X12_deal_40 else []
def b_X12_packed_0 : List LI := [(1, 1, 0, 0, 0), (1, 2, 0, 0, 0), (67, 242, 2, 0, 4), (37, 1, 10, 0, 0), (7, 0, 0, 0, (-1)), (71, 0, 0, 0, 0)]
def b_X12_packed_10 : List LI := [(7, 0, 0, 0, 8), (1, 1, 0, 0, 0), (12, 0, 0, 0, 0), (1, 2, 0, 0, 0), (10, 0, 0, 0, 0), (4, 3, 0, 0, 0), (3, 0, 0, 0, 0), (47, 12, 31, 14, 0), (1, 3, 0, 0, 0), (52, 0, 0, 0, 0), (4, 4, 0, 0, 0), (7, 0, 0, 0, 0), (4, 5, 0, 0, 0), (0, 28, 0, 0, 0)]
def b_X12_packed_28 : List LI := [(1, 5, 0, 0, 0), (7, 0, 0, 0, 64), (36, 3, 132, 0, 0), (7, 0, 0, 0, 64), (1, 2, 0, 0, 0), (12, 0, 0, 0, 0), (1, 5, 0, 0, 0), (10, 0, 0, 0, 0), (4, 6, 0, 0, 0), (3, 0, 0, 0, 0), (47, 12, 47, 14, 0), (1, 5, 0, 0, 0), (3, 0, 0, 0, 0), (3, 0, 0, 0, 0), (1, 3, 0, 0, 0), (1, 6, 0, 0, 0), (67, 253, 3, 12, 7), (1, 6, 0, 0, 0), (67, 263, 3, 12, 7), (57, 0, 0, 0, 0), (3, 0, 0, 0, 0), (47, 12, 46, 14, 0), (1, 5, 0, 0, 0), (7, 0, 0, 0, 0), (57, 0, 0, 0, 0), (7, 0, 0, 0, 0), (4, 7, 0, 0, 0), (0, 75, 0, 0, 0)]
def b_X12_packed_75 : List LI := [(1, 7, 0, 0, 0), (1, 4, 0, 0, 0), (36, 3, 126, 0, 0), (3, 0, 0, 0, 0), (47, 12, 46, 14, 0), (1, 5, 0, 0, 0), (43, 0, 0, 0, 0), (52, 0, 0, 0, 0), (3, 0, 0, 0, 0), (47, 12, 28, 14, 0), (7, 0, 0, 0, 12), (1, 3, 0, 0, 0), (12, 0, 0, 0, 0), (1, 7, 0, 0, 0), (10, 0, 0, 0, 0), (52, 0, 0, 0, 0), (1, 6, 0, 0, 0), (67, 251, 2, 0, 4), (37, 0, 117, 0, 0), (7, 0, 0, 0, 1), (1, 7, 0, 0, 0), (16, 0, 0, 0, 0), (40, 118, 0, 0, 0)]
def b_X12_packed_117 : List LI := [(7, 0, 0, 0, 0), (0, 118, 0, 0, 0)]
def b_X12_packed_118 : List LI := [(20, 0, 0, 0, 0), (57, 0, 0, 0, 0), (35, 7, 0, 0, 1), (40, 75, 0, 0, 0)]
def b_X12_packed_126 : List LI := [(35, 5, 0, 0, 1), (40, 28, 0, 0, 0)]
def b_X12_packed_132 : List LI := [(7, 0, 0, 0, 1), (1, 4, 0, 0, 0), (16, 0, 0, 0, 0), (7, 0, 0, 0, 1), (11, 0, 0, 0, 0), (4, 5, 0, 0, 0), (1, 4, 0, 0, 0), (4, 6, 0, 0, 0), (7, 0, 0, 0, 0), (4, 7, 0, 0, 0), (0, 147, 0, 0, 0)]
def b_X12_packed_147 : List LI := [(1, 7, 0, 0, 0), (7, 0, 0, 0, 1), (1, 4, 0, 0, 0), (16, 0, 0, 0, 0), (36, 3, 195, 0, 0), (1, 7, 0, 0, 0), (67, 265, 1, 0, 2), (4, 8, 0, 0, 0), (1, 8, 0, 0, 0), (1, 6, 0, 0, 0), (36, 3, 189, 0, 0), (3, 0, 0, 0, 0), (1, 3, 0, 0, 0), (1, 2, 0, 0, 0), (1, 7, 0, 0, 0), (67, 266, 4, 12, 9), (37, 0, 189, 0, 0), (1, 7, 0, 0, 0), (4, 5, 0, 0, 0), (1, 8, 0, 0, 0), (4, 6, 0, 0, 0), (0, 189, 0, 0, 0)]
def b_X12_packed_189 : List LI := [(35, 7, 0, 0, 1), (40, 147, 0, 0, 0)]
def b_X12_packed_195 : List LI := [(1, 5, 0, 0, 0), (71, 0, 0, 0, 0)]
def cd_X12_packed : Nat → List LI := fun pc => if pc = 0 then b_X12_packed_0 else if pc = 10 then b_X12_packed_10 else if pc = 28 then b_X12_packed_28 else if pc = 75 then b_X12_packed_75 else if pc = 117 then b_X12_packed_117 else if pc = 118 then b_X12_packed_118 else if pc = 126 then b_X12_packed_126 else if pc = 132 then b_X12_packed_132 else if pc = 147 then b_X12_packed_147 else if pc = 189 then b_X12_packed_189 else if pc = 195 then b_X12_packed_195 else []
def b_X12_bits_0 : List LI := [(7, 0, 0, 0, 0), (4, 1, 0, 0, 0), (1, 0, 0, 0, 0), (4, 2, 0, 0, 0), (0, 4, 0, 0, 0)]
def b_X12_bits_4 : List LI := [(1, 2, 0, 0, 0), (37, 0, 20, 0, 0), (35, 1, 0, 0, 1), (1, 2, 0, 0, 0), (1, 2, 0, 0, 0), (7, 0, 0, 0, 1), (11, 0, 0, 0, 0), (19, 0, 0, 0, 0), (4, 2, 0, 0, 0), (40, 4, 0, 0, 0)]
def b_X12_bits_20 : List LI := [(1, 1, 0, 0, 0), (71, 0, 0, 0, 0)]
def cd_X12_bits : Nat → List LI := fun pc => if pc = 0 then b_X12_bits_0 else if pc = 4 then b_X12_bits_4 else if pc = 20 then b_X12_bits_20 else []
def b_X12_dealsAlike_0 : List LI := [(7, 0, 0, 0, 1), (4, 4, 0, 0, 0), (7, 0, 0, 0, 0), (4, 5, 0, 0, 0), (0, 6, 0, 0, 0)]
def b_X12_dealsAlike_6 : List LI := [(1, 5, 0, 0, 0), (7, 0, 0, 0, 64), (36, 3, 106, 0, 0), (1, 4, 0, 0, 0), (37, 0, 106, 0, 0), (3, 0, 0, 0, 0), (47, 12, 46, 14, 0), (1, 5, 0, 0, 0), (52, 0, 0, 0, 0), (1, 3, 0, 0, 0), (19, 0, 0, 0, 0), (4, 6, 0, 0, 0), (7, 0, 0, 0, 0), (4, 7, 0, 0, 0), (0, 32, 0, 0, 0)]
def b_X12_dealsAlike_32 : List LI := [(1, 6, 0, 0, 0), (1, 7, 0, 0, 0), (17, 0, 0, 0, 0), (37, 0, 56, 0, 0), (1, 6, 0, 0, 0), (1, 7, 0, 0, 0), (17, 0, 0, 0, 0), (7, 0, 0, 0, 1), (19, 0, 0, 0, 0), (37, 1, 56, 0, 0), (35, 7, 0, 0, 1), (40, 32, 0, 0, 0)]
def b_X12_dealsAlike_56 : List LI := [(3, 0, 0, 0, 0), (1, 6, 0, 0, 0), (37, 1, 66, 0, 0), (7, 0, 0, 0, (-1)), (40, 73, 0, 0, 0)]
def b_X12_dealsAlike_66 : List LI := [(7, 0, 0, 0, 12), (1, 1, 0, 0, 0), (12, 0, 0, 0, 0), (1, 7, 0, 0, 0), (10, 0, 0, 0, 0), (0, 73, 0, 0, 0)]
def b_X12_dealsAlike_73 : List LI := [(7, 0, 0, 0, 64), (1, 2, 0, 0, 0), (12, 0, 0, 0, 0), (1, 5, 0, 0, 0), (10, 0, 0, 0, 0), (67, 263, 3, 12, 7), (3, 0, 0, 0, 0), (47, 12, 47, 14, 0), (1, 5, 0, 0, 0), (52, 0, 0, 0, 0), (36, 1, 97, 0, 0), (7, 0, 0, 0, 1), (40, 98, 0, 0, 0)]
def b_X12_dealsAlike_97 : List LI := [(7, 0, 0, 0, 0), (0, 98, 0, 0, 0)]
def b_X12_dealsAlike_98 : List LI := [(4, 4, 0, 0, 0), (35, 5, 0, 0, 1), (40, 6, 0, 0, 0)]
def b_X12_dealsAlike_106 : List LI := [(1, 4, 0, 0, 0), (71, 1, 0, 0, 0)]
def cd_X12_dealsAlike : Nat → List LI := fun pc => if pc = 0 then b_X12_dealsAlike_0 else if pc = 6 then b_X12_dealsAlike_6 else if pc = 32 then b_X12_dealsAlike_32 else if pc = 56 then b_X12_dealsAlike_56 else if pc = 66 then b_X12_dealsAlike_66 else if pc = 73 then b_X12_dealsAlike_73 else if pc = 97 then b_X12_dealsAlike_97 else if pc = 98 then b_X12_dealsAlike_98 else if pc = 106 then b_X12_dealsAlike_106 else []
def b_X12_ends__0 : List LI := [(7, 0, 0, 0, 0), (4, 1, 0, 0, 0), (0, 2, 0, 0, 0)]
def b_X12_ends__2 : List LI := [(1, 1, 0, 0, 0), (7, 0, 0, 0, 512), (36, 3, 41, 0, 0), (3, 0, 0, 0, 0), (47, 12, 43, 14, 0), (1, 1, 0, 0, 0), (3, 0, 0, 0, 0), (1, 1, 0, 0, 0), (7, 0, 0, 0, 0), (67, 255, 3, 12, 7), (57, 0, 0, 0, 0), (3, 0, 0, 0, 0), (47, 12, 44, 14, 0), (1, 1, 0, 0, 0), (3, 0, 0, 0, 0), (1, 1, 0, 0, 0), (7, 0, 0, 0, 255), (67, 255, 3, 12, 7), (57, 0, 0, 0, 0), (35, 1, 0, 0, 1), (40, 2, 0, 0, 0)]
def b_X12_ends__41 : List LI := [(74, 0, 0, 0, 0)]
def cd_X12_ends_ : Nat → List LI := fun pc => if pc = 0 then b_X12_ends__0 else if pc = 2 then b_X12_ends__2 else if pc = 41 then b_X12_ends__41 else []
def b_X12_isNeither_0 : List LI := [(1, 2, 0, 0, 0), (3, 0, 0, 0, 0), (47, 12, 43, 14, 0), (1, 1, 0, 0, 0), (52, 0, 0, 0, 0), (36, 0, 24, 0, 0), (1, 2, 0, 0, 0), (3, 0, 0, 0, 0), (47, 12, 44, 14, 0), (1, 1, 0, 0, 0), (52, 0, 0, 0, 0), (36, 0, 24, 0, 0), (7, 0, 0, 0, 1), (40, 25, 0, 0, 0)]
def b_X12_isNeither_24 : List LI := [(7, 0, 0, 0, 0), (0, 25, 0, 0, 0)]
def b_X12_isNeither_25 : List LI := [(71, 1, 0, 0, 0)]
def cd_X12_isNeither : Nat → List LI := fun pc => if pc = 0 then b_X12_isNeither_0 else if pc = 24 then b_X12_isNeither_24 else if pc = 25 then b_X12_isNeither_25 else []
def b_X12_writes_0 : List LI := [(3, 0, 0, 0, 0), (67, 267, 1, 12, 3), (7, 0, 0, 0, 0), (4, 1, 0, 0, 0), (7, 0, 0, 0, 0), (4, 2, 0, 0, 0), (0, 8, 0, 0, 0)]
def b_X12_writes_8 : List LI := [(1, 2, 0, 0, 0), (7, 0, 0, 0, 8), (36, 3, 38, 0, 0), (1, 1, 0, 0, 0), (3, 0, 0, 0, 0), (1, 2, 0, 0, 0), (67, 245, 2, 12, 5), (37, 0, 29, 0, 0), (7, 0, 0, 0, 1), (1, 2, 0, 0, 0), (16, 0, 0, 0, 0), (40, 30, 0, 0, 0)]
def b_X12_writes_29 : List LI := [(7, 0, 0, 0, 0), (0, 30, 0, 0, 0)]
def b_X12_writes_30 : List LI := [(20, 0, 0, 0, 0), (4, 1, 0, 0, 0), (35, 2, 0, 0, 1), (40, 8, 0, 0, 0)]
def b_X12_writes_38 : List LI := [(7, 0, 0, 0, 0), (4, 2, 0, 0, 0), (0, 40, 0, 0, 0)]
def b_X12_writes_40 : List LI := [(1, 2, 0, 0, 0), (7, 0, 0, 0, 256), (36, 3, 129, 0, 0), (3, 0, 0, 0, 0), (47, 12, 48, 16, 0), (1, 2, 0, 0, 0), (1, 2, 0, 0, 0), (1, 1, 0, 0, 0), (7, 0, 0, 0, (-1)), (21, 0, 0, 0, 0), (19, 0, 0, 0, 0), (37, 1, 64, 0, 0), (7, 0, 0, 0, 1), (40, 65, 0, 0, 0)]
def b_X12_writes_64 : List LI := [(7, 0, 0, 0, 0), (0, 65, 0, 0, 0)]
def b_X12_writes_65 : List LI := [(60, 0, 0, 0, 0), (7, 0, 0, 0, 0), (4, 3, 0, 0, 0), (0, 68, 0, 0, 0)]
def b_X12_writes_68 : List LI := [(1, 3, 0, 0, 0), (7, 0, 0, 0, 512), (36, 3, 123, 0, 0), (3, 0, 0, 0, 0), (47, 12, 48, 16, 0), (1, 2, 0, 0, 0), (55, 0, 0, 0, 0), (37, 0, 123, 0, 0), (3, 0, 0, 0, 0), (47, 12, 48, 16, 0), (1, 2, 0, 0, 0), (3, 0, 0, 0, 0), (1, 3, 0, 0, 0), (67, 258, 2, 12, 5), (37, 0, 111, 0, 0), (3, 0, 0, 0, 0), (1, 3, 0, 0, 0), (3, 0, 0, 0, 0), (1, 3, 0, 0, 0), (1, 2, 0, 0, 0), (67, 255, 3, 12, 7), (67, 268, 3, 12, 7), (37, 1, 115, 0, 0), (0, 111, 0, 0, 0)]
def b_X12_writes_111 : List LI := [(7, 0, 0, 0, 1), (40, 116, 0, 0, 0)]
def b_X12_writes_115 : List LI := [(7, 0, 0, 0, 0), (0, 116, 0, 0, 0)]
def b_X12_writes_116 : List LI := [(60, 0, 0, 0, 0), (35, 3, 0, 0, 1), (40, 68, 0, 0, 0)]
def b_X12_writes_123 : List LI := [(35, 2, 0, 0, 1), (40, 40, 0, 0, 0)]
def b_X12_writes_129 : List LI := [(7, 0, 0, 0, 255), (4, 2, 0, 0, 0), (0, 133, 0, 0, 0)]
def b_X12_writes_133 : List LI := [(1, 2, 0, 0, 0), (37, 2, 243, 0, 0), (3, 0, 0, 0, 0), (47, 12, 49, 16, 0), (1, 2, 0, 0, 0), (3, 0, 0, 0, 0), (47, 12, 48, 16, 0), (1, 2, 0, 0, 0), (55, 0, 0, 0, 0), (37, 0, 160, 0, 0), (1, 2, 0, 0, 0), (1, 1, 0, 0, 0), (36, 1, 160, 0, 0), (7, 0, 0, 0, 1), (40, 161, 0, 0, 0)]
def b_X12_writes_160 : List LI := [(7, 0, 0, 0, 0), (0, 161, 0, 0, 0)]
def b_X12_writes_161 : List LI := [(60, 0, 0, 0, 0), (7, 0, 0, 0, 0), (4, 3, 0, 0, 0), (0, 164, 0, 0, 0)]
def b_X12_writes_164 : List LI := [(1, 3, 0, 0, 0), (7, 0, 0, 0, 8), (36, 3, 237, 0, 0), (3, 0, 0, 0, 0), (47, 12, 48, 16, 0), (1, 2, 0, 0, 0), (55, 0, 0, 0, 0), (37, 0, 237, 0, 0), (1, 2, 0, 0, 0), (7, 0, 0, 0, 1), (1, 3, 0, 0, 0), (16, 0, 0, 0, 0), (20, 0, 0, 0, 0), (4, 4, 0, 0, 0), (3, 0, 0, 0, 0), (47, 12, 49, 16, 0), (1, 2, 0, 0, 0), (3, 0, 0, 0, 0), (47, 12, 49, 16, 0), (1, 2, 0, 0, 0), (55, 0, 0, 0, 0), (37, 1, 225, 0, 0), (1, 4, 0, 0, 0), (1, 2, 0, 0, 0), (36, 0, 229, 0, 0), (1, 4, 0, 0, 0), (1, 1, 0, 0, 0), (7, 0, 0, 0, (-1)), (21, 0, 0, 0, 0), (19, 0, 0, 0, 0), (37, 1, 229, 0, 0), (3, 0, 0, 0, 0), (47, 12, 49, 16, 0), (1, 4, 0, 0, 0), (55, 0, 0, 0, 0), (37, 0, 229, 0, 0), (0, 225, 0, 0, 0)]
def b_X12_writes_225 : List LI := [(7, 0, 0, 0, 1), (40, 230, 0, 0, 0)]
def b_X12_writes_229 : List LI := [(7, 0, 0, 0, 0), (0, 230, 0, 0, 0)]
def b_X12_writes_230 : List LI := [(60, 0, 0, 0, 0), (35, 3, 0, 0, 1), (40, 164, 0, 0, 0)]
def b_X12_writes_237 : List LI := [(35, 2, 0, 0, (-1)), (40, 133, 0, 0, 0)]
def b_X12_writes_243 : List LI := [(3, 0, 0, 0, 0), (47, 12, 49, 16, 0), (7, 0, 0, 0, 0), (55, 0, 0, 0, 0), (37, 1, 255, 0, 0), (7, 0, 0, 0, (-2)), (71, 0, 0, 0, 0)]
def b_X12_writes_255 : List LI := [(7, 0, 0, 0, 0), (4, 2, 0, 0, 0), (3, 0, 0, 0, 0), (7, 0, 0, 0, 0), (48, 12, 51, 0, 0), (0, 262, 0, 0, 0)]
def b_X12_writes_262 : List LI := [(1, 2, 0, 0, 0), (1, 1, 0, 0, 0), (36, 0, 334, 0, 0), (7, 0, 0, 0, 0), (4, 3, 0, 0, 0), (0, 269, 0, 0, 0)]
def b_X12_writes_269 : List LI := [(1, 2, 0, 0, 0), (1, 3, 0, 0, 0), (17, 0, 0, 0, 0), (7, 0, 0, 0, 1), (19, 0, 0, 0, 0), (7, 0, 0, 0, 1), (36, 0, 299, 0, 0), (1, 1, 0, 0, 0), (1, 3, 0, 0, 0), (17, 0, 0, 0, 0), (7, 0, 0, 0, 1), (19, 0, 0, 0, 0), (37, 0, 299, 0, 0), (3, 0, 0, 0, 0), (47, 12, 49, 16, 0), (1, 2, 0, 0, 0), (7, 0, 0, 0, 1), (1, 3, 0, 0, 0), (16, 0, 0, 0, 0), (20, 0, 0, 0, 0), (55, 0, 0, 0, 0), (37, 1, 305, 0, 0), (0, 299, 0, 0, 0)]
def b_X12_writes_299 : List LI := [(35, 3, 0, 0, 1), (40, 269, 0, 0, 0)]
def b_X12_writes_305 : List LI := [(3, 0, 0, 0, 0), (47, 12, 50, 14, 0), (3, 0, 0, 0, 0), (45, 12, 51, 0, 0), (1, 3, 0, 0, 0), (57, 0, 0, 0, 0), (3, 0, 0, 0, 0), (42, 0, 0, 0, 0), (45, 12, 51, 0, 0), (7, 0, 0, 0, 1), (10, 0, 0, 0, 0), (48, 12, 51, 0, 0), (1, 2, 0, 0, 0), (7, 0, 0, 0, 1), (1, 3, 0, 0, 0), (16, 0, 0, 0, 0), (20, 0, 0, 0, 0), (4, 2, 0, 0, 0), (40, 262, 0, 0, 0)]
def b_X12_writes_334 : List LI := [(3, 0, 0, 0, 0), (45, 12, 51, 0, 0), (71, 0, 0, 0, 0)]
def cd_X12_writes : Nat → List LI := fun pc => if pc = 0 then b_X12_writes_0 else if pc = 8 then b_X12_writes_8 else if pc = 29 then b_X12_writes_29 else if pc = 30 then b_X12_writes_30 else if pc = 38 then b_X12_writes_38 else if pc = 40 then b_X12_writes_40 else if pc = 64 then b_X12_writes_64 else if pc = 65 then b_X12_writes_65 else if pc = 68 then b_X12_writes_68 else if pc = 111 then b_X12_writes_111 else if pc = 115 then b_X12_writes_115 else if pc = 116 then b_X12_writes_116 else if pc = 123 then b_X12_writes_123 else if pc = 129 then b_X12_writes_129 else if pc = 133 then b_X12_writes_133 else if pc = 160 then b_X12_writes_160 else if pc = 161 then b_X12_writes_161 else if pc = 164 then b_X12_writes_164 else if pc = 225 then b_X12_writes_225 else if pc = 229 then b_X12_writes_229 else if pc = 230 then b_X12_writes_230 else if pc = 237 then b_X12_writes_237 else if pc = 243 then b_X12_writes_243 else if pc = 255 then b_X12_writes_255 else if pc = 262 then b_X12_writes_262 else if pc = 269 then b_X12_writes_269 else if pc = 299 then b_X12_writes_299 else if pc = 305 then b_X12_writes_305 else if pc = 334 then b_X12_writes_334 else []
def b_X12_written_0 : List LI := [(1, 1, 0, 0, 0), (32, 0, 0, 0, 0), (8, 0, 0, 0, 0), (3, 0, 0, 0, 0), (45, 12, 51, 0, 0), (7, 0, 0, 0, 1), (11, 0, 0, 0, 0), (32, 0, 0, 0, 0), (67, 199, 3, 0, 12), (37, 0, 25, 0, 0), (3, 0, 0, 0, 0), (47, 12, 50, 14, 0), (1, 1, 0, 0, 0), (52, 0, 0, 0, 0), (40, 26, 0, 0, 0)]
def b_X12_written_25 : List LI := [(7, 0, 0, 0, (-1)), (0, 26, 0, 0, 0)]
def b_X12_written_26 : List LI := [(71, 0, 0, 0, 0)]
def cd_X12_written : Nat → List LI := fun pc => if pc = 0 then b_X12_written_0 else if pc = 25 then b_X12_written_25 else if pc = 26 then b_X12_written_26 else []
def b_X12_worst_0 : List LI := [(1, 1, 0, 0, 0), (32, 0, 0, 0, 0), (8, 0, 0, 0, 1), (8, 0, 0, 0, 2), (67, 199, 3, 0, 12), (37, 1, 14, 0, 0), (7, 0, 0, 0, (-1)), (71, 0, 0, 0, 0)]
def b_X12_worst_14 : List LI := [(7, 0, 0, 0, 0), (4, 2, 0, 0, 0), (7, 0, 0, 0, 0), (4, 3, 0, 0, 0), (0, 18, 0, 0, 0)]
def b_X12_worst_18 : List LI := [(1, 3, 0, 0, 0), (7, 0, 0, 0, 64), (36, 3, 122, 0, 0), (7, 0, 0, 0, 0), (4, 4, 0, 0, 0), (7, 0, 0, 0, 0), (4, 5, 0, 0, 0), (0, 30, 0, 0, 0)]
def b_X12_worst_30 : List LI := [(1, 5, 0, 0, 0), (3, 0, 0, 0, 0), (47, 12, 31, 14, 0), (1, 3, 0, 0, 0), (7, 0, 0, 0, 3), (17, 0, 0, 0, 0), (52, 0, 0, 0, 0), (36, 3, 82, 0, 0), (1, 4, 0, 0, 0), (37, 1, 69, 0, 0), (3, 0, 0, 0, 0), (47, 12, 30, 14, 0), (7, 0, 0, 0, 12), (1, 3, 0, 0, 0), (7, 0, 0, 0, 3), (17, 0, 0, 0, 0), (12, 0, 0, 0, 0), (1, 5, 0, 0, 0), (10, 0, 0, 0, 0), (52, 0, 0, 0, 0), (1, 3, 0, 0, 0), (7, 0, 0, 0, 7), (19, 0, 0, 0, 0), (36, 1, 73, 0, 0), (0, 69, 0, 0, 0)]
def b_X12_worst_69 : List LI := [(7, 0, 0, 0, 1), (40, 74, 0, 0, 0)]
def b_X12_worst_73 : List LI := [(7, 0, 0, 0, 0), (0, 74, 0, 0, 0)]
def b_X12_worst_74 : List LI := [(4, 4, 0, 0, 0), (35, 5, 0, 0, 1), (40, 30, 0, 0, 0)]
def b_X12_worst_82 : List LI := [(1, 4, 0, 0, 0), (37, 0, 116, 0, 0), (3, 0, 0, 0, 0), (47, 12, 32, 16, 0), (1, 3, 0, 0, 0), (55, 0, 0, 0, 0), (37, 1, 116, 0, 0), (1, 3, 0, 0, 0), (7, 0, 0, 0, 3), (17, 0, 0, 0, 0), (1, 3, 0, 0, 0), (7, 0, 0, 0, 7), (19, 0, 0, 0, 0), (36, 0, 116, 0, 0), (3, 0, 0, 0, 0), (47, 12, 53, 14, 0), (1, 2, 0, 0, 0), (1, 3, 0, 0, 0), (57, 0, 0, 0, 0), (35, 2, 0, 0, 1), (0, 116, 0, 0, 0)]
def b_X12_worst_116 : List LI := [(35, 3, 0, 0, 1), (40, 18, 0, 0, 0)]
def b_X12_worst_122 : List LI := [(1, 2, 0, 0, 0), (1, 1, 0, 0, 0), (36, 3, 129, 0, 0), (7, 0, 0, 0, (-1)), (71, 0, 0, 0, 0)]
def b_X12_worst_129 : List LI := [(7, 0, 0, 0, 0), (4, 3, 0, 0, 0), (0, 131, 0, 0, 0)]
def b_X12_worst_131 : List LI := [(1, 3, 0, 0, 0), (7, 0, 0, 0, 512), (36, 3, 218, 0, 0), (3, 0, 0, 0, 0), (47, 12, 42, 15, 0), (1, 3, 0, 0, 0), (8, 0, 0, 0, 0), (58, 0, 0, 0, 0), (3, 0, 0, 0, 0), (1, 3, 0, 0, 0), (67, 258, 2, 12, 5), (37, 0, 212, 0, 0), (3, 0, 0, 0, 0), (1, 3, 0, 0, 0), (7, 0, 0, 0, 0), (67, 255, 3, 12, 7), (37, 2, 212, 0, 0), (7, 0, 0, 0, 0), (4, 4, 0, 0, 0), (0, 165, 0, 0, 0)]
def b_X12_worst_165 : List LI := [(1, 4, 0, 0, 0), (7, 0, 0, 0, 1), (10, 0, 0, 0, 0), (3, 0, 0, 0, 0), (45, 12, 38, 0, 0), (36, 3, 212, 0, 0), (3, 0, 0, 0, 0), (47, 12, 42, 15, 0), (1, 3, 0, 0, 0), (43, 0, 0, 0, 0), (53, 0, 0, 0, 0), (8, 0, 0, 0, 1), (3, 0, 0, 0, 0), (47, 12, 35, 14, 0), (1, 4, 0, 0, 0), (52, 0, 0, 0, 0), (7, 0, 0, 0, 4), (17, 0, 0, 0, 0), (7, 0, 0, 0, 8), (12, 0, 0, 0, 0), (3, 0, 0, 0, 0), (1, 4, 0, 0, 0), (67, 272, 2, 12, 5), (10, 0, 0, 0, 0), (28, 0, 0, 0, 0), (26, 0, 0, 0, 0), (58, 0, 0, 0, 0), (35, 4, 0, 0, 1), (40, 165, 0, 0, 0)]
def b_X12_worst_212 : List LI := [(35, 3, 0, 0, 1), (40, 131, 0, 0, 0)]
def b_X12_worst_218 : List LI := [(7, 0, 0, 0, (-1)), (4, 3, 0, 0, 0), (7, 0, 0, 0, 0), (4, 4, 0, 0, 0), (0, 223, 0, 0, 0)]
def b_X12_worst_223 : List LI := [(1, 4, 0, 0, 0), (1, 2, 0, 0, 0), (36, 3, 376, 0, 0), (1, 1, 0, 0, 0), (7, 0, 0, 0, 1), (36, 1, 239, 0, 0), (1, 4, 0, 0, 0), (40, 243, 0, 0, 0)]
def b_X12_worst_239 : List LI := [(1, 4, 0, 0, 0), (7, 0, 0, 0, 1), (10, 0, 0, 0, 0), (0, 243, 0, 0, 0)]
def b_X12_worst_243 : List LI := [(4, 5, 0, 0, 0), (0, 245, 0, 0, 0)]
def b_X12_worst_245 : List LI := [(1, 5, 0, 0, 0), (1, 1, 0, 0, 0), (7, 0, 0, 0, 1), (36, 1, 259, 0, 0), (1, 4, 0, 0, 0), (7, 0, 0, 0, 1), (10, 0, 0, 0, 0), (40, 260, 0, 0, 0)]
def b_X12_worst_259 : List LI := [(1, 2, 0, 0, 0), (0, 260, 0, 0, 0)]
def b_X12_worst_260 : List LI := [(36, 3, 370, 0, 0), (8, 0, 0, 0, 1), (3, 0, 0, 0, 0), (47, 12, 53, 14, 0), (1, 4, 0, 0, 0), (52, 0, 0, 0, 0), (28, 0, 0, 0, 0), (8, 0, 0, 0, 1), (3, 0, 0, 0, 0), (47, 12, 53, 14, 0), (1, 5, 0, 0, 0), (52, 0, 0, 0, 0), (28, 0, 0, 0, 0), (26, 0, 0, 0, 0), (5, 6, 0, 0, 0), (7, 0, 0, 0, 0), (4, 8, 0, 0, 0), (7, 0, 0, 0, 0), (4, 9, 0, 0, 0), (0, 290, 0, 0, 0)]
def b_X12_worst_290 : List LI := [(1, 9, 0, 0, 0), (7, 0, 0, 0, 512), (36, 3, 329, 0, 0), (1, 8, 0, 0, 0), (3, 0, 0, 0, 0), (47, 12, 42, 15, 0), (1, 9, 0, 0, 0), (53, 0, 0, 0, 0), (2, 6, 0, 0, 0), (25, 0, 0, 0, 0), (8, 0, 0, 0, 0), (31, 0, 0, 0, 0), (37, 0, 319, 0, 0), (7, 0, 0, 0, 1), (40, 320, 0, 0, 0)]
def b_X12_worst_319 : List LI := [(7, 0, 0, 0, 0), (0, 320, 0, 0, 0)]
def b_X12_worst_320 : List LI := [(10, 0, 0, 0, 0), (4, 8, 0, 0, 0), (35, 9, 0, 0, 1), (40, 290, 0, 0, 0)]
def b_X12_worst_329 : List LI := [(1, 8, 0, 0, 0), (1, 3, 0, 0, 0), (36, 5, 364, 0, 0), (1, 8, 0, 0, 0), (4, 3, 0, 0, 0), (3, 0, 0, 0, 0), (47, 12, 52, 14, 0), (7, 0, 0, 0, 0), (3, 0, 0, 0, 0), (47, 12, 53, 14, 0), (1, 4, 0, 0, 0), (52, 0, 0, 0, 0), (57, 0, 0, 0, 0), (3, 0, 0, 0, 0), (47, 12, 52, 14, 0), (7, 0, 0, 0, 1), (3, 0, 0, 0, 0), (47, 12, 53, 14, 0), (1, 5, 0, 0, 0), (52, 0, 0, 0, 0), (57, 0, 0, 0, 0), (0, 364, 0, 0, 0)]
def b_X12_worst_364 : List LI := [(35, 5, 0, 0, 1), (40, 245, 0, 0, 0)]
def b_X12_worst_370 : List LI := [(35, 4, 0, 0, 1), (40, 223, 0, 0, 0)]
def b_X12_worst_376 : List LI := [(3, 0, 0, 0, 0), (1, 1, 0, 0, 0), (48, 12, 54, 0, 0), (1, 3, 0, 0, 0), (71, 0, 0, 0, 0)]
def cd_X12_worst : Nat → List LI := fun pc => if pc = 0 then b_X12_worst_0 else if pc = 14 then b_X12_worst_14 else if pc = 18 then b_X12_worst_18 else if pc = 30 then b_X12_worst_30 else if pc = 69 then b_X12_worst_69 else if pc = 73 then b_X12_worst_73 else if pc = 74 then b_X12_worst_74 else if pc = 82 then b_X12_worst_82 else if pc = 116 then b_X12_worst_116 else if pc = 122 then b_X12_worst_122 else if pc = 129 then b_X12_worst_129 else if pc = 131 then b_X12_worst_131 else if pc = 165 then b_X12_worst_165 else if pc = 212 then b_X12_worst_212 else if pc = 218 then b_X12_worst_218 else if pc = 223 then b_X12_worst_223 else if pc = 239 then b_X12_worst_239 else if pc = 243 then b_X12_worst_243 else if pc = 245 then b_X12_worst_245 else if pc = 259 then b_X12_worst_259 else if pc = 260 then b_X12_worst_260 else if pc = 290 then b_X12_worst_290 else if pc = 319 then b_X12_worst_319 else if pc = 320 then b_X12_worst_320 else if pc = 329 then b_X12_worst_329 else if pc = 364 then b_X12_worst_364 else if pc = 370 then b_X12_worst_370 else if pc = 376 then b_X12_worst_376 else []
def b_X12_placeBehind_0 : List LI := [(3, 0, 0, 0, 0), (47, 12, 30, 14, 0), (7, 0, 0, 0, 12), (3, 0, 0, 0, 0), (47, 12, 35, 14, 0), (1, 1, 0, 0, 0), (52, 0, 0, 0, 0), (7, 0, 0, 0, 4), (17, 0, 0, 0, 0), (12, 0, 0, 0, 0), (3, 0, 0, 0, 0), (47, 12, 35, 14, 0), (1, 1, 0, 0, 0), (52, 0, 0, 0, 0), (7, 0, 0, 0, 15), (19, 0, 0, 0, 0), (10, 0, 0, 0, 0), (52, 0, 0, 0, 0), (71, 0, 0, 0, 0)]
def cd_X12_placeBehind : Nat → List LI := fun pc => if pc = 0 then b_X12_placeBehind_0 else []
def b_X12_falls_0 : List LI := [(1, 1, 0, 0, 0), (32, 0, 0, 0, 0), (8, 0, 0, 0, 0), (3, 0, 0, 0, 0), (45, 12, 54, 0, 0), (7, 0, 0, 0, 1), (11, 0, 0, 0, 0), (32, 0, 0, 0, 0), (67, 199, 3, 0, 12), (37, 0, 25, 0, 0), (3, 0, 0, 0, 0), (47, 12, 52, 14, 0), (1, 1, 0, 0, 0), (52, 0, 0, 0, 0), (40, 26, 0, 0, 0)]
def b_X12_falls_25 : List LI := [(7, 0, 0, 0, (-1)), (0, 26, 0, 0, 0)]
def b_X12_falls_26 : List LI := [(71, 0, 0, 0, 0)]
def cd_X12_falls : Nat → List LI := fun pc => if pc = 0 then b_X12_falls_0 else if pc = 25 then b_X12_falls_25 else if pc = 26 then b_X12_falls_26 else []
def b_X12_needs_0 : List LI := [(3, 0, 0, 0, 0), (1, 1, 0, 0, 0), (67, 227, 2, 12, 5), (37, 0, 27, 0, 0), (1, 2, 0, 0, 0), (67, 201, 1, 0, 2), (37, 0, 27, 0, 0), (1, 3, 0, 0, 0), (32, 0, 0, 0, 0), (8, 0, 0, 0, 0), (8, 0, 0, 0, 99), (67, 199, 3, 0, 12), (37, 1, 29, 0, 0), (0, 27, 0, 0, 0)]
def b_X12_needs_27 : List LI := [(7, 0, 0, 0, (-1)), (71, 0, 0, 0, 0)]
def b_X12_needs_29 : List LI := [(3, 0, 0, 0, 0), (47, 12, 55, 14, 0), (7, 0, 0, 0, 8), (1, 1, 0, 0, 0), (12, 0, 0, 0, 0), (1, 2, 0, 0, 0), (10, 0, 0, 0, 0), (52, 0, 0, 0, 0), (4, 4, 0, 0, 0), (3, 0, 0, 0, 0), (47, 12, 55, 14, 0), (7, 0, 0, 0, 8), (1, 1, 0, 0, 0), (12, 0, 0, 0, 0), (1, 2, 0, 0, 0), (10, 0, 0, 0, 0), (1, 3, 0, 0, 0), (57, 0, 0, 0, 0), (1, 4, 0, 0, 0), (71, 0, 0, 0, 0)]
def cd_X12_needs : Nat → List LI := fun pc => if pc = 0 then b_X12_needs_0 else if pc = 27 then b_X12_needs_27 else if pc = 29 then b_X12_needs_29 else []
def b_X12_worth_0 : List LI := [(1, 1, 0, 0, 0), (32, 0, 0, 0, 0), (8, 0, 0, 0, 0), (8, 0, 0, 0, 1), (67, 199, 3, 0, 12), (37, 0, 44, 0, 0), (1, 1, 0, 0, 0), (37, 1, 25, 0, 0), (3, 0, 0, 0, 0), (1, 2, 0, 0, 0), (67, 227, 2, 12, 5), (37, 0, 44, 0, 0), (40, 32, 0, 0, 0)]
def b_X12_worth_25 : List LI := [(1, 2, 0, 0, 0), (67, 201, 1, 0, 2), (37, 0, 44, 0, 0), (0, 32, 0, 0, 0)]
def b_X12_worth_32 : List LI := [(1, 3, 0, 0, 0), (32, 0, 0, 0, 0), (8, 0, 0, 0, 0), (8, 0, 0, 0, 999), (67, 199, 3, 0, 12), (37, 1, 46, 0, 0), (0, 44, 0, 0, 0)]
def b_X12_worth_44 : List LI := [(7, 0, 0, 0, (-1)), (71, 0, 0, 0, 0)]
def b_X12_worth_46 : List LI := [(1, 1, 0, 0, 0), (37, 1, 59, 0, 0), (3, 0, 0, 0, 0), (47, 12, 56, 14, 0), (1, 2, 0, 0, 0), (52, 0, 0, 0, 0), (40, 65, 0, 0, 0)]
def b_X12_worth_59 : List LI := [(3, 0, 0, 0, 0), (47, 12, 57, 14, 0), (1, 2, 0, 0, 0), (52, 0, 0, 0, 0), (0, 65, 0, 0, 0)]
def b_X12_worth_65 : List LI := [(4, 4, 0, 0, 0), (1, 1, 0, 0, 0), (37, 1, 81, 0, 0), (3, 0, 0, 0, 0), (47, 12, 56, 14, 0), (1, 2, 0, 0, 0), (1, 3, 0, 0, 0), (57, 0, 0, 0, 0), (40, 88, 0, 0, 0)]
def b_X12_worth_81 : List LI := [(3, 0, 0, 0, 0), (47, 12, 57, 14, 0), (1, 2, 0, 0, 0), (1, 3, 0, 0, 0), (57, 0, 0, 0, 0), (0, 88, 0, 0, 0)]
def b_X12_worth_88 : List LI := [(1, 4, 0, 0, 0), (71, 0, 0, 0, 0)]
def cd_X12_worth : Nat → List LI := fun pc => if pc = 0 then b_X12_worth_0 else if pc = 25 then b_X12_worth_25 else if pc = 32 then b_X12_worth_32 else if pc = 44 then b_X12_worth_44 else if pc = 46 then b_X12_worth_46 else if pc = 59 then b_X12_worth_59 else if pc = 65 then b_X12_worth_65 else if pc = 81 then b_X12_worth_81 else if pc = 88 then b_X12_worth_88 else []
def b_X12_hasRoom_0 : List LI := [(7, 0, 0, 0, 1), (4, 2, 0, 0, 0), (7, 0, 0, 0, 0), (4, 3, 0, 0, 0), (0, 4, 0, 0, 0)]
def b_X12_hasRoom_4 : List LI := [(1, 3, 0, 0, 0), (7, 0, 0, 0, 8), (36, 3, 89, 0, 0), (7, 0, 0, 0, 0), (4, 4, 0, 0, 0), (7, 0, 0, 0, 0), (4, 5, 0, 0, 0), (0, 16, 0, 0, 0)]
def b_X12_hasRoom_16 : List LI := [(1, 5, 0, 0, 0), (3, 0, 0, 0, 0), (45, 12, 4, 0, 0), (36, 3, 62, 0, 0), (1, 4, 0, 0, 0), (1, 1, 0, 0, 0), (1, 5, 0, 0, 0), (17, 0, 0, 0, 0), (7, 0, 0, 0, 1), (19, 0, 0, 0, 0), (7, 0, 0, 0, 1), (36, 1, 52, 0, 0), (3, 0, 0, 0, 0), (47, 12, 55, 14, 0), (7, 0, 0, 0, 8), (1, 5, 0, 0, 0), (12, 0, 0, 0, 0), (1, 3, 0, 0, 0), (10, 0, 0, 0, 0), (52, 0, 0, 0, 0), (40, 53, 0, 0, 0)]
def b_X12_hasRoom_52 : List LI := [(7, 0, 0, 0, 0), (0, 53, 0, 0, 0)]
def b_X12_hasRoom_53 : List LI := [(10, 0, 0, 0, 0), (4, 4, 0, 0, 0), (35, 5, 0, 0, 1), (40, 16, 0, 0, 0)]
def b_X12_hasRoom_62 : List LI := [(1, 2, 0, 0, 0), (37, 0, 81, 0, 0), (1, 4, 0, 0, 0), (3, 0, 0, 0, 0), (47, 12, 57, 14, 0), (1, 3, 0, 0, 0), (52, 0, 0, 0, 0), (36, 4, 81, 0, 0), (7, 0, 0, 0, 1), (40, 82, 0, 0, 0)]
def b_X12_hasRoom_81 : List LI := [(7, 0, 0, 0, 0), (0, 82, 0, 0, 0)]
def b_X12_hasRoom_82 : List LI := [(4, 2, 0, 0, 0), (35, 3, 0, 0, 1), (40, 4, 0, 0, 0)]
def b_X12_hasRoom_89 : List LI := [(1, 2, 0, 0, 0), (71, 1, 0, 0, 0)]
def cd_X12_hasRoom : Nat → List LI := fun pc => if pc = 0 then b_X12_hasRoom_0 else if pc = 4 then b_X12_hasRoom_4 else if pc = 16 then b_X12_hasRoom_16 else if pc = 52 then b_X12_hasRoom_52 else if pc = 53 then b_X12_hasRoom_53 else if pc = 62 then b_X12_hasRoom_62 else if pc = 81 then b_X12_hasRoom_81 else if pc = 82 then b_X12_hasRoom_82 else if pc = 89 then b_X12_hasRoom_89 else []
def b_X12_kept_0 : List LI := [(1, 1, 0, 0, 0), (32, 0, 0, 0, 0), (8, 0, 0, 0, 0), (8, 0, 0, 0, 1), (67, 199, 3, 0, 12), (37, 1, 12, 0, 0), (7, 0, 0, 0, (-1)), (71, 0, 0, 0, 0)]
def b_X12_kept_12 : List LI := [(7, 0, 0, 0, 0), (4, 2, 0, 0, 0), (7, 0, 0, 0, 0), (4, 3, 0, 0, 0), (7, 0, 0, 0, 1), (4, 4, 0, 0, 0), (0, 19, 0, 0, 0)]
def b_X12_kept_19 : List LI := [(1, 4, 0, 0, 0), (7, 0, 0, 0, 1), (3, 0, 0, 0, 0), (45, 12, 4, 0, 0), (16, 0, 0, 0, 0), (36, 3, 123, 0, 0), (7, 0, 0, 0, 0), (4, 5, 0, 0, 0), (7, 0, 0, 0, 0), (4, 6, 0, 0, 0), (0, 36, 0, 0, 0)]
def b_X12_kept_36 : List LI := [(1, 6, 0, 0, 0), (3, 0, 0, 0, 0), (45, 12, 4, 0, 0), (36, 3, 78, 0, 0), (1, 5, 0, 0, 0), (1, 4, 0, 0, 0), (1, 6, 0, 0, 0), (17, 0, 0, 0, 0), (7, 0, 0, 0, 1), (19, 0, 0, 0, 0), (7, 0, 0, 0, 1), (36, 1, 68, 0, 0), (3, 0, 0, 0, 0), (47, 12, 56, 14, 0), (1, 6, 0, 0, 0), (52, 0, 0, 0, 0), (40, 69, 0, 0, 0)]
def b_X12_kept_68 : List LI := [(7, 0, 0, 0, 0), (0, 69, 0, 0, 0)]
def b_X12_kept_69 : List LI := [(10, 0, 0, 0, 0), (4, 5, 0, 0, 0), (35, 6, 0, 0, 1), (40, 36, 0, 0, 0)]
def b_X12_kept_78 : List LI := [(1, 5, 0, 0, 0), (1, 3, 0, 0, 0), (36, 4, 102, 0, 0), (1, 5, 0, 0, 0), (1, 3, 0, 0, 0), (36, 1, 117, 0, 0), (1, 4, 0, 0, 0), (67, 265, 1, 0, 2), (1, 2, 0, 0, 0), (67, 265, 1, 0, 2), (36, 3, 117, 0, 0), (0, 102, 0, 0, 0)]
def b_X12_kept_102 : List LI := [(3, 0, 0, 0, 0), (1, 4, 0, 0, 0), (67, 276, 2, 12, 5), (37, 0, 117, 0, 0), (1, 4, 0, 0, 0), (4, 2, 0, 0, 0), (1, 5, 0, 0, 0), (4, 3, 0, 0, 0), (0, 117, 0, 0, 0)]
def b_X12_kept_117 : List LI := [(35, 4, 0, 0, 1), (40, 19, 0, 0, 0)]
def b_X12_kept_123 : List LI := [(1, 1, 0, 0, 0), (37, 1, 131, 0, 0), (1, 2, 0, 0, 0), (40, 132, 0, 0, 0)]
def b_X12_kept_131 : List LI := [(1, 3, 0, 0, 0), (0, 132, 0, 0, 0)]
def b_X12_kept_132 : List LI := [(71, 0, 0, 0, 0)]
def cd_X12_kept : Nat → List LI := fun pc => if pc = 0 then b_X12_kept_0 else if pc = 12 then b_X12_kept_12 else if pc = 19 then b_X12_kept_19 else if pc = 36 then b_X12_kept_36 else if pc = 68 then b_X12_kept_68 else if pc = 69 then b_X12_kept_69 else if pc = 78 then b_X12_kept_78 else if pc = 102 then b_X12_kept_102 else if pc = 117 then b_X12_kept_117 else if pc = 123 then b_X12_kept_123 else if pc = 131 then b_X12_kept_131 else if pc = 132 then b_X12_kept_132 else []
def b_X12_counts__0 : List LI := [(1, 1, 0, 0, 0), (67, 201, 1, 0, 2), (37, 0, 32, 0, 0), (1, 2, 0, 0, 0), (67, 201, 1, 0, 2), (37, 0, 32, 0, 0), (1, 1, 0, 0, 0), (1, 2, 0, 0, 0), (36, 0, 32, 0, 0), (1, 4, 0, 0, 0), (32, 0, 0, 0, 0), (8, 0, 0, 0, 0), (8, 0, 0, 0, 999999), (67, 199, 3, 0, 12), (37, 1, 34, 0, 0), (0, 32, 0, 0, 0)]
def b_X12_counts__32 : List LI := [(7, 0, 0, 0, (-1)), (71, 0, 0, 0, 0)]
def b_X12_counts__34 : List LI := [(7, 0, 0, 0, 8), (1, 1, 0, 0, 0), (12, 0, 0, 0, 0), (1, 2, 0, 0, 0), (10, 0, 0, 0, 0), (4, 5, 0, 0, 0), (1, 3, 0, 0, 0), (37, 0, 56, 0, 0), (3, 0, 0, 0, 0), (47, 12, 59, 14, 0), (1, 5, 0, 0, 0), (52, 0, 0, 0, 0), (40, 63, 0, 0, 0)]
def b_X12_counts__56 : List LI := [(3, 0, 0, 0, 0), (47, 12, 58, 14, 0), (1, 5, 0, 0, 0), (52, 0, 0, 0, 0), (0, 63, 0, 0, 0)]
def b_X12_counts__63 : List LI := [(4, 6, 0, 0, 0), (1, 3, 0, 0, 0), (37, 0, 81, 0, 0), (3, 0, 0, 0, 0), (47, 12, 59, 14, 0), (1, 5, 0, 0, 0), (1, 4, 0, 0, 0), (57, 0, 0, 0, 0), (40, 90, 0, 0, 0)]
def b_X12_counts__81 : List LI := [(3, 0, 0, 0, 0), (47, 12, 58, 14, 0), (1, 5, 0, 0, 0), (1, 4, 0, 0, 0), (57, 0, 0, 0, 0), (0, 90, 0, 0, 0)]
def b_X12_counts__90 : List LI := [(1, 6, 0, 0, 0), (71, 0, 0, 0, 0)]
def cd_X12_counts_ : Nat → List LI := fun pc => if pc = 0 then b_X12_counts__0 else if pc = 32 then b_X12_counts__32 else if pc = 34 then b_X12_counts__34 else if pc = 56 then b_X12_counts__56 else if pc = 63 then b_X12_counts__63 else if pc = 81 then b_X12_counts__81 else if pc = 90 then b_X12_counts__90 else []
def b_X12_liars_0 : List LI := [(7, 0, 0, 0, 255), (4, 1, 0, 0, 0), (7, 0, 0, 0, 254), (4, 2, 0, 0, 0), (0, 8, 0, 0, 0)]
def b_X12_liars_8 : List LI := [(1, 2, 0, 0, 0), (37, 2, 109, 0, 0), (7, 0, 0, 0, 1), (4, 3, 0, 0, 0), (7, 0, 0, 0, 0), (4, 4, 0, 0, 0), (0, 17, 0, 0, 0)]
def b_X12_liars_17 : List LI := [(1, 4, 0, 0, 0), (7, 0, 0, 0, 64), (36, 3, 82, 0, 0), (1, 3, 0, 0, 0), (37, 0, 82, 0, 0), (3, 0, 0, 0, 0), (47, 12, 58, 14, 0), (1, 4, 0, 0, 0), (52, 0, 0, 0, 0), (3, 0, 0, 0, 0), (47, 12, 59, 14, 0), (1, 4, 0, 0, 0), (52, 0, 0, 0, 0), (36, 0, 70, 0, 0), (1, 2, 0, 0, 0), (1, 4, 0, 0, 0), (7, 0, 0, 0, 3), (17, 0, 0, 0, 0), (17, 0, 0, 0, 0), (7, 0, 0, 0, 1), (19, 0, 0, 0, 0), (7, 0, 0, 0, 1), (36, 0, 70, 0, 0), (1, 2, 0, 0, 0), (1, 4, 0, 0, 0), (7, 0, 0, 0, 7), (19, 0, 0, 0, 0), (17, 0, 0, 0, 0), (7, 0, 0, 0, 1), (19, 0, 0, 0, 0), (7, 0, 0, 0, 1), (36, 1, 74, 0, 0), (0, 70, 0, 0, 0)]
def b_X12_liars_70 : List LI := [(7, 0, 0, 0, 1), (40, 75, 0, 0, 0)]
def b_X12_liars_74 : List LI := [(7, 0, 0, 0, 0), (0, 75, 0, 0, 0)]
def b_X12_liars_75 : List LI := [(4, 3, 0, 0, 0), (35, 4, 0, 0, 1), (40, 17, 0, 0, 0)]
def b_X12_liars_82 : List LI := [(1, 3, 0, 0, 0), (37, 0, 101, 0, 0), (1, 2, 0, 0, 0), (67, 265, 1, 0, 2), (1, 1, 0, 0, 0), (67, 265, 1, 0, 2), (36, 4, 101, 0, 0), (1, 2, 0, 0, 0), (40, 102, 0, 0, 0)]
def b_X12_liars_101 : List LI := [(1, 1, 0, 0, 0), (0, 102, 0, 0, 0)]
def b_X12_liars_102 : List LI := [(4, 1, 0, 0, 0), (35, 2, 0, 0, (-1)), (40, 8, 0, 0, 0)]
def b_X12_liars_109 : List LI := [(1, 1, 0, 0, 0), (71, 0, 0, 0, 0)]
def cd_X12_liars : Nat → List LI := fun pc => if pc = 0 then b_X12_liars_0 else if pc = 8 then b_X12_liars_8 else if pc = 17 then b_X12_liars_17 else if pc = 70 then b_X12_liars_70 else if pc = 74 then b_X12_liars_74 else if pc = 75 then b_X12_liars_75 else if pc = 82 then b_X12_liars_82 else if pc = 101 then b_X12_liars_101 else if pc = 102 then b_X12_liars_102 else if pc = 109 then b_X12_liars_109 else []
def b_X12_alike_0 : List LI := [(7, 0, 0, 0, 0), (4, 4, 0, 0, 0), (0, 3, 0, 0, 0)]
def b_X12_alike_3 : List LI := [(1, 4, 0, 0, 0), (3, 0, 0, 0, 0), (45, 12, 64, 0, 0), (36, 3, 51, 0, 0), (3, 0, 0, 0, 0), (47, 12, 60, 14, 0), (1, 4, 0, 0, 0), (52, 0, 0, 0, 0), (1, 1, 0, 0, 0), (36, 1, 45, 0, 0), (3, 0, 0, 0, 0), (47, 12, 61, 14, 0), (1, 4, 0, 0, 0), (52, 0, 0, 0, 0), (1, 2, 0, 0, 0), (36, 1, 45, 0, 0), (3, 0, 0, 0, 0), (47, 12, 62, 14, 0), (1, 4, 0, 0, 0), (52, 0, 0, 0, 0), (1, 3, 0, 0, 0), (36, 0, 51, 0, 0), (0, 45, 0, 0, 0)]
def b_X12_alike_45 : List LI := [(35, 4, 0, 0, 1), (40, 3, 0, 0, 0)]
def b_X12_alike_51 : List LI := [(1, 4, 0, 0, 0), (3, 0, 0, 0, 0), (45, 12, 64, 0, 0), (36, 1, 94, 0, 0), (3, 0, 0, 0, 0), (47, 12, 60, 14, 0), (1, 4, 0, 0, 0), (1, 1, 0, 0, 0), (57, 0, 0, 0, 0), (3, 0, 0, 0, 0), (47, 12, 61, 14, 0), (1, 4, 0, 0, 0), (1, 2, 0, 0, 0), (57, 0, 0, 0, 0), (3, 0, 0, 0, 0), (47, 12, 62, 14, 0), (1, 4, 0, 0, 0), (1, 3, 0, 0, 0), (57, 0, 0, 0, 0), (3, 0, 0, 0, 0), (42, 0, 0, 0, 0), (45, 12, 64, 0, 0), (7, 0, 0, 0, 1), (10, 0, 0, 0, 0), (48, 12, 64, 0, 0), (0, 94, 0, 0, 0)]
def b_X12_alike_94 : List LI := [(1, 4, 0, 0, 0), (71, 0, 0, 0, 0)]
def cd_X12_alike : Nat → List LI := fun pc => if pc = 0 then b_X12_alike_0 else if pc = 3 then b_X12_alike_3 else if pc = 45 then b_X12_alike_45 else if pc = 51 then b_X12_alike_51 else if pc = 94 then b_X12_alike_94 else []
def b_X12_isOfField_0 : List LI := [(3, 0, 0, 0, 0), (47, 12, 60, 14, 0), (1, 1, 0, 0, 0), (52, 0, 0, 0, 0), (1, 2, 0, 0, 0), (36, 1, 14, 0, 0), (7, 0, 0, 0, 1), (40, 15, 0, 0, 0)]
def b_X12_isOfField_14 : List LI := [(7, 0, 0, 0, 0), (0, 15, 0, 0, 0)]
def b_X12_isOfField_15 : List LI := [(71, 1, 0, 0, 0)]
def cd_X12_isOfField : Nat → List LI := fun pc => if pc = 0 then b_X12_isOfField_0 else if pc = 14 then b_X12_isOfField_14 else if pc = 15 then b_X12_isOfField_15 else []
def b_X12_plus_0 : List LI := [(1, 3, 0, 0, 0), (37, 0, 20, 0, 0), (3, 0, 0, 0, 0), (47, 12, 60, 14, 0), (1, 2, 0, 0, 0), (52, 0, 0, 0, 0), (37, 0, 18, 0, 0), (1, 1, 0, 0, 0), (1, 2, 0, 0, 0), (36, 1, 20, 0, 0), (0, 18, 0, 0, 0)]
def b_X12_plus_18 : List LI := [(1, 1, 0, 0, 0), (71, 0, 0, 0, 0)]
def b_X12_plus_20 : List LI := [(1, 3, 0, 0, 0), (37, 0, 37, 0, 0), (3, 0, 0, 0, 0), (47, 12, 60, 14, 0), (1, 1, 0, 0, 0), (52, 0, 0, 0, 0), (37, 1, 37, 0, 0), (1, 2, 0, 0, 0), (40, 45, 0, 0, 0)]
def b_X12_plus_37 : List LI := [(3, 0, 0, 0, 0), (7, 0, 0, 0, 6), (1, 1, 0, 0, 0), (1, 2, 0, 0, 0), (67, 280, 4, 12, 9), (0, 45, 0, 0, 0)]
def b_X12_plus_45 : List LI := [(71, 0, 0, 0, 0)]
def cd_X12_plus : Nat → List LI := fun pc => if pc = 0 then b_X12_plus_0 else if pc = 18 then b_X12_plus_18 else if pc = 20 then b_X12_plus_20 else if pc = 37 then b_X12_plus_37 else if pc = 45 then b_X12_plus_45 else []
def b_X12_then_0 : List LI := [(1, 3, 0, 0, 0), (37, 1, 13, 0, 0), (3, 0, 0, 0, 0), (7, 0, 0, 0, 7), (1, 1, 0, 0, 0), (1, 2, 0, 0, 0), (67, 280, 4, 12, 9), (71, 0, 0, 0, 0)]
def b_X12_then_13 : List LI := [(3, 0, 0, 0, 0), (47, 12, 60, 14, 0), (1, 1, 0, 0, 0), (52, 0, 0, 0, 0), (37, 0, 32, 0, 0), (3, 0, 0, 0, 0), (47, 12, 60, 14, 0), (1, 2, 0, 0, 0), (52, 0, 0, 0, 0), (7, 0, 0, 0, 1), (36, 1, 34, 0, 0), (0, 32, 0, 0, 0)]
def b_X12_then_32 : List LI := [(1, 1, 0, 0, 0), (71, 0, 0, 0, 0)]
def b_X12_then_34 : List LI := [(3, 0, 0, 0, 0), (47, 12, 60, 14, 0), (1, 2, 0, 0, 0), (52, 0, 0, 0, 0), (37, 0, 53, 0, 0), (3, 0, 0, 0, 0), (47, 12, 60, 14, 0), (1, 1, 0, 0, 0), (52, 0, 0, 0, 0), (7, 0, 0, 0, 1), (36, 1, 55, 0, 0), (0, 53, 0, 0, 0)]
def b_X12_then_53 : List LI := [(1, 2, 0, 0, 0), (71, 0, 0, 0, 0)]
def b_X12_then_55 : List LI := [(3, 0, 0, 0, 0), (1, 1, 0, 0, 0), (7, 0, 0, 0, 2), (67, 281, 3, 12, 7), (37, 1, 73, 0, 0), (3, 0, 0, 0, 0), (1, 1, 0, 0, 0), (7, 0, 0, 0, 4), (67, 281, 3, 12, 7), (37, 0, 110, 0, 0), (0, 73, 0, 0, 0)]
def b_X12_then_73 : List LI := [(3, 0, 0, 0, 0), (1, 2, 0, 0, 0), (7, 0, 0, 0, 2), (67, 281, 3, 12, 7), (37, 1, 91, 0, 0), (3, 0, 0, 0, 0), (1, 2, 0, 0, 0), (7, 0, 0, 0, 4), (67, 281, 3, 12, 7), (37, 0, 110, 0, 0), (0, 91, 0, 0, 0)]
def b_X12_then_91 : List LI := [(3, 0, 0, 0, 0), (47, 12, 61, 14, 0), (1, 1, 0, 0, 0), (52, 0, 0, 0, 0), (3, 0, 0, 0, 0), (47, 12, 61, 14, 0), (1, 2, 0, 0, 0), (52, 0, 0, 0, 0), (36, 1, 110, 0, 0), (7, 0, 0, 0, 1), (40, 111, 0, 0, 0)]
def b_X12_then_110 : List LI := [(7, 0, 0, 0, 0), (0, 111, 0, 0, 0)]
def b_X12_then_111 : List LI := [(4, 4, 0, 0, 0), (1, 4, 0, 0, 0), (37, 1, 127, 0, 0), (3, 0, 0, 0, 0), (7, 0, 0, 0, 7), (1, 1, 0, 0, 0), (1, 2, 0, 0, 0), (67, 280, 4, 12, 9), (71, 0, 0, 0, 0)]
def b_X12_then_127 : List LI := [(3, 0, 0, 0, 0), (47, 12, 62, 14, 0), (1, 1, 0, 0, 0), (52, 0, 0, 0, 0), (3, 0, 0, 0, 0), (47, 12, 62, 14, 0), (1, 2, 0, 0, 0), (52, 0, 0, 0, 0), (36, 1, 146, 0, 0), (7, 0, 0, 0, 1), (40, 147, 0, 0, 0)]
def b_X12_then_146 : List LI := [(7, 0, 0, 0, 0), (0, 147, 0, 0, 0)]
def b_X12_then_147 : List LI := [(4, 5, 0, 0, 0), (3, 0, 0, 0, 0), (1, 2, 0, 0, 0), (7, 0, 0, 0, 2), (67, 281, 3, 12, 7), (37, 0, 175, 0, 0), (1, 5, 0, 0, 0), (37, 0, 167, 0, 0), (1, 1, 0, 0, 0), (40, 174, 0, 0, 0)]
def b_X12_then_167 : List LI := [(3, 0, 0, 0, 0), (7, 0, 0, 0, 0), (7, 0, 0, 0, 0), (7, 0, 0, 0, 0), (67, 280, 4, 12, 9), (0, 174, 0, 0, 0)]
def b_X12_then_174 : List LI := [(71, 0, 0, 0, 0)]
def b_X12_then_175 : List LI := [(3, 0, 0, 0, 0), (1, 1, 0, 0, 0), (7, 0, 0, 0, 4), (67, 281, 3, 12, 7), (37, 0, 186, 0, 0), (1, 2, 0, 0, 0), (71, 0, 0, 0, 0)]
def b_X12_then_186 : List LI := [(1, 5, 0, 0, 0), (37, 0, 195, 0, 0), (1, 1, 0, 0, 0), (40, 203, 0, 0, 0)]
def b_X12_then_195 : List LI := [(3, 0, 0, 0, 0), (7, 0, 0, 0, 7), (1, 1, 0, 0, 0), (1, 2, 0, 0, 0), (67, 280, 4, 12, 9), (0, 203, 0, 0, 0)]
def b_X12_then_203 : List LI := [(71, 0, 0, 0, 0)]
def cd_X12_then : Nat → List LI := fun pc => if pc = 0 then b_X12_then_0 else if pc = 13 then b_X12_then_13 else if pc = 32 then b_X12_then_32 else if pc = 34 then b_X12_then_34 else if pc = 53 then b_X12_then_53 else if pc = 55 then b_X12_then_55 else if pc = 73 then b_X12_then_73 else if pc = 91 then b_X12_then_91 else if pc = 110 then b_X12_then_110 else if pc = 111 then b_X12_then_111 else if pc = 127 then b_X12_then_127 else if pc = 146 then b_X12_then_146 else if pc = 147 then b_X12_then_147 else if pc = 167 then b_X12_then_167 else if pc = 174 then b_X12_then_174 else if pc = 175 then b_X12_then_175 else if pc = 186 then b_X12_then_186 else if pc = 195 then b_X12_then_195 else if pc = 203 then b_X12_then_203 else []
def b_X12_star_0 : List LI := [(1, 2, 0, 0, 0), (37, 0, 31, 0, 0), (3, 0, 0, 0, 0), (47, 12, 60, 14, 0), (1, 1, 0, 0, 0), (52, 0, 0, 0, 0), (37, 0, 23, 0, 0), (3, 0, 0, 0, 0), (47, 12, 60, 14, 0), (1, 1, 0, 0, 0), (52, 0, 0, 0, 0), (7, 0, 0, 0, 1), (36, 1, 31, 0, 0), (0, 23, 0, 0, 0)]
def b_X12_star_23 : List LI := [(3, 0, 0, 0, 0), (7, 0, 0, 0, 1), (7, 0, 0, 0, 0), (7, 0, 0, 0, 0), (67, 280, 4, 12, 9), (71, 0, 0, 0, 0)]
def b_X12_star_31 : List LI := [(1, 2, 0, 0, 0), (37, 0, 49, 0, 0), (3, 0, 0, 0, 0), (47, 12, 60, 14, 0), (1, 1, 0, 0, 0), (52, 0, 0, 0, 0), (7, 0, 0, 0, 5), (36, 1, 49, 0, 0), (1, 1, 0, 0, 0), (40, 56, 0, 0, 0)]
def b_X12_star_49 : List LI := [(3, 0, 0, 0, 0), (7, 0, 0, 0, 5), (1, 1, 0, 0, 0), (7, 0, 0, 0, 0), (67, 280, 4, 12, 9), (0, 56, 0, 0, 0)]
def b_X12_star_56 : List LI := [(71, 0, 0, 0, 0)]
def cd_X12_star : Nat → List LI := fun pc => if pc = 0 then b_X12_star_0 else if pc = 23 then b_X12_star_23 else if pc = 31 then b_X12_star_31 else if pc = 49 then b_X12_star_49 else if pc = 56 then b_X12_star_56 else []
def b_X12_root_0 : List LI := [(3, 0, 0, 0, 0), (7, 0, 0, 0, 0), (48, 12, 64, 0, 0), (7, 0, 0, 0, 0), (4, 3, 0, 0, 0), (0, 7, 0, 0, 0)]
def b_X12_root_7 : List LI := [(1, 3, 0, 0, 0), (3, 0, 0, 0, 0), (47, 12, 13, 14, 0), (1, 1, 0, 0, 0), (52, 0, 0, 0, 0), (36, 3, 171, 0, 0), (7, 0, 0, 0, 300), (1, 1, 0, 0, 0), (12, 0, 0, 0, 0), (1, 3, 0, 0, 0), (10, 0, 0, 0, 0), (4, 4, 0, 0, 0), (3, 0, 0, 0, 0), (47, 12, 10, 14, 0), (1, 4, 0, 0, 0), (52, 0, 0, 0, 0), (4, 5, 0, 0, 0), (3, 0, 0, 0, 0), (47, 12, 63, 14, 0), (1, 3, 0, 0, 0), (1, 5, 0, 0, 0), (7, 0, 0, 0, 6), (36, 1, 79, 0, 0), (3, 0, 0, 0, 0), (3, 0, 0, 0, 0), (47, 12, 63, 14, 0), (3, 0, 0, 0, 0), (47, 12, 11, 14, 0), (1, 4, 0, 0, 0), (52, 0, 0, 0, 0), (52, 0, 0, 0, 0), (3, 0, 0, 0, 0), (47, 12, 63, 14, 0), (3, 0, 0, 0, 0), (47, 12, 12, 14, 0), (1, 4, 0, 0, 0), (52, 0, 0, 0, 0), (52, 0, 0, 0, 0), (1, 2, 0, 0, 0), (67, 282, 4, 12, 9), (40, 164, 0, 0, 0)]
def b_X12_root_79 : List LI := [(1, 5, 0, 0, 0), (7, 0, 0, 0, 7), (36, 1, 118, 0, 0), (3, 0, 0, 0, 0), (3, 0, 0, 0, 0), (47, 12, 63, 14, 0), (3, 0, 0, 0, 0), (47, 12, 11, 14, 0), (1, 4, 0, 0, 0), (52, 0, 0, 0, 0), (52, 0, 0, 0, 0), (3, 0, 0, 0, 0), (47, 12, 63, 14, 0), (3, 0, 0, 0, 0), (47, 12, 12, 14, 0), (1, 4, 0, 0, 0), (52, 0, 0, 0, 0), (52, 0, 0, 0, 0), (1, 2, 0, 0, 0), (67, 283, 4, 12, 9), (40, 164, 0, 0, 0)]
def b_X12_root_118 : List LI := [(1, 5, 0, 0, 0), (7, 0, 0, 0, 5), (36, 1, 144, 0, 0), (3, 0, 0, 0, 0), (3, 0, 0, 0, 0), (47, 12, 63, 14, 0), (3, 0, 0, 0, 0), (47, 12, 11, 14, 0), (1, 4, 0, 0, 0), (52, 0, 0, 0, 0), (52, 0, 0, 0, 0), (1, 2, 0, 0, 0), (67, 284, 3, 12, 7), (40, 164, 0, 0, 0)]
def b_X12_root_144 : List LI := [(3, 0, 0, 0, 0), (1, 5, 0, 0, 0), (3, 0, 0, 0, 0), (47, 12, 11, 14, 0), (1, 4, 0, 0, 0), (52, 0, 0, 0, 0), (3, 0, 0, 0, 0), (47, 12, 12, 14, 0), (1, 4, 0, 0, 0), (52, 0, 0, 0, 0), (67, 280, 4, 12, 9), (0, 164, 0, 0, 0)]
def b_X12_root_164 : List LI := [(57, 0, 0, 0, 0), (35, 3, 0, 0, 1), (40, 7, 0, 0, 0)]
def b_X12_root_171 : List LI := [(3, 0, 0, 0, 0), (47, 12, 63, 14, 0), (3, 0, 0, 0, 0), (47, 12, 13, 14, 0), (1, 1, 0, 0, 0), (52, 0, 0, 0, 0), (7, 0, 0, 0, 1), (11, 0, 0, 0, 0), (52, 0, 0, 0, 0), (71, 0, 0, 0, 0)]
def cd_X12_root : Nat → List LI := fun pc => if pc = 0 then b_X12_root_0 else if pc = 7 then b_X12_root_7 else if pc = 79 then b_X12_root_79 else if pc = 118 then b_X12_root_118 else if pc = 144 then b_X12_root_144 else if pc = 164 then b_X12_root_164 else if pc = 171 then b_X12_root_171 else []
def b_X12_later_0 : List LI := [(3, 0, 0, 0, 0), (47, 12, 66, 14, 0), (3, 0, 0, 0, 0), (45, 12, 68, 0, 0), (1, 1, 0, 0, 0), (57, 0, 0, 0, 0), (3, 0, 0, 0, 0), (42, 0, 0, 0, 0), (45, 12, 68, 0, 0), (7, 0, 0, 0, 1), (10, 0, 0, 0, 0), (48, 12, 68, 0, 0), (74, 0, 0, 0, 0)]
def cd_X12_later : Nat → List LI := fun pc => if pc = 0 then b_X12_later_0 else []
def b_X12_laterNode_0 : List LI := [(1, 2, 0, 0, 0), (37, 0, 11, 0, 0), (3, 0, 0, 0, 0), (7, 0, 0, 0, 10041), (67, 286, 2, 12, 5), (0, 11, 0, 0, 0)]
def b_X12_laterNode_11 : List LI := [(3, 0, 0, 0, 0), (1, 1, 0, 0, 0), (67, 286, 2, 12, 5), (1, 2, 0, 0, 0), (37, 0, 27, 0, 0), (3, 0, 0, 0, 0), (7, 0, 0, 0, 10040), (67, 286, 2, 12, 5), (0, 27, 0, 0, 0)]
def b_X12_laterNode_27 : List LI := [(74, 0, 0, 0, 0)]
def cd_X12_laterNode : Nat → List LI := fun pc => if pc = 0 then b_X12_laterNode_0 else if pc = 11 then b_X12_laterNode_11 else if pc = 27 then b_X12_laterNode_27 else []
def b_X12_put1_0 : List LI := [(3, 0, 0, 0, 0), (47, 12, 65, 13, 0), (3, 0, 0, 0, 0), (45, 12, 67, 0, 0), (1, 1, 0, 0, 0), (34, 0, 0, 0, 0), (59, 0, 0, 0, 0), (3, 0, 0, 0, 0), (42, 0, 0, 0, 0), (45, 12, 67, 0, 0), (7, 0, 0, 0, 1), (10, 0, 0, 0, 0), (48, 12, 67, 0, 0), (74, 0, 0, 0, 0)]
def cd_X12_put1 : Nat → List LI := fun pc => if pc = 0 then b_X12_put1_0 else []
def b_X12_tells_0 : List LI := [(3, 0, 0, 0, 0), (47, 12, 60, 14, 0), (1, 1, 0, 0, 0), (52, 0, 0, 0, 0), (4, 2, 0, 0, 0), (1, 2, 0, 0, 0), (7, 0, 0, 0, 6), (36, 0, 19, 0, 0), (1, 2, 0, 0, 0), (7, 0, 0, 0, 7), (36, 1, 125, 0, 0), (0, 19, 0, 0, 0)]
def b_X12_tells_19 : List LI := [(3, 0, 0, 0, 0), (47, 12, 62, 14, 0), (1, 1, 0, 0, 0), (52, 0, 0, 0, 0), (4, 3, 0, 0, 0), (3, 0, 0, 0, 0), (47, 12, 61, 14, 0), (1, 1, 0, 0, 0), (52, 0, 0, 0, 0), (4, 4, 0, 0, 0), (3, 0, 0, 0, 0), (1, 3, 0, 0, 0), (3, 0, 0, 0, 0), (47, 12, 60, 14, 0), (1, 3, 0, 0, 0), (52, 0, 0, 0, 0), (7, 0, 0, 0, 6), (36, 0, 64, 0, 0), (1, 2, 0, 0, 0), (7, 0, 0, 0, 7), (36, 1, 68, 0, 0), (3, 0, 0, 0, 0), (47, 12, 60, 14, 0), (1, 3, 0, 0, 0), (52, 0, 0, 0, 0), (7, 0, 0, 0, 7), (36, 1, 68, 0, 0), (0, 64, 0, 0, 0)]
def b_X12_tells_64 : List LI := [(7, 0, 0, 0, 1), (40, 69, 0, 0, 0)]
def b_X12_tells_68 : List LI := [(7, 0, 0, 0, 0), (0, 69, 0, 0, 0)]
def b_X12_tells_69 : List LI := [(67, 287, 3, 12, 7), (3, 0, 0, 0, 0), (7, 0, 0, 0, 10000), (1, 2, 0, 0, 0), (7, 0, 0, 0, 6), (36, 1, 87, 0, 0), (7, 0, 0, 0, 43), (40, 89, 0, 0, 0)]
def b_X12_tells_87 : List LI := [(7, 0, 0, 0, 59), (0, 89, 0, 0, 0)]
def b_X12_tells_89 : List LI := [(10, 0, 0, 0, 0), (67, 286, 2, 12, 5), (3, 0, 0, 0, 0), (1, 4, 0, 0, 0), (1, 2, 0, 0, 0), (7, 0, 0, 0, 7), (36, 1, 118, 0, 0), (3, 0, 0, 0, 0), (47, 12, 60, 14, 0), (1, 4, 0, 0, 0), (52, 0, 0, 0, 0), (7, 0, 0, 0, 6), (36, 1, 118, 0, 0), (7, 0, 0, 0, 1), (40, 119, 0, 0, 0)]
def b_X12_tells_118 : List LI := [(7, 0, 0, 0, 0), (0, 119, 0, 0, 0)]
def b_X12_tells_119 : List LI := [(67, 287, 3, 12, 7), (40, 290, 0, 0, 0)]
def b_X12_tells_125 : List LI := [(1, 2, 0, 0, 0), (7, 0, 0, 0, 5), (36, 1, 179, 0, 0), (3, 0, 0, 0, 0), (47, 12, 61, 14, 0), (1, 1, 0, 0, 0), (52, 0, 0, 0, 0), (4, 3, 0, 0, 0), (3, 0, 0, 0, 0), (7, 0, 0, 0, 10042), (67, 286, 2, 12, 5), (3, 0, 0, 0, 0), (1, 3, 0, 0, 0), (3, 0, 0, 0, 0), (47, 12, 60, 14, 0), (1, 3, 0, 0, 0), (52, 0, 0, 0, 0), (7, 0, 0, 0, 6), (36, 0, 168, 0, 0), (3, 0, 0, 0, 0), (47, 12, 60, 14, 0), (1, 3, 0, 0, 0), (52, 0, 0, 0, 0), (7, 0, 0, 0, 7), (36, 1, 172, 0, 0), (0, 168, 0, 0, 0)]
def b_X12_tells_168 : List LI := [(7, 0, 0, 0, 1), (40, 173, 0, 0, 0)]
def b_X12_tells_172 : List LI := [(7, 0, 0, 0, 0), (0, 173, 0, 0, 0)]
def b_X12_tells_173 : List LI := [(67, 287, 3, 12, 7), (40, 290, 0, 0, 0)]
def b_X12_tells_179 : List LI := [(1, 2, 0, 0, 0), (37, 0, 188, 0, 0), (1, 2, 0, 0, 0), (7, 0, 0, 0, 1), (36, 1, 206, 0, 0), (0, 188, 0, 0, 0)]
def b_X12_tells_188 : List LI := [(3, 0, 0, 0, 0), (1, 2, 0, 0, 0), (37, 1, 198, 0, 0), (7, 0, 0, 0, 48), (40, 200, 0, 0, 0)]
def b_X12_tells_198 : List LI := [(7, 0, 0, 0, 49), (0, 200, 0, 0, 0)]
def b_X12_tells_200 : List LI := [(67, 288, 2, 12, 5), (40, 290, 0, 0, 0)]
def b_X12_tells_206 : List LI := [(1, 2, 0, 0, 0), (7, 0, 0, 0, 3), (36, 1, 217, 0, 0), (3, 0, 0, 0, 0), (7, 0, 0, 0, 33), (67, 288, 2, 12, 5), (0, 217, 0, 0, 0)]
def b_X12_tells_217 : List LI := [(3, 0, 0, 0, 0), (3, 0, 0, 0, 0), (47, 12, 61, 14, 0), (1, 1, 0, 0, 0), (52, 0, 0, 0, 0), (7, 0, 0, 0, 3), (36, 1, 233, 0, 0), (7, 0, 0, 0, 97), (40, 242, 0, 0, 0)]
def b_X12_tells_233 : List LI := [(7, 0, 0, 0, 97), (3, 0, 0, 0, 0), (47, 12, 61, 14, 0), (1, 1, 0, 0, 0), (52, 0, 0, 0, 0), (10, 0, 0, 0, 0), (0, 242, 0, 0, 0)]
def b_X12_tells_242 : List LI := [(67, 288, 2, 12, 5), (3, 0, 0, 0, 0), (47, 12, 61, 14, 0), (1, 1, 0, 0, 0), (52, 0, 0, 0, 0), (7, 0, 0, 0, 3), (36, 1, 261, 0, 0), (3, 0, 0, 0, 0), (7, 0, 0, 0, 116), (67, 288, 2, 12, 5), (0, 261, 0, 0, 0)]
def b_X12_tells_261 : List LI := [(3, 0, 0, 0, 0), (1, 2, 0, 0, 0), (7, 0, 0, 0, 4), (36, 1, 272, 0, 0), (7, 0, 0, 0, 58), (40, 274, 0, 0, 0)]
def b_X12_tells_272 : List LI := [(7, 0, 0, 0, 61), (0, 274, 0, 0, 0)]
def b_X12_tells_274 : List LI := [(67, 288, 2, 12, 5), (3, 0, 0, 0, 0), (7, 0, 0, 0, 48), (3, 0, 0, 0, 0), (47, 12, 62, 14, 0), (1, 1, 0, 0, 0), (52, 0, 0, 0, 0), (10, 0, 0, 0, 0), (67, 288, 2, 12, 5), (0, 290, 0, 0, 0)]
def b_X12_tells_290 : List LI := [(74, 0, 0, 0, 0)]
def cd_X12_tells : Nat → List LI := fun pc => if pc = 0 then b_X12_tells_0 else if pc = 19 then b_X12_tells_19 else if pc = 64 then b_X12_tells_64 else if pc = 68 then b_X12_tells_68 else if pc = 69 then b_X12_tells_69 else if pc = 87 then b_X12_tells_87 else if pc = 89 then b_X12_tells_89 else if pc = 118 then b_X12_tells_118 else if pc = 119 then b_X12_tells_119 else if pc = 125 then b_X12_tells_125 else if pc = 168 then b_X12_tells_168 else if pc = 172 then b_X12_tells_172 else if pc = 173 then b_X12_tells_173 else if pc = 179 then b_X12_tells_179 else if pc = 188 then b_X12_tells_188 else if pc = 198 then b_X12_tells_198 else if pc = 200 then b_X12_tells_200 else if pc = 206 then b_X12_tells_206 else if pc = 217 then b_X12_tells_217 else if pc = 233 then b_X12_tells_233 else if pc = 242 then b_X12_tells_242 else if pc = 261 then b_X12_tells_261 else if pc = 272 then b_X12_tells_272 else if pc = 274 then b_X12_tells_274 else if pc = 290 then b_X12_tells_290 else []
def b_X12_tell_0 : List LI := [(3, 0, 0, 0, 0), (1, 1, 0, 0, 0), (67, 227, 2, 12, 5), (37, 1, 10, 0, 0), (7, 0, 0, 0, (-1)), (71, 0, 0, 0, 0)]
def b_X12_tell_10 : List LI := [(3, 0, 0, 0, 0), (1, 1, 0, 0, 0), (1, 2, 0, 0, 0), (67, 285, 3, 12, 7), (4, 3, 0, 0, 0), (3, 0, 0, 0, 0), (7, 0, 0, 0, 0), (48, 12, 67, 0, 0), (3, 0, 0, 0, 0), (7, 0, 0, 0, 0), (48, 12, 68, 0, 0), (3, 0, 0, 0, 0), (1, 3, 0, 0, 0), (67, 286, 2, 12, 5), (0, 32, 0, 0, 0)]
def b_X12_tell_32 : List LI := [(3, 0, 0, 0, 0), (45, 12, 68, 0, 0), (37, 5, 90, 0, 0), (3, 0, 0, 0, 0), (42, 0, 0, 0, 0), (45, 12, 68, 0, 0), (7, 0, 0, 0, 1), (11, 0, 0, 0, 0), (48, 12, 68, 0, 0), (3, 0, 0, 0, 0), (47, 12, 66, 14, 0), (3, 0, 0, 0, 0), (45, 12, 68, 0, 0), (52, 0, 0, 0, 0), (4, 4, 0, 0, 0), (1, 4, 0, 0, 0), (7, 0, 0, 0, 10000), (36, 2, 81, 0, 0), (3, 0, 0, 0, 0), (1, 4, 0, 0, 0), (7, 0, 0, 0, 10000), (11, 0, 0, 0, 0), (67, 288, 2, 12, 5), (40, 87, 0, 0, 0)]
def b_X12_tell_81 : List LI := [(3, 0, 0, 0, 0), (1, 4, 0, 0, 0), (67, 289, 2, 12, 5), (0, 87, 0, 0, 0)]
def b_X12_tell_87 : List LI := [(40, 32, 0, 0, 0)]
def b_X12_tell_90 : List LI := [(3, 0, 0, 0, 0), (45, 12, 67, 0, 0), (71, 0, 0, 0, 0)]
def cd_X12_tell : Nat → List LI := fun pc => if pc = 0 then b_X12_tell_0 else if pc = 10 then b_X12_tell_10 else if pc = 32 then b_X12_tell_32 else if pc = 81 then b_X12_tell_81 else if pc = 87 then b_X12_tell_87 else if pc = 90 then b_X12_tell_90 else []
def b_X12_octet_0 : List LI := [(1, 1, 0, 0, 0), (32, 0, 0, 0, 0), (8, 0, 0, 0, 0), (3, 0, 0, 0, 0), (45, 12, 67, 0, 0), (7, 0, 0, 0, 1), (11, 0, 0, 0, 0), (32, 0, 0, 0, 0), (67, 199, 3, 0, 12), (37, 0, 25, 0, 0), (3, 0, 0, 0, 0), (47, 12, 65, 13, 0), (1, 1, 0, 0, 0), (54, 0, 0, 0, 0), (40, 26, 0, 0, 0)]
def b_X12_octet_25 : List LI := [(7, 0, 0, 0, (-1)), (0, 26, 0, 0, 0)]
def b_X12_octet_26 : List LI := [(71, 0, 0, 0, 0)]
def cd_X12_octet : Nat → List LI := fun pc => if pc = 0 then b_X12_octet_0 else if pc = 25 then b_X12_octet_25 else if pc = 26 then b_X12_octet_26 else []
def b_X12_cable_0 : List LI := [(3, 0, 0, 0, 0), (45, 12, 69, 0, 0), (7, 0, 0, 0, 16), (36, 0, 28, 0, 0), (1, 1, 0, 0, 0), (67, 201, 1, 0, 2), (37, 0, 28, 0, 0), (1, 2, 0, 0, 0), (67, 201, 1, 0, 2), (37, 0, 28, 0, 0), (1, 1, 0, 0, 0), (1, 2, 0, 0, 0), (36, 1, 30, 0, 0), (0, 28, 0, 0, 0)]
def b_X12_cable_28 : List LI := [(7, 0, 0, 0, (-1)), (71, 0, 0, 0, 0)]
def b_X12_cable_30 : List LI := [(3, 0, 0, 0, 0), (47, 12, 71, 14, 0), (3, 0, 0, 0, 0), (45, 12, 69, 0, 0), (1, 1, 0, 0, 0), (57, 0, 0, 0, 0), (3, 0, 0, 0, 0), (47, 12, 72, 14, 0), (3, 0, 0, 0, 0), (45, 12, 69, 0, 0), (1, 2, 0, 0, 0), (57, 0, 0, 0, 0), (3, 0, 0, 0, 0), (42, 0, 0, 0, 0), (45, 12, 69, 0, 0), (7, 0, 0, 0, 1), (10, 0, 0, 0, 0), (48, 12, 69, 0, 0), (3, 0, 0, 0, 0), (45, 12, 69, 0, 0), (7, 0, 0, 0, 1), (11, 0, 0, 0, 0), (71, 0, 0, 0, 0)]
def cd_X12_cable : Nat → List LI := fun pc => if pc = 0 then b_X12_cable_0 else if pc = 28 then b_X12_cable_28 else if pc = 30 then b_X12_cable_30 else []
def b_X12_edges_0 : List LI := [(1, 1, 0, 0, 0), (32, 0, 0, 0, 0), (8, 0, 0, 0, 0), (8, 0, 0, 0, 255), (67, 199, 3, 0, 12), (37, 1, 14, 0, 0), (7, 0, 0, 0, (-1)), (71, 0, 0, 0, 0)]
def b_X12_edges_14 : List LI := [(3, 0, 0, 0, 0), (45, 12, 70, 0, 0), (4, 2, 0, 0, 0), (3, 0, 0, 0, 0), (1, 1, 0, 0, 0), (48, 12, 70, 0, 0), (1, 2, 0, 0, 0), (71, 0, 0, 0, 0)]
def cd_X12_edges : Nat → List LI := fun pc => if pc = 0 then b_X12_edges_0 else if pc = 14 then b_X12_edges_14 else []
def b_X12_reached_0 : List LI := [(7, 0, 0, 0, 1), (1, 1, 0, 0, 0), (16, 0, 0, 0, 0), (4, 3, 0, 0, 0), (7, 0, 0, 0, 0), (4, 4, 0, 0, 0), (0, 7, 0, 0, 0)]
def b_X12_reached_7 : List LI := [(1, 4, 0, 0, 0), (1, 3, 0, 0, 0), (36, 0, 130, 0, 0), (1, 3, 0, 0, 0), (4, 4, 0, 0, 0), (1, 3, 0, 0, 0), (1, 3, 0, 0, 0), (3, 0, 0, 0, 0), (45, 12, 70, 0, 0), (19, 0, 0, 0, 0), (37, 0, 33, 0, 0), (3, 0, 0, 0, 0), (45, 12, 70, 0, 0), (40, 34, 0, 0, 0)]
def b_X12_reached_33 : List LI := [(7, 0, 0, 0, 0), (0, 34, 0, 0, 0)]
def b_X12_reached_34 : List LI := [(20, 0, 0, 0, 0), (4, 3, 0, 0, 0), (7, 0, 0, 0, 0), (4, 5, 0, 0, 0), (0, 39, 0, 0, 0)]
def b_X12_reached_39 : List LI := [(1, 5, 0, 0, 0), (3, 0, 0, 0, 0), (45, 12, 69, 0, 0), (36, 3, 127, 0, 0), (1, 2, 0, 0, 0), (1, 5, 0, 0, 0), (17, 0, 0, 0, 0), (7, 0, 0, 0, 1), (19, 0, 0, 0, 0), (7, 0, 0, 0, 1), (36, 1, 87, 0, 0), (1, 3, 0, 0, 0), (3, 0, 0, 0, 0), (47, 12, 71, 14, 0), (1, 5, 0, 0, 0), (52, 0, 0, 0, 0), (17, 0, 0, 0, 0), (1, 3, 0, 0, 0), (3, 0, 0, 0, 0), (47, 12, 72, 14, 0), (1, 5, 0, 0, 0), (52, 0, 0, 0, 0), (17, 0, 0, 0, 0), (20, 0, 0, 0, 0), (7, 0, 0, 0, 1), (19, 0, 0, 0, 0), (7, 0, 0, 0, 1), (36, 1, 87, 0, 0), (7, 0, 0, 0, 1), (40, 88, 0, 0, 0)]
def b_X12_reached_87 : List LI := [(7, 0, 0, 0, 0), (0, 88, 0, 0, 0)]
def b_X12_reached_88 : List LI := [(4, 6, 0, 0, 0), (1, 3, 0, 0, 0), (1, 6, 0, 0, 0), (37, 0, 118, 0, 0), (7, 0, 0, 0, 1), (3, 0, 0, 0, 0), (47, 12, 71, 14, 0), (1, 5, 0, 0, 0), (52, 0, 0, 0, 0), (16, 0, 0, 0, 0), (7, 0, 0, 0, 1), (3, 0, 0, 0, 0), (47, 12, 72, 14, 0), (1, 5, 0, 0, 0), (52, 0, 0, 0, 0), (16, 0, 0, 0, 0), (20, 0, 0, 0, 0), (40, 119, 0, 0, 0)]
def b_X12_reached_118 : List LI := [(7, 0, 0, 0, 0), (0, 119, 0, 0, 0)]
def b_X12_reached_119 : List LI := [(20, 0, 0, 0, 0), (4, 3, 0, 0, 0), (35, 5, 0, 0, 1), (40, 39, 0, 0, 0)]
def b_X12_reached_127 : List LI := [(40, 7, 0, 0, 0)]
def b_X12_reached_130 : List LI := [(1, 3, 0, 0, 0), (71, 0, 0, 0, 0)]
def cd_X12_reached : Nat → List LI := fun pc => if pc = 0 then b_X12_reached_0 else if pc = 7 then b_X12_reached_7 else if pc = 33 then b_X12_reached_33 else if pc = 34 then b_X12_reached_34 else if pc = 39 then b_X12_reached_39 else if pc = 87 then b_X12_reached_87 else if pc = 88 then b_X12_reached_88 else if pc = 118 then b_X12_reached_118 else if pc = 119 then b_X12_reached_119 else if pc = 127 then b_X12_reached_127 else if pc = 130 then b_X12_reached_130 else []
def b_X12_isKnown_0 : List LI := [(1, 2, 0, 0, 0), (1, 1, 0, 0, 0), (17, 0, 0, 0, 0), (7, 0, 0, 0, 1), (19, 0, 0, 0, 0), (7, 0, 0, 0, 1), (36, 1, 11, 0, 0), (7, 0, 0, 0, 1), (71, 1, 0, 0, 0)]
def b_X12_isKnown_11 : List LI := [(7, 0, 0, 0, 1), (3, 0, 0, 0, 0), (45, 12, 69, 0, 0), (16, 0, 0, 0, 0), (7, 0, 0, 0, 1), (11, 0, 0, 0, 0), (1, 2, 0, 0, 0), (7, 0, 0, 0, (-1)), (21, 0, 0, 0, 0), (19, 0, 0, 0, 0), (7, 0, 0, 0, 1), (1, 1, 0, 0, 0), (16, 0, 0, 0, 0), (7, 0, 0, 0, (-1)), (21, 0, 0, 0, 0), (19, 0, 0, 0, 0), (4, 3, 0, 0, 0), (3, 0, 0, 0, 0), (3, 0, 0, 0, 0), (47, 12, 71, 14, 0), (1, 1, 0, 0, 0), (52, 0, 0, 0, 0), (1, 3, 0, 0, 0), (67, 294, 3, 12, 7), (3, 0, 0, 0, 0), (47, 12, 72, 14, 0), (1, 1, 0, 0, 0), (52, 0, 0, 0, 0), (17, 0, 0, 0, 0), (7, 0, 0, 0, 1), (19, 0, 0, 0, 0), (37, 1, 57, 0, 0), (7, 0, 0, 0, 1), (40, 58, 0, 0, 0)]
def b_X12_isKnown_57 : List LI := [(7, 0, 0, 0, 0), (0, 58, 0, 0, 0)]
def b_X12_isKnown_58 : List LI := [(71, 1, 0, 0, 0)]
def cd_X12_isKnown : Nat → List LI := fun pc => if pc = 0 then b_X12_isKnown_0 else if pc = 11 then b_X12_isKnown_11 else if pc = 57 then b_X12_isKnown_57 else if pc = 58 then b_X12_isKnown_58 else []
def b_X12_isCables_0 : List LI := [(1, 1, 0, 0, 0), (37, 2, 17, 0, 0), (1, 1, 0, 0, 0), (3, 0, 0, 0, 0), (45, 12, 69, 0, 0), (17, 0, 0, 0, 0), (37, 1, 17, 0, 0), (7, 0, 0, 0, 1), (40, 18, 0, 0, 0)]
def b_X12_isCables_17 : List LI := [(7, 0, 0, 0, 0), (0, 18, 0, 0, 0)]
def b_X12_isCables_18 : List LI := [(71, 1, 0, 0, 0)]
def cd_X12_isCables : Nat → List LI := fun pc => if pc = 0 then b_X12_isCables_0 else if pc = 17 then b_X12_isCables_17 else if pc = 18 then b_X12_isCables_18 else []
def b_X12_known_0 : List LI := [(3, 0, 0, 0, 0), (1, 1, 0, 0, 0), (67, 296, 2, 12, 5), (37, 1, 10, 0, 0), (7, 0, 0, 0, (-1)), (71, 0, 0, 0, 0)]
def b_X12_known_10 : List LI := [(7, 0, 0, 0, 0), (4, 2, 0, 0, 0), (7, 0, 0, 0, 0), (4, 3, 0, 0, 0), (0, 14, 0, 0, 0)]
def b_X12_known_14 : List LI := [(1, 3, 0, 0, 0), (3, 0, 0, 0, 0), (45, 12, 69, 0, 0), (36, 3, 47, 0, 0), (1, 2, 0, 0, 0), (3, 0, 0, 0, 0), (1, 3, 0, 0, 0), (1, 1, 0, 0, 0), (67, 295, 3, 12, 7), (37, 0, 38, 0, 0), (7, 0, 0, 0, 1), (1, 3, 0, 0, 0), (16, 0, 0, 0, 0), (40, 39, 0, 0, 0)]
def b_X12_known_38 : List LI := [(7, 0, 0, 0, 0), (0, 39, 0, 0, 0)]
def b_X12_known_39 : List LI := [(20, 0, 0, 0, 0), (4, 2, 0, 0, 0), (35, 3, 0, 0, 1), (40, 14, 0, 0, 0)]
def b_X12_known_47 : List LI := [(1, 2, 0, 0, 0), (71, 0, 0, 0, 0)]
def cd_X12_known : Nat → List LI := fun pc => if pc = 0 then b_X12_known_0 else if pc = 10 then b_X12_known_10 else if pc = 14 then b_X12_known_14 else if pc = 38 then b_X12_known_38 else if pc = 39 then b_X12_known_39 else if pc = 47 then b_X12_known_47 else []
def b_X12_taps_0 : List LI := [(3, 0, 0, 0, 0), (1, 1, 0, 0, 0), (67, 296, 2, 12, 5), (37, 1, 10, 0, 0), (7, 0, 0, 0, (-1)), (71, 0, 0, 0, 0)]
def b_X12_taps_10 : List LI := [(7, 0, 0, 0, 0), (4, 2, 0, 0, 0), (0, 12, 0, 0, 0)]
def b_X12_taps_12 : List LI := [(1, 2, 0, 0, 0), (3, 0, 0, 0, 0), (45, 12, 69, 0, 0), (36, 4, 115, 0, 0), (7, 0, 0, 0, 0), (4, 3, 0, 0, 0), (0, 22, 0, 0, 0)]
def b_X12_taps_22 : List LI := [(1, 3, 0, 0, 0), (7, 0, 0, 0, 1), (3, 0, 0, 0, 0), (45, 12, 69, 0, 0), (16, 0, 0, 0, 0), (36, 3, 109, 0, 0), (1, 3, 0, 0, 0), (67, 265, 1, 0, 2), (1, 2, 0, 0, 0), (36, 1, 44, 0, 0), (7, 0, 0, 0, 1), (40, 45, 0, 0, 0)]
def b_X12_taps_44 : List LI := [(7, 0, 0, 0, 0), (0, 45, 0, 0, 0)]
def b_X12_taps_45 : List LI := [(4, 4, 0, 0, 0), (7, 0, 0, 0, 0), (4, 5, 0, 0, 0), (0, 50, 0, 0, 0)]
def b_X12_taps_50 : List LI := [(1, 5, 0, 0, 0), (3, 0, 0, 0, 0), (45, 12, 69, 0, 0), (36, 3, 96, 0, 0), (1, 4, 0, 0, 0), (37, 0, 96, 0, 0), (1, 1, 0, 0, 0), (1, 5, 0, 0, 0), (17, 0, 0, 0, 0), (7, 0, 0, 0, 1), (19, 0, 0, 0, 0), (37, 0, 83, 0, 0), (3, 0, 0, 0, 0), (1, 5, 0, 0, 0), (1, 3, 0, 0, 0), (67, 295, 3, 12, 7), (37, 0, 87, 0, 0), (0, 83, 0, 0, 0)]
def b_X12_taps_83 : List LI := [(7, 0, 0, 0, 1), (40, 88, 0, 0, 0)]
def b_X12_taps_87 : List LI := [(7, 0, 0, 0, 0), (0, 88, 0, 0, 0)]
def b_X12_taps_88 : List LI := [(4, 4, 0, 0, 0), (35, 5, 0, 0, 1), (40, 50, 0, 0, 0)]
def b_X12_taps_96 : List LI := [(1, 4, 0, 0, 0), (37, 0, 103, 0, 0), (1, 3, 0, 0, 0), (71, 0, 0, 0, 0)]
def b_X12_taps_103 : List LI := [(35, 3, 0, 0, 1), (40, 22, 0, 0, 0)]
def b_X12_taps_109 : List LI := [(35, 2, 0, 0, 1), (40, 12, 0, 0, 0)]
def b_X12_taps_115 : List LI := [(7, 0, 0, 0, (-1)), (71, 0, 0, 0, 0)]
def cd_X12_taps : Nat → List LI := fun pc => if pc = 0 then b_X12_taps_0 else if pc = 10 then b_X12_taps_10 else if pc = 12 then b_X12_taps_12 else if pc = 22 then b_X12_taps_22 else if pc = 44 then b_X12_taps_44 else if pc = 45 then b_X12_taps_45 else if pc = 50 then b_X12_taps_50 else if pc = 83 then b_X12_taps_83 else if pc = 87 then b_X12_taps_87 else if pc = 88 then b_X12_taps_88 else if pc = 96 then b_X12_taps_96 else if pc = 103 then b_X12_taps_103 else if pc = 109 then b_X12_taps_109 else if pc = 115 then b_X12_taps_115 else []
def b_X12_rightFor_0 : List LI := [(7, 0, 0, 0, (-1)), (4, 3, 0, 0, 0), (7, 0, 0, 0, 0), (4, 4, 0, 0, 0), (7, 0, 0, 0, 0), (4, 5, 0, 0, 0), (7, 0, 0, 0, 1), (4, 6, 0, 0, 0), (7, 0, 0, 0, 1), (4, 7, 0, 0, 0), (7, 0, 0, 0, 1), (4, 8, 0, 0, 0), (7, 0, 0, 0, 1), (4, 9, 0, 0, 0), (7, 0, 0, 0, 1), (4, 10, 0, 0, 0), (7, 0, 0, 0, 1), (4, 11, 0, 0, 0), (7, 0, 0, 0, 1), (4, 12, 0, 0, 0), (7, 0, 0, 0, 0), (4, 13, 0, 0, 0), (0, 32, 0, 0, 0)]
def b_X12_rightFor_32 : List LI := [(1, 13, 0, 0, 0), (7, 0, 0, 0, 64), (36, 3, 275, 0, 0), (1, 1, 0, 0, 0), (7, 0, 0, 0, 64), (1, 2, 0, 0, 0), (12, 0, 0, 0, 0), (1, 13, 0, 0, 0), (10, 0, 0, 0, 0), (67, 251, 2, 0, 4), (37, 0, 269, 0, 0), (3, 0, 0, 0, 0), (47, 12, 73, 14, 0), (1, 13, 0, 0, 0), (52, 0, 0, 0, 0), (4, 14, 0, 0, 0), (35, 5, 0, 0, 1), (1, 14, 0, 0, 0), (7, 0, 0, 0, (-1)), (36, 0, 269, 0, 0), (1, 3, 0, 0, 0), (7, 0, 0, 0, (-1)), (36, 1, 81, 0, 0), (1, 14, 0, 0, 0), (40, 82, 0, 0, 0)]
def b_X12_rightFor_81 : List LI := [(1, 3, 0, 0, 0), (0, 82, 0, 0, 0)]
def b_X12_rightFor_82 : List LI := [(4, 3, 0, 0, 0), (35, 4, 0, 0, 1), (1, 6, 0, 0, 0), (37, 0, 107, 0, 0), (1, 14, 0, 0, 0), (7, 0, 0, 0, 6), (17, 0, 0, 0, 0), (1, 3, 0, 0, 0), (7, 0, 0, 0, 6), (17, 0, 0, 0, 0), (36, 1, 107, 0, 0), (7, 0, 0, 0, 1), (40, 108, 0, 0, 0)]
def b_X12_rightFor_107 : List LI := [(7, 0, 0, 0, 0), (0, 108, 0, 0, 0)]
def b_X12_rightFor_108 : List LI := [(4, 6, 0, 0, 0), (1, 7, 0, 0, 0), (37, 0, 134, 0, 0), (1, 14, 0, 0, 0), (7, 0, 0, 0, 0), (67, 202, 2, 0, 4), (1, 13, 0, 0, 0), (7, 0, 0, 0, 0), (67, 202, 2, 0, 4), (36, 1, 134, 0, 0), (7, 0, 0, 0, 1), (40, 135, 0, 0, 0)]
def b_X12_rightFor_134 : List LI := [(7, 0, 0, 0, 0), (0, 135, 0, 0, 0)]
def b_X12_rightFor_135 : List LI := [(4, 7, 0, 0, 0), (1, 8, 0, 0, 0), (37, 0, 161, 0, 0), (1, 14, 0, 0, 0), (7, 0, 0, 0, 1), (67, 202, 2, 0, 4), (1, 13, 0, 0, 0), (7, 0, 0, 0, 1), (67, 202, 2, 0, 4), (36, 1, 161, 0, 0), (7, 0, 0, 0, 1), (40, 162, 0, 0, 0)]
def b_X12_rightFor_161 : List LI := [(7, 0, 0, 0, 0), (0, 162, 0, 0, 0)]
def b_X12_rightFor_162 : List LI := [(4, 8, 0, 0, 0), (1, 9, 0, 0, 0), (37, 0, 188, 0, 0), (1, 14, 0, 0, 0), (7, 0, 0, 0, 2), (67, 202, 2, 0, 4), (1, 13, 0, 0, 0), (7, 0, 0, 0, 2), (67, 202, 2, 0, 4), (36, 1, 188, 0, 0), (7, 0, 0, 0, 1), (40, 189, 0, 0, 0)]
def b_X12_rightFor_188 : List LI := [(7, 0, 0, 0, 0), (0, 189, 0, 0, 0)]
def b_X12_rightFor_189 : List LI := [(4, 9, 0, 0, 0), (1, 10, 0, 0, 0), (37, 0, 214, 0, 0), (1, 14, 0, 0, 0), (7, 0, 0, 0, 0), (67, 202, 2, 0, 4), (1, 3, 0, 0, 0), (7, 0, 0, 0, 0), (67, 202, 2, 0, 4), (36, 1, 214, 0, 0), (7, 0, 0, 0, 1), (40, 215, 0, 0, 0)]
def b_X12_rightFor_214 : List LI := [(7, 0, 0, 0, 0), (0, 215, 0, 0, 0)]
def b_X12_rightFor_215 : List LI := [(4, 10, 0, 0, 0), (1, 11, 0, 0, 0), (37, 0, 240, 0, 0), (1, 14, 0, 0, 0), (7, 0, 0, 0, 1), (67, 202, 2, 0, 4), (1, 3, 0, 0, 0), (7, 0, 0, 0, 1), (67, 202, 2, 0, 4), (36, 1, 240, 0, 0), (7, 0, 0, 0, 1), (40, 241, 0, 0, 0)]
def b_X12_rightFor_240 : List LI := [(7, 0, 0, 0, 0), (0, 241, 0, 0, 0)]
def b_X12_rightFor_241 : List LI := [(4, 11, 0, 0, 0), (1, 12, 0, 0, 0), (37, 0, 266, 0, 0), (1, 14, 0, 0, 0), (7, 0, 0, 0, 2), (67, 202, 2, 0, 4), (1, 3, 0, 0, 0), (7, 0, 0, 0, 2), (67, 202, 2, 0, 4), (36, 1, 266, 0, 0), (7, 0, 0, 0, 1), (40, 267, 0, 0, 0)]
def b_X12_rightFor_266 : List LI := [(7, 0, 0, 0, 0), (0, 267, 0, 0, 0)]
def b_X12_rightFor_267 : List LI := [(4, 12, 0, 0, 0), (0, 269, 0, 0, 0)]
def b_X12_rightFor_269 : List LI := [(35, 13, 0, 0, 1), (40, 32, 0, 0, 0)]
def b_X12_rightFor_275 : List LI := [(1, 4, 0, 0, 0), (37, 1, 283, 0, 0), (7, 0, 0, 0, 9), (71, 0, 0, 0, 0)]
def b_X12_rightFor_283 : List LI := [(1, 4, 0, 0, 0), (1, 5, 0, 0, 0), (36, 2, 325, 0, 0), (1, 6, 0, 0, 0), (37, 0, 325, 0, 0), (1, 7, 0, 0, 0), (37, 1, 305, 0, 0), (1, 10, 0, 0, 0), (37, 0, 325, 0, 0), (0, 305, 0, 0, 0)]
def b_X12_rightFor_305 : List LI := [(1, 8, 0, 0, 0), (37, 1, 315, 0, 0), (1, 11, 0, 0, 0), (37, 0, 325, 0, 0), (0, 315, 0, 0, 0)]
def b_X12_rightFor_315 : List LI := [(1, 9, 0, 0, 0), (37, 1, 327, 0, 0), (1, 12, 0, 0, 0), (37, 1, 327, 0, 0), (0, 325, 0, 0, 0)]
def b_X12_rightFor_325 : List LI := [(7, 0, 0, 0, (-1)), (71, 0, 0, 0, 0)]
def b_X12_rightFor_327 : List LI := [(1, 7, 0, 0, 0), (37, 0, 336, 0, 0), (7, 0, 0, 0, 0), (40, 346, 0, 0, 0)]
def b_X12_rightFor_336 : List LI := [(7, 0, 0, 0, 25), (1, 3, 0, 0, 0), (7, 0, 0, 0, 0), (67, 202, 2, 0, 4), (7, 0, 0, 0, 1), (10, 0, 0, 0, 0), (12, 0, 0, 0, 0), (0, 346, 0, 0, 0)]
def b_X12_rightFor_346 : List LI := [(1, 8, 0, 0, 0), (37, 0, 355, 0, 0), (7, 0, 0, 0, 0), (40, 364, 0, 0, 0)]
def b_X12_rightFor_355 : List LI := [(7, 0, 0, 0, 5), (1, 3, 0, 0, 0), (7, 0, 0, 0, 1), (67, 202, 2, 0, 4), (7, 0, 0, 0, 1), (10, 0, 0, 0, 0), (12, 0, 0, 0, 0), (0, 364, 0, 0, 0)]
def b_X12_rightFor_364 : List LI := [(10, 0, 0, 0, 0), (1, 9, 0, 0, 0), (37, 0, 374, 0, 0), (7, 0, 0, 0, 0), (40, 381, 0, 0, 0)]
def b_X12_rightFor_374 : List LI := [(1, 3, 0, 0, 0), (7, 0, 0, 0, 2), (67, 202, 2, 0, 4), (7, 0, 0, 0, 1), (10, 0, 0, 0, 0), (0, 381, 0, 0, 0)]
def b_X12_rightFor_381 : List LI := [(10, 0, 0, 0, 0), (4, 13, 0, 0, 0), (7, 0, 0, 0, 10), (1, 13, 0, 0, 0), (12, 0, 0, 0, 0), (1, 3, 0, 0, 0), (7, 0, 0, 0, 6), (17, 0, 0, 0, 0), (1, 2, 0, 0, 0), (36, 1, 402, 0, 0), (7, 0, 0, 0, 8), (40, 406, 0, 0, 0)]
def b_X12_rightFor_402 : List LI := [(1, 3, 0, 0, 0), (7, 0, 0, 0, 6), (17, 0, 0, 0, 0), (0, 406, 0, 0, 0)]
def b_X12_rightFor_406 : List LI := [(10, 0, 0, 0, 0), (71, 0, 0, 0, 0)]
def cd_X12_rightFor : Nat → List LI := fun pc => if pc = 0 then b_X12_rightFor_0 else if pc = 32 then b_X12_rightFor_32 else if pc = 81 then b_X12_rightFor_81 else if pc = 82 then b_X12_rightFor_82 else if pc = 107 then b_X12_rightFor_107 else if pc = 108 then b_X12_rightFor_108 else if pc = 134 then b_X12_rightFor_134 else if pc = 135 then b_X12_rightFor_135 else if pc = 161 then b_X12_rightFor_161 else if pc = 162 then b_X12_rightFor_162 else if pc = 188 then b_X12_rightFor_188 else if pc = 189 then b_X12_rightFor_189 else if pc = 214 then b_X12_rightFor_214 else if pc = 215 then b_X12_rightFor_215 else if pc = 240 then b_X12_rightFor_240 else if pc = 241 then b_X12_rightFor_241 else if pc = 266 then b_X12_rightFor_266 else if pc = 267 then b_X12_rightFor_267 else if pc = 269 then b_X12_rightFor_269 else if pc = 275 then b_X12_rightFor_275 else if pc = 283 then b_X12_rightFor_283 else if pc = 305 then b_X12_rightFor_305 else if pc = 315 then b_X12_rightFor_315 else if pc = 325 then b_X12_rightFor_325 else if pc = 327 then b_X12_rightFor_327 else if pc = 336 then b_X12_rightFor_336 else if pc = 346 then b_X12_rightFor_346 else if pc = 355 then b_X12_rightFor_355 else if pc = 364 then b_X12_rightFor_364 else if pc = 374 then b_X12_rightFor_374 else if pc = 381 then b_X12_rightFor_381 else if pc = 402 then b_X12_rightFor_402 else if pc = 406 then b_X12_rightFor_406 else []
def b_X12_anys_0 : List LI := [(1, 0, 0, 0, 0), (7, 0, 0, 0, 25), (13, 0, 0, 0, 0), (37, 1, 11, 0, 0), (7, 0, 0, 0, 1), (40, 12, 0, 0, 0)]
def b_X12_anys_11 : List LI := [(7, 0, 0, 0, 0), (0, 12, 0, 0, 0)]
def b_X12_anys_12 : List LI := [(1, 0, 0, 0, 0), (7, 0, 0, 0, 5), (13, 0, 0, 0, 0), (7, 0, 0, 0, 5), (14, 0, 0, 0, 0), (37, 1, 24, 0, 0), (7, 0, 0, 0, 1), (40, 25, 0, 0, 0)]
def b_X12_anys_24 : List LI := [(7, 0, 0, 0, 0), (0, 25, 0, 0, 0)]
def b_X12_anys_25 : List LI := [(10, 0, 0, 0, 0), (1, 0, 0, 0, 0), (7, 0, 0, 0, 5), (14, 0, 0, 0, 0), (37, 1, 36, 0, 0), (7, 0, 0, 0, 1), (40, 37, 0, 0, 0)]
def b_X12_anys_36 : List LI := [(7, 0, 0, 0, 0), (0, 37, 0, 0, 0)]
def b_X12_anys_37 : List LI := [(10, 0, 0, 0, 0), (71, 0, 0, 0, 0)]
def cd_X12_anys : Nat → List LI := fun pc => if pc = 0 then b_X12_anys_0 else if pc = 11 then b_X12_anys_11 else if pc = 12 then b_X12_anys_12 else if pc = 24 then b_X12_anys_24 else if pc = 25 then b_X12_anys_25 else if pc = 36 then b_X12_anys_36 else if pc = 37 then b_X12_anys_37 else []
def b_X12_coverOf_0 : List LI := [(8, 0, 0, 0, 0), (5, 1, 0, 0, 0), (7, 0, 0, 0, 0), (4, 3, 0, 0, 0), (0, 4, 0, 0, 0)]
def b_X12_coverOf_4 : List LI := [(1, 3, 0, 0, 0), (7, 0, 0, 0, 64), (36, 3, 34, 0, 0), (2, 1, 0, 0, 0), (1, 0, 0, 0, 0), (1, 3, 0, 0, 0), (67, 251, 2, 0, 4), (37, 0, 25, 0, 0), (8, 0, 0, 0, 1), (1, 3, 0, 0, 0), (28, 0, 0, 0, 0), (40, 26, 0, 0, 0)]
def b_X12_coverOf_25 : List LI := [(8, 0, 0, 0, 0), (0, 26, 0, 0, 0)]
def b_X12_coverOf_26 : List LI := [(26, 0, 0, 0, 0), (5, 1, 0, 0, 0), (35, 3, 0, 0, 1), (40, 4, 0, 0, 0)]
def b_X12_coverOf_34 : List LI := [(2, 1, 0, 0, 0), (72, 0, 0, 0, 0)]
def cd_X12_coverOf : Nat → List LI := fun pc => if pc = 0 then b_X12_coverOf_0 else if pc = 4 then b_X12_coverOf_4 else if pc = 25 then b_X12_coverOf_25 else if pc = 26 then b_X12_coverOf_26 else if pc = 34 then b_X12_coverOf_34 else []
def b_X12_make_0 : List LI := [(3, 0, 0, 0, 0), (1, 1, 0, 0, 0), (67, 227, 2, 12, 5), (37, 0, 16, 0, 0), (1, 2, 0, 0, 0), (1, 3, 0, 0, 0), (67, 242, 2, 0, 4), (37, 1, 18, 0, 0), (0, 16, 0, 0, 0)]
def b_X12_make_16 : List LI := [(7, 0, 0, 0, (-1)), (71, 0, 0, 0, 0)]
def b_X12_make_18 : List LI := [(7, 0, 0, 0, 0), (4, 4, 0, 0, 0), (0, 21, 0, 0, 0)]
def b_X12_make_21 : List LI := [(1, 4, 0, 0, 0), (7, 0, 0, 0, 64), (36, 3, 73, 0, 0), (3, 0, 0, 0, 0), (1, 1, 0, 0, 0), (7, 0, 0, 0, 64), (1, 3, 0, 0, 0), (12, 0, 0, 0, 0), (1, 4, 0, 0, 0), (10, 0, 0, 0, 0), (67, 230, 3, 12, 7), (7, 0, 0, 0, 1), (36, 5, 47, 0, 0), (7, 0, 0, 0, (-3)), (71, 0, 0, 0, 0)]
def b_X12_make_47 : List LI := [(3, 0, 0, 0, 0), (47, 12, 73, 14, 0), (1, 4, 0, 0, 0), (3, 0, 0, 0, 0), (1, 1, 0, 0, 0), (7, 0, 0, 0, 64), (1, 3, 0, 0, 0), (12, 0, 0, 0, 0), (1, 4, 0, 0, 0), (10, 0, 0, 0, 0), (7, 0, 0, 0, 0), (67, 229, 4, 12, 9), (57, 0, 0, 0, 0), (35, 4, 0, 0, 1), (40, 21, 0, 0, 0)]
def b_X12_make_73 : List LI := [(7, 0, 0, 0, 0), (4, 4, 0, 0, 0), (8, 0, 0, 0, (-1)), (5, 5, 0, 0, 0), (7, 0, 0, 0, 3), (4, 7, 0, 0, 0), (0, 84, 0, 0, 0)]
def b_X12_make_84 : List LI := [(1, 7, 0, 0, 0), (37, 2, 222, 0, 0), (7, 0, 0, 0, 0), (4, 8, 0, 0, 0), (0, 92, 0, 0, 0)]
def b_X12_make_92 : List LI := [(1, 8, 0, 0, 0), (7, 0, 0, 0, 125), (36, 3, 216, 0, 0), (2, 5, 0, 0, 0), (8, 0, 0, 0, 0), (31, 0, 0, 0, 0), (37, 0, 216, 0, 0), (1, 8, 0, 0, 0), (67, 300, 1, 0, 2), (1, 7, 0, 0, 0), (36, 1, 124, 0, 0), (1, 8, 0, 0, 0), (67, 301, 1, 0, 2), (40, 125, 0, 0, 0)]
def b_X12_make_124 : List LI := [(8, 0, 0, 0, 0), (0, 125, 0, 0, 0)]
def b_X12_make_125 : List LI := [(5, 9, 0, 0, 0), (2, 9, 0, 0, 0), (2, 5, 0, 0, 0), (25, 0, 0, 0, 0), (8, 0, 0, 0, 0), (31, 0, 0, 0, 0), (37, 1, 141, 0, 0), (7, 0, 0, 0, (-1)), (40, 148, 0, 0, 0)]
def b_X12_make_141 : List LI := [(3, 0, 0, 0, 0), (1, 8, 0, 0, 0), (1, 3, 0, 0, 0), (67, 299, 3, 12, 7), (0, 148, 0, 0, 0)]
def b_X12_make_148 : List LI := [(4, 11, 0, 0, 0), (1, 11, 0, 0, 0), (7, 0, 0, 0, (-1)), (36, 0, 210, 0, 0), (1, 4, 0, 0, 0), (7, 0, 0, 0, 12), (36, 3, 196, 0, 0), (3, 0, 0, 0, 0), (47, 12, 74, 14, 0), (1, 4, 0, 0, 0), (1, 8, 0, 0, 0), (57, 0, 0, 0, 0), (3, 0, 0, 0, 0), (47, 12, 75, 14, 0), (1, 4, 0, 0, 0), (1, 11, 0, 0, 0), (7, 0, 0, 0, 10), (13, 0, 0, 0, 0), (57, 0, 0, 0, 0), (3, 0, 0, 0, 0), (47, 12, 76, 14, 0), (1, 4, 0, 0, 0), (1, 11, 0, 0, 0), (7, 0, 0, 0, 10), (14, 0, 0, 0, 0), (57, 0, 0, 0, 0), (0, 196, 0, 0, 0)]
def b_X12_make_196 : List LI := [(35, 4, 0, 0, 1), (2, 5, 0, 0, 0), (2, 9, 0, 0, 0), (8, 0, 0, 0, (-1)), (27, 0, 0, 0, 0), (25, 0, 0, 0, 0), (5, 5, 0, 0, 0), (0, 210, 0, 0, 0)]
def b_X12_make_210 : List LI := [(35, 8, 0, 0, 1), (40, 92, 0, 0, 0)]
def b_X12_make_216 : List LI := [(35, 7, 0, 0, (-1)), (40, 84, 0, 0, 0)]
def b_X12_make_222 : List LI := [(1, 4, 0, 0, 0), (7, 0, 0, 0, 12), (36, 5, 232, 0, 0), (7, 0, 0, 0, (-2)), (71, 0, 0, 0, 0)]
def b_X12_make_232 : List LI := [(7, 0, 0, 0, 8), (1, 2, 0, 0, 0), (12, 0, 0, 0, 0), (1, 3, 0, 0, 0), (10, 0, 0, 0, 0), (4, 7, 0, 0, 0), (7, 0, 0, 0, 0), (4, 8, 0, 0, 0), (0, 243, 0, 0, 0)]
def b_X12_make_243 : List LI := [(1, 8, 0, 0, 0), (1, 4, 0, 0, 0), (36, 3, 316, 0, 0), (3, 0, 0, 0, 0), (47, 12, 28, 14, 0), (7, 0, 0, 0, 12), (1, 7, 0, 0, 0), (12, 0, 0, 0, 0), (1, 8, 0, 0, 0), (10, 0, 0, 0, 0), (3, 0, 0, 0, 0), (47, 12, 74, 14, 0), (1, 8, 0, 0, 0), (52, 0, 0, 0, 0), (57, 0, 0, 0, 0), (3, 0, 0, 0, 0), (47, 12, 29, 14, 0), (7, 0, 0, 0, 12), (1, 7, 0, 0, 0), (12, 0, 0, 0, 0), (1, 8, 0, 0, 0), (10, 0, 0, 0, 0), (3, 0, 0, 0, 0), (47, 12, 75, 14, 0), (1, 8, 0, 0, 0), (52, 0, 0, 0, 0), (57, 0, 0, 0, 0), (3, 0, 0, 0, 0), (47, 12, 30, 14, 0), (7, 0, 0, 0, 12), (1, 7, 0, 0, 0), (12, 0, 0, 0, 0), (1, 8, 0, 0, 0), (10, 0, 0, 0, 0), (3, 0, 0, 0, 0), (47, 12, 76, 14, 0), (1, 8, 0, 0, 0), (52, 0, 0, 0, 0), (57, 0, 0, 0, 0), (35, 8, 0, 0, 1), (40, 243, 0, 0, 0)]
def b_X12_make_316 : List LI := [(3, 0, 0, 0, 0), (47, 12, 31, 14, 0), (1, 7, 0, 0, 0), (1, 4, 0, 0, 0), (57, 0, 0, 0, 0), (1, 4, 0, 0, 0), (71, 0, 0, 0, 0)]
def cd_X12_make : Nat → List LI := fun pc => if pc = 0 then b_X12_make_0 else if pc = 16 then b_X12_make_16 else if pc = 18 then b_X12_make_18 else if pc = 21 then b_X12_make_21 else if pc = 47 then b_X12_make_47 else if pc = 73 then b_X12_make_73 else if pc = 84 then b_X12_make_84 else if pc = 92 then b_X12_make_92 else if pc = 124 then b_X12_make_124 else if pc = 125 then b_X12_make_125 else if pc = 141 then b_X12_make_141 else if pc = 148 then b_X12_make_148 else if pc = 196 then b_X12_make_196 else if pc = 210 then b_X12_make_210 else if pc = 216 then b_X12_make_216 else if pc = 222 then b_X12_make_222 else if pc = 232 then b_X12_make_232 else if pc = 243 then b_X12_make_243 else if pc = 316 then b_X12_make_316 else []
def b_X12_rows_0 : List LI := [(1, 1, 0, 0, 0), (1, 2, 0, 0, 0), (67, 242, 2, 0, 4), (37, 0, 31, 0, 0), (1, 3, 0, 0, 0), (32, 0, 0, 0, 0), (8, 0, 0, 0, 0), (3, 0, 0, 0, 0), (47, 12, 31, 14, 0), (7, 0, 0, 0, 8), (1, 1, 0, 0, 0), (12, 0, 0, 0, 0), (1, 2, 0, 0, 0), (10, 0, 0, 0, 0), (52, 0, 0, 0, 0), (7, 0, 0, 0, 1), (11, 0, 0, 0, 0), (32, 0, 0, 0, 0), (67, 199, 3, 0, 12), (37, 1, 33, 0, 0), (0, 31, 0, 0, 0)]
def b_X12_rows_31 : List LI := [(7, 0, 0, 0, (-1)), (71, 0, 0, 0, 0)]
def b_X12_rows_33 : List LI := [(7, 0, 0, 0, 12), (7, 0, 0, 0, 8), (1, 1, 0, 0, 0), (12, 0, 0, 0, 0), (1, 2, 0, 0, 0), (10, 0, 0, 0, 0), (12, 0, 0, 0, 0), (1, 3, 0, 0, 0), (10, 0, 0, 0, 0), (4, 5, 0, 0, 0), (1, 4, 0, 0, 0), (37, 1, 61, 0, 0), (3, 0, 0, 0, 0), (47, 12, 28, 14, 0), (1, 5, 0, 0, 0), (52, 0, 0, 0, 0), (40, 94, 0, 0, 0)]
def b_X12_rows_61 : List LI := [(1, 4, 0, 0, 0), (7, 0, 0, 0, 1), (36, 1, 77, 0, 0), (3, 0, 0, 0, 0), (47, 12, 29, 14, 0), (1, 5, 0, 0, 0), (52, 0, 0, 0, 0), (40, 94, 0, 0, 0)]
def b_X12_rows_77 : List LI := [(1, 4, 0, 0, 0), (7, 0, 0, 0, 2), (36, 1, 93, 0, 0), (3, 0, 0, 0, 0), (47, 12, 30, 14, 0), (1, 5, 0, 0, 0), (52, 0, 0, 0, 0), (40, 94, 0, 0, 0)]
def b_X12_rows_93 : List LI := [(7, 0, 0, 0, (-1)), (0, 94, 0, 0, 0)]
def b_X12_rows_94 : List LI := [(71, 0, 0, 0, 0)]
def cd_X12_rows : Nat → List LI := fun pc => if pc = 0 then b_X12_rows_0 else if pc = 31 then b_X12_rows_31 else if pc = 33 then b_X12_rows_33 else if pc = 61 then b_X12_rows_61 else if pc = 77 then b_X12_rows_77 else if pc = 93 then b_X12_rows_93 else if pc = 94 then b_X12_rows_94 else []
def b_X12_write_0 : List LI := [(1, 1, 0, 0, 0), (67, 201, 1, 0, 2), (37, 0, 21, 0, 0), (1, 2, 0, 0, 0), (32, 0, 0, 0, 0), (8, 0, 0, 0, (-1)), (8, 0, 0, 0, 999), (67, 199, 3, 0, 12), (37, 1, 24, 0, 0), (0, 21, 0, 0, 0)]
def b_X12_write_21 : List LI := [(7, 0, 0, 0, (-2)), (71, 0, 0, 0, 0)]
def b_X12_write_24 : List LI := [(3, 0, 0, 0, 0), (47, 12, 77, 14, 0), (1, 1, 0, 0, 0), (52, 0, 0, 0, 0), (4, 3, 0, 0, 0), (3, 0, 0, 0, 0), (47, 12, 77, 14, 0), (1, 1, 0, 0, 0), (1, 2, 0, 0, 0), (57, 0, 0, 0, 0), (1, 3, 0, 0, 0), (71, 0, 0, 0, 0)]
def cd_X12_write : Nat → List LI := fun pc => if pc = 0 then b_X12_write_0 else if pc = 21 then b_X12_write_21 else if pc = 24 then b_X12_write_24 else []
def b_X12_asTold_0 : List LI := [(7, 0, 0, 0, 0), (4, 1, 0, 0, 0), (0, 2, 0, 0, 0)]
def b_X12_asTold_2 : List LI := [(1, 1, 0, 0, 0), (7, 0, 0, 0, 8), (36, 3, 26, 0, 0), (3, 0, 0, 0, 0), (47, 12, 78, 14, 0), (1, 1, 0, 0, 0), (3, 0, 0, 0, 0), (47, 12, 77, 14, 0), (1, 1, 0, 0, 0), (52, 0, 0, 0, 0), (57, 0, 0, 0, 0), (35, 1, 0, 0, 1), (40, 2, 0, 0, 0)]
def b_X12_asTold_26 : List LI := [(74, 0, 0, 0, 0)]
def cd_X12_asTold : Nat → List LI := fun pc => if pc = 0 then b_X12_asTold_0 else if pc = 2 then b_X12_asTold_2 else if pc = 26 then b_X12_asTold_26 else []
def b_X12_seenAs_0 : List LI := [(1, 1, 0, 0, 0), (4, 3, 0, 0, 0), (7, 0, 0, 0, 0), (4, 4, 0, 0, 0), (0, 5, 0, 0, 0)]
def b_X12_seenAs_5 : List LI := [(1, 4, 0, 0, 0), (7, 0, 0, 0, 100), (36, 3, 118, 0, 0), (1, 2, 0, 0, 0), (1, 4, 0, 0, 0), (10, 0, 0, 0, 0), (7, 0, 0, 0, 1000), (36, 3, 29, 0, 0), (1, 2, 0, 0, 0), (1, 4, 0, 0, 0), (10, 0, 0, 0, 0), (40, 32, 0, 0, 0)]
def b_X12_seenAs_29 : List LI := [(7, 0, 0, 0, 999), (0, 32, 0, 0, 0)]
def b_X12_seenAs_32 : List LI := [(4, 5, 0, 0, 0), (1, 3, 0, 0, 0), (7, 0, 0, 0, 6), (17, 0, 0, 0, 0), (4, 6, 0, 0, 0), (3, 0, 0, 0, 0), (47, 12, 78, 14, 0), (1, 6, 0, 0, 0), (52, 0, 0, 0, 0), (7, 0, 0, 0, (-1)), (36, 0, 67, 0, 0), (3, 0, 0, 0, 0), (47, 12, 78, 14, 0), (1, 6, 0, 0, 0), (52, 0, 0, 0, 0), (1, 5, 0, 0, 0), (36, 4, 67, 0, 0), (7, 0, 0, 0, 1), (40, 68, 0, 0, 0)]
def b_X12_seenAs_67 : List LI := [(7, 0, 0, 0, 0), (0, 68, 0, 0, 0)]
def b_X12_seenAs_68 : List LI := [(4, 7, 0, 0, 0), (3, 0, 0, 0, 0), (1, 7, 0, 0, 0), (37, 0, 81, 0, 0), (7, 0, 0, 0, 8), (40, 82, 0, 0, 0)]
def b_X12_seenAs_81 : List LI := [(7, 0, 0, 0, 0), (0, 82, 0, 0, 0)]
def b_X12_seenAs_82 : List LI := [(1, 6, 0, 0, 0), (10, 0, 0, 0, 0), (1, 3, 0, 0, 0), (67, 254, 3, 12, 7), (4, 3, 0, 0, 0), (3, 0, 0, 0, 0), (45, 12, 41, 0, 0), (37, 5, 112, 0, 0), (3, 0, 0, 0, 0), (45, 12, 41, 0, 0), (7, 0, 0, 0, 1), (36, 1, 109, 0, 0), (1, 3, 0, 0, 0), (40, 111, 0, 0, 0)]
def b_X12_seenAs_109 : List LI := [(7, 0, 0, 0, (-2)), (0, 111, 0, 0, 0)]
def b_X12_seenAs_111 : List LI := [(71, 0, 0, 0, 0)]
def b_X12_seenAs_112 : List LI := [(35, 4, 0, 0, 1), (40, 5, 0, 0, 0)]
def b_X12_seenAs_118 : List LI := [(7, 0, 0, 0, (-3)), (71, 0, 0, 0, 0)]
def cd_X12_seenAs : Nat → List LI := fun pc => if pc = 0 then b_X12_seenAs_0 else if pc = 5 then b_X12_seenAs_5 else if pc = 29 then b_X12_seenAs_29 else if pc = 32 then b_X12_seenAs_32 else if pc = 67 then b_X12_seenAs_67 else if pc = 68 then b_X12_seenAs_68 else if pc = 81 then b_X12_seenAs_81 else if pc = 82 then b_X12_seenAs_82 else if pc = 109 then b_X12_seenAs_109 else if pc = 111 then b_X12_seenAs_111 else if pc = 112 then b_X12_seenAs_112 else if pc = 118 then b_X12_seenAs_118 else []
def b_X12_seen_0 : List LI := [(1, 1, 0, 0, 0), (67, 200, 1, 0, 2), (37, 0, 19, 0, 0), (1, 2, 0, 0, 0), (32, 0, 0, 0, 0), (8, 0, 0, 0, 0), (8, 0, 0, 0, 999), (67, 199, 3, 0, 12), (37, 1, 21, 0, 0), (0, 19, 0, 0, 0)]
def b_X12_seen_19 : List LI := [(7, 0, 0, 0, (-1)), (71, 0, 0, 0, 0)]
def b_X12_seen_21 : List LI := [(3, 0, 0, 0, 0), (67, 305, 1, 12, 3), (3, 0, 0, 0, 0), (1, 1, 0, 0, 0), (1, 2, 0, 0, 0), (67, 306, 3, 12, 7), (71, 0, 0, 0, 0)]
def cd_X12_seen : Nat → List LI := fun pc => if pc = 0 then b_X12_seen_0 else if pc = 19 then b_X12_seen_19 else if pc = 21 then b_X12_seen_21 else []
def b_X12_endsByTicks_0 : List LI := [(7, 0, 0, 0, 0), (4, 1, 0, 0, 0), (7, 0, 0, 0, 0), (4, 2, 0, 0, 0), (0, 4, 0, 0, 0)]
def b_X12_endsByTicks_4 : List LI := [(1, 2, 0, 0, 0), (7, 0, 0, 0, 8), (36, 3, 36, 0, 0), (1, 1, 0, 0, 0), (3, 0, 0, 0, 0), (47, 12, 78, 14, 0), (1, 2, 0, 0, 0), (52, 0, 0, 0, 0), (7, 0, 0, 0, (-1)), (36, 0, 27, 0, 0), (7, 0, 0, 0, 1), (1, 2, 0, 0, 0), (16, 0, 0, 0, 0), (40, 28, 0, 0, 0)]
def b_X12_endsByTicks_27 : List LI := [(7, 0, 0, 0, 0), (0, 28, 0, 0, 0)]
def b_X12_endsByTicks_28 : List LI := [(20, 0, 0, 0, 0), (4, 1, 0, 0, 0), (35, 2, 0, 0, 1), (40, 4, 0, 0, 0)]
def b_X12_endsByTicks_36 : List LI := [(7, 0, 0, 0, 0), (4, 2, 0, 0, 0), (0, 38, 0, 0, 0)]
def b_X12_endsByTicks_38 : List LI := [(1, 2, 0, 0, 0), (7, 0, 0, 0, 512), (36, 3, 75, 0, 0), (3, 0, 0, 0, 0), (47, 12, 43, 14, 0), (1, 2, 0, 0, 0), (3, 0, 0, 0, 0), (1, 2, 0, 0, 0), (7, 0, 0, 0, 0), (67, 255, 3, 12, 7), (57, 0, 0, 0, 0), (3, 0, 0, 0, 0), (47, 12, 44, 14, 0), (1, 2, 0, 0, 0), (3, 0, 0, 0, 0), (1, 2, 0, 0, 0), (1, 1, 0, 0, 0), (67, 255, 3, 12, 7), (57, 0, 0, 0, 0), (35, 2, 0, 0, 1), (40, 38, 0, 0, 0)]
def b_X12_endsByTicks_75 : List LI := [(74, 0, 0, 0, 0)]
def cd_X12_endsByTicks : Nat → List LI := fun pc => if pc = 0 then b_X12_endsByTicks_0 else if pc = 4 then b_X12_endsByTicks_4 else if pc = 27 then b_X12_endsByTicks_27 else if pc = 28 then b_X12_endsByTicks_28 else if pc = 36 then b_X12_endsByTicks_36 else if pc = 38 then b_X12_endsByTicks_38 else if pc = 75 then b_X12_endsByTicks_75 else []
def b_X12_neither_0 : List LI := [(1, 1, 0, 0, 0), (32, 0, 0, 0, 0), (8, 0, 0, 0, 0), (8, 0, 0, 0, 999), (67, 199, 3, 0, 12), (37, 1, 14, 0, 0), (7, 0, 0, 0, (-1)), (71, 0, 0, 0, 0)]
def b_X12_neither_14 : List LI := [(3, 0, 0, 0, 0), (67, 305, 1, 12, 3), (3, 0, 0, 0, 0), (67, 308, 1, 12, 3), (7, 0, 0, 0, 0), (4, 3, 0, 0, 0), (7, 0, 0, 0, 0), (4, 4, 0, 0, 0), (0, 27, 0, 0, 0)]
def b_X12_neither_27 : List LI := [(1, 4, 0, 0, 0), (7, 0, 0, 0, 512), (36, 3, 77, 0, 0), (3, 0, 0, 0, 0), (1, 4, 0, 0, 0), (67, 258, 2, 12, 5), (37, 0, 71, 0, 0), (3, 0, 0, 0, 0), (1, 4, 0, 0, 0), (3, 0, 0, 0, 0), (1, 4, 0, 0, 0), (1, 1, 0, 0, 0), (67, 306, 3, 12, 7), (67, 268, 3, 12, 7), (37, 0, 71, 0, 0), (1, 3, 0, 0, 0), (1, 2, 0, 0, 0), (36, 1, 68, 0, 0), (1, 4, 0, 0, 0), (71, 0, 0, 0, 0)]
def b_X12_neither_68 : List LI := [(35, 3, 0, 0, 1), (0, 71, 0, 0, 0)]
def b_X12_neither_71 : List LI := [(35, 4, 0, 0, 1), (40, 27, 0, 0, 0)]
def b_X12_neither_77 : List LI := [(1, 2, 0, 0, 0), (7, 0, 0, 0, (-1)), (36, 1, 86, 0, 0), (1, 3, 0, 0, 0), (40, 87, 0, 0, 0)]
def b_X12_neither_86 : List LI := [(7, 0, 0, 0, (-1)), (0, 87, 0, 0, 0)]
def b_X12_neither_87 : List LI := [(71, 0, 0, 0, 0)]
def cd_X12_neither : Nat → List LI := fun pc => if pc = 0 then b_X12_neither_0 else if pc = 14 then b_X12_neither_14 else if pc = 27 then b_X12_neither_27 else if pc = 68 then b_X12_neither_68 else if pc = 71 then b_X12_neither_71 else if pc = 77 then b_X12_neither_77 else if pc = 86 then b_X12_neither_86 else if pc = 87 then b_X12_neither_87 else []
def b_X12_gap_0 : List LI := [(3, 0, 0, 0, 0), (45, 12, 51, 0, 0), (7, 0, 0, 0, 1), (36, 3, 10, 0, 0), (7, 0, 0, 0, (-1)), (71, 0, 0, 0, 0)]
def b_X12_gap_10 : List LI := [(7, 0, 0, 0, 1), (4, 1, 0, 0, 0), (0, 12, 0, 0, 0)]
def b_X12_gap_12 : List LI := [(1, 1, 0, 0, 0), (7, 0, 0, 0, 10), (36, 3, 161, 0, 0), (7, 0, 0, 0, 0), (4, 2, 0, 0, 0), (0, 20, 0, 0, 0)]
def b_X12_gap_20 : List LI := [(1, 2, 0, 0, 0), (7, 0, 0, 0, 8), (36, 3, 39, 0, 0), (3, 0, 0, 0, 0), (47, 12, 78, 14, 0), (1, 2, 0, 0, 0), (7, 0, 0, 0, (-1)), (57, 0, 0, 0, 0), (35, 2, 0, 0, 1), (40, 20, 0, 0, 0)]
def b_X12_gap_39 : List LI := [(7, 0, 0, 0, 0), (4, 2, 0, 0, 0), (0, 41, 0, 0, 0)]
def b_X12_gap_41 : List LI := [(1, 2, 0, 0, 0), (3, 0, 0, 0, 0), (45, 12, 51, 0, 0), (36, 3, 69, 0, 0), (3, 0, 0, 0, 0), (47, 12, 78, 14, 0), (3, 0, 0, 0, 0), (47, 12, 50, 14, 0), (1, 2, 0, 0, 0), (52, 0, 0, 0, 0), (1, 1, 0, 0, 0), (1, 2, 0, 0, 0), (12, 0, 0, 0, 0), (57, 0, 0, 0, 0), (35, 2, 0, 0, 1), (40, 41, 0, 0, 0)]
def b_X12_gap_69 : List LI := [(3, 0, 0, 0, 0), (67, 308, 1, 12, 3), (7, 0, 0, 0, 1), (4, 2, 0, 0, 0), (7, 0, 0, 0, 0), (4, 3, 0, 0, 0), (0, 77, 0, 0, 0)]
def b_X12_gap_77 : List LI := [(1, 3, 0, 0, 0), (1, 1, 0, 0, 0), (3, 0, 0, 0, 0), (45, 12, 51, 0, 0), (12, 0, 0, 0, 0), (36, 4, 149, 0, 0), (1, 2, 0, 0, 0), (37, 0, 149, 0, 0), (7, 0, 0, 0, 0), (4, 4, 0, 0, 0), (0, 94, 0, 0, 0)]
def b_X12_gap_94 : List LI := [(1, 4, 0, 0, 0), (7, 0, 0, 0, 512), (36, 3, 143, 0, 0), (1, 2, 0, 0, 0), (37, 0, 143, 0, 0), (3, 0, 0, 0, 0), (1, 4, 0, 0, 0), (67, 258, 2, 12, 5), (37, 0, 131, 0, 0), (3, 0, 0, 0, 0), (1, 4, 0, 0, 0), (3, 0, 0, 0, 0), (1, 4, 0, 0, 0), (1, 3, 0, 0, 0), (67, 306, 3, 12, 7), (67, 268, 3, 12, 7), (37, 1, 135, 0, 0), (0, 131, 0, 0, 0)]
def b_X12_gap_131 : List LI := [(7, 0, 0, 0, 1), (40, 136, 0, 0, 0)]
def b_X12_gap_135 : List LI := [(7, 0, 0, 0, 0), (0, 136, 0, 0, 0)]
def b_X12_gap_136 : List LI := [(4, 2, 0, 0, 0), (35, 4, 0, 0, 1), (40, 94, 0, 0, 0)]
def b_X12_gap_143 : List LI := [(35, 3, 0, 0, 1), (40, 77, 0, 0, 0)]
def b_X12_gap_149 : List LI := [(1, 2, 0, 0, 0), (37, 0, 155, 0, 0), (1, 1, 0, 0, 0), (71, 0, 0, 0, 0)]
def b_X12_gap_155 : List LI := [(35, 1, 0, 0, 1), (40, 12, 0, 0, 0)]
def b_X12_gap_161 : List LI := [(7, 0, 0, 0, (-2)), (71, 0, 0, 0, 0)]
def cd_X12_gap : Nat → List LI := fun pc => if pc = 0 then b_X12_gap_0 else if pc = 10 then b_X12_gap_10 else if pc = 12 then b_X12_gap_12 else if pc = 20 then b_X12_gap_20 else if pc = 39 then b_X12_gap_39 else if pc = 41 then b_X12_gap_41 else if pc = 69 then b_X12_gap_69 else if pc = 77 then b_X12_gap_77 else if pc = 94 then b_X12_gap_94 else if pc = 131 then b_X12_gap_131 else if pc = 135 then b_X12_gap_135 else if pc = 136 then b_X12_gap_136 else if pc = 143 then b_X12_gap_143 else if pc = 149 then b_X12_gap_149 else if pc = 155 then b_X12_gap_155 else if pc = 161 then b_X12_gap_161 else []
def b_X12_count_0 : List LI := [(7, 0, 0, 0, 0), (4, 2, 0, 0, 0), (1, 1, 0, 0, 0), (41, 8, 110, 0, 0)]
def b_X12_count_48 : List LI := [(3, 0, 0, 0, 0), (45, 12, 4, 0, 0), (71, 0, 0, 0, 0)]
def b_X12_count_53 : List LI := [(7, 0, 0, 0, 0), (4, 3, 0, 0, 0), (0, 55, 0, 0, 0)]
def b_X12_count_55 : List LI := [(1, 3, 0, 0, 0), (7, 0, 0, 0, 8), (36, 3, 83, 0, 0), (1, 2, 0, 0, 0), (3, 0, 0, 0, 0), (47, 12, 31, 14, 0), (7, 0, 0, 0, 8), (1, 1, 0, 0, 0), (7, 0, 0, 0, 1), (11, 0, 0, 0, 0), (12, 0, 0, 0, 0), (1, 3, 0, 0, 0), (10, 0, 0, 0, 0), (52, 0, 0, 0, 0), (10, 0, 0, 0, 0), (4, 2, 0, 0, 0), (35, 3, 0, 0, 1), (40, 55, 0, 0, 0)]
def b_X12_count_83 : List LI := [(1, 2, 0, 0, 0), (71, 0, 0, 0, 0)]
def b_X12_count_85 : List LI := [(3, 0, 0, 0, 0), (45, 12, 34, 0, 0), (71, 0, 0, 0, 0)]
def b_X12_count_90 : List LI := [(3, 0, 0, 0, 0), (45, 12, 1, 0, 0), (71, 0, 0, 0, 0)]
def b_X12_count_95 : List LI := [(3, 0, 0, 0, 0), (67, 246, 1, 12, 3), (71, 0, 0, 0, 0)]
def b_X12_count_100 : List LI := [(3, 0, 0, 0, 0), (45, 12, 67, 0, 0), (71, 0, 0, 0, 0)]
def b_X12_count_105 : List LI := [(3, 0, 0, 0, 0), (45, 12, 69, 0, 0), (71, 0, 0, 0, 0)]
def b_X12_count_110 : List LI := [(7, 0, 0, 0, (-1)), (71, 0, 0, 0, 0)]
def cd_X12_count : Nat → List LI := fun pc => if pc = 0 then b_X12_count_0 else if pc = 48 then b_X12_count_48 else if pc = 53 then b_X12_count_53 else if pc = 55 then b_X12_count_55 else if pc = 83 then b_X12_count_83 else if pc = 85 then b_X12_count_85 else if pc = 90 then b_X12_count_90 else if pc = 95 then b_X12_count_95 else if pc = 100 then b_X12_count_100 else if pc = 105 then b_X12_count_105 else if pc = 110 then b_X12_count_110 else if pc = 100000 then [(0, 48, 0, 0, 0)] else if pc = 100001 then [(0, 53, 0, 0, 0)] else if pc = 100002 then [(0, 53, 0, 0, 0)] else if pc = 100003 then [(0, 85, 0, 0, 0)] else if pc = 100004 then [(0, 90, 0, 0, 0)] else if pc = 100005 then [(0, 95, 0, 0, 0)] else if pc = 100006 then [(0, 100, 0, 0, 0)] else if pc = 100007 then [(0, 105, 0, 0, 0)] else []
def b_J6_bitCount_0f7a4_0 : List LI := [(1, 0, 0, 0, 0), (1, 0, 0, 0, 0), (7, 0, 0, 0, 1), (18, 0, 0, 0, 0), (7, 0, 0, 0, 1431655765), (19, 0, 0, 0, 0), (11, 0, 0, 0, 0), (4, 0, 0, 0, 0), (1, 0, 0, 0, 0), (7, 0, 0, 0, 858993459), (19, 0, 0, 0, 0), (1, 0, 0, 0, 0), (7, 0, 0, 0, 2), (18, 0, 0, 0, 0), (7, 0, 0, 0, 858993459), (19, 0, 0, 0, 0), (10, 0, 0, 0, 0), (4, 0, 0, 0, 0), (1, 0, 0, 0, 0), (1, 0, 0, 0, 0), (7, 0, 0, 0, 4), (18, 0, 0, 0, 0), (10, 0, 0, 0, 0), (7, 0, 0, 0, 252645135), (19, 0, 0, 0, 0), (4, 0, 0, 0, 0), (1, 0, 0, 0, 0), (1, 0, 0, 0, 0), (7, 0, 0, 0, 8), (18, 0, 0, 0, 0), (10, 0, 0, 0, 0), (4, 0, 0, 0, 0), (1, 0, 0, 0, 0), (1, 0, 0, 0, 0), (7, 0, 0, 0, 16), (18, 0, 0, 0, 0), (10, 0, 0, 0, 0), (4, 0, 0, 0, 0), (1, 0, 0, 0, 0), (7, 0, 0, 0, 63), (19, 0, 0, 0, 0), (71, 0, 0, 0, 0)]
def cd_J6_bitCount_0f7a4 : Nat → List LI := fun pc => if pc = 0 then b_J6_bitCount_0f7a4_0 else []
def b_J13_bitCount_95d88_0 : List LI := [(2, 0, 0, 0, 0), (2, 0, 0, 0, 0), (7, 0, 0, 0, 1), (30, 0, 0, 0, 0), (8, 0, 0, 0, 6148914691236517205), (25, 0, 0, 0, 0), (23, 0, 0, 0, 0), (5, 0, 0, 0, 0), (2, 0, 0, 0, 0), (8, 0, 0, 0, 3689348814741910323), (25, 0, 0, 0, 0), (2, 0, 0, 0, 0), (7, 0, 0, 0, 2), (30, 0, 0, 0, 0), (8, 0, 0, 0, 3689348814741910323), (25, 0, 0, 0, 0), (22, 0, 0, 0, 0), (5, 0, 0, 0, 0), (2, 0, 0, 0, 0), (2, 0, 0, 0, 0), (7, 0, 0, 0, 4), (30, 0, 0, 0, 0), (22, 0, 0, 0, 0), (8, 0, 0, 0, 1085102592571150095), (25, 0, 0, 0, 0), (5, 0, 0, 0, 0), (2, 0, 0, 0, 0), (2, 0, 0, 0, 0), (7, 0, 0, 0, 8), (30, 0, 0, 0, 0), (22, 0, 0, 0, 0), (5, 0, 0, 0, 0), (2, 0, 0, 0, 0), (2, 0, 0, 0, 0), (7, 0, 0, 0, 16), (30, 0, 0, 0, 0), (22, 0, 0, 0, 0), (5, 0, 0, 0, 0), (2, 0, 0, 0, 0), (2, 0, 0, 0, 0), (7, 0, 0, 0, 32), (30, 0, 0, 0, 0), (22, 0, 0, 0, 0), (5, 0, 0, 0, 0), (2, 0, 0, 0, 0), (33, 0, 0, 0, 0), (7, 0, 0, 0, 127), (19, 0, 0, 0, 0), (71, 0, 0, 0, 0)]
def cd_J13_bitCount_95d88 : Nat → List LI := fun pc => if pc = 0 then b_J13_bitCount_95d88_0 else []
def b_J7_fill_d0a16_0 : List LI := [(7, 0, 0, 0, 0), (4, 3, 0, 0, 0), (3, 0, 0, 0, 0), (62, 0, 0, 0, 0), (4, 4, 0, 0, 0), (0, 6, 0, 0, 0)]
def b_J7_fill_d0a16_6 : List LI := [(1, 3, 0, 0, 0), (1, 4, 0, 0, 0), (36, 3, 22, 0, 0), (3, 0, 0, 0, 0), (1, 3, 0, 0, 0), (2, 1, 0, 0, 0), (58, 0, 0, 0, 0), (35, 3, 0, 0, 1), (40, 6, 0, 0, 0)]
def b_J7_fill_d0a16_22 : List LI := [(74, 0, 0, 0, 0)]
def cd_J7_fill_d0a16 : Nat → List LI := fun pc => if pc = 0 then b_J7_fill_d0a16_0 else if pc = 6 then b_J7_fill_d0a16_6 else if pc = 22 then b_J7_fill_d0a16_22 else []
def b_J7_fill_53178_0 : List LI := [(7, 0, 0, 0, 0), (4, 2, 0, 0, 0), (3, 0, 0, 0, 0), (62, 0, 0, 0, 0), (4, 3, 0, 0, 0), (0, 5, 0, 0, 0)]
def b_J7_fill_53178_5 : List LI := [(1, 2, 0, 0, 0), (1, 3, 0, 0, 0), (36, 3, 20, 0, 0), (3, 0, 0, 0, 0), (1, 2, 0, 0, 0), (1, 1, 0, 0, 0), (57, 0, 0, 0, 0), (35, 2, 0, 0, 1), (40, 5, 0, 0, 0)]
def b_J7_fill_53178_20 : List LI := [(74, 0, 0, 0, 0)]
def cd_J7_fill_53178 : Nat → List LI := fun pc => if pc = 0 then b_J7_fill_53178_0 else if pc = 5 then b_J7_fill_53178_5 else if pc = 20 then b_J7_fill_53178_20 else []
def b_L_law_0 : List LI := [(66, 11, 0, 14, 0), (42, 0, 0, 0, 0), (67, 140, 1, 11, 3), (6, 1, 0, 0, 0), (66, 12, 0, 79, 0), (42, 0, 0, 0, 0), (67, 198, 1, 12, 3), (6, 2, 0, 0, 0), (7, 0, 0, 0, 0), (4, 3, 0, 0, 0), (0, 18, 0, 0, 0)]
def b_L_law_18 : List LI := [(1, 3, 0, 0, 0), (3, 0, 0, 0, 0), (62, 0, 0, 0, 0), (7, 0, 0, 0, 6), (11, 0, 0, 0, 0), (36, 4, 1690, 0, 0), (3, 0, 0, 0, 0), (1, 3, 0, 0, 0), (52, 0, 0, 0, 0), (7, 0, 0, 0, 63), (19, 0, 0, 0, 0), (41, 44, 1684, 0, 0)]
def b_L_law_224 : List LI := [(3, 1, 0, 0, 0), (3, 0, 0, 0, 0), (1, 3, 0, 0, 0), (7, 0, 0, 0, 1), (10, 0, 0, 0, 0), (52, 0, 0, 0, 0), (3, 0, 0, 0, 0), (1, 3, 0, 0, 0), (7, 0, 0, 0, 2), (10, 0, 0, 0, 0), (52, 0, 0, 0, 0), (3, 0, 0, 0, 0), (1, 3, 0, 0, 0), (7, 0, 0, 0, 3), (10, 0, 0, 0, 0), (52, 0, 0, 0, 0), (3, 0, 0, 0, 0), (1, 3, 0, 0, 0), (7, 0, 0, 0, 4), (10, 0, 0, 0, 0), (52, 0, 0, 0, 0), (3, 0, 0, 0, 0), (1, 3, 0, 0, 0), (7, 0, 0, 0, 5), (10, 0, 0, 0, 0), (52, 0, 0, 0, 0), (67, 141, 6, 11, 13), (3, 2, 0, 0, 0), (3, 0, 0, 0, 0), (1, 3, 0, 0, 0), (7, 0, 0, 0, 1), (10, 0, 0, 0, 0), (52, 0, 0, 0, 0), (3, 0, 0, 0, 0), (1, 3, 0, 0, 0), (7, 0, 0, 0, 2), (10, 0, 0, 0, 0), (52, 0, 0, 0, 0), (3, 0, 0, 0, 0), (1, 3, 0, 0, 0), (7, 0, 0, 0, 3), (10, 0, 0, 0, 0), (52, 0, 0, 0, 0), (3, 0, 0, 0, 0), (1, 3, 0, 0, 0), (7, 0, 0, 0, 4), (10, 0, 0, 0, 0), (52, 0, 0, 0, 0), (3, 0, 0, 0, 0), (1, 3, 0, 0, 0), (7, 0, 0, 0, 5), (10, 0, 0, 0, 0), (52, 0, 0, 0, 0), (67, 204, 6, 12, 13), (36, 0, 1684, 0, 0), (7, 0, 0, 0, 0), (71, 1, 0, 0, 0)]
def b_L_law_287 : List LI := [(3, 1, 0, 0, 0), (3, 0, 0, 0, 0), (1, 3, 0, 0, 0), (7, 0, 0, 0, 1), (10, 0, 0, 0, 0), (52, 0, 0, 0, 0), (67, 143, 2, 11, 5), (3, 2, 0, 0, 0), (3, 0, 0, 0, 0), (1, 3, 0, 0, 0), (7, 0, 0, 0, 1), (10, 0, 0, 0, 0), (52, 0, 0, 0, 0), (67, 206, 2, 12, 5), (36, 0, 1684, 0, 0), (7, 0, 0, 0, 0), (71, 1, 0, 0, 0)]
def b_L_law_310 : List LI := [(3, 1, 0, 0, 0), (3, 0, 0, 0, 0), (1, 3, 0, 0, 0), (7, 0, 0, 0, 1), (10, 0, 0, 0, 0), (52, 0, 0, 0, 0), (67, 144, 2, 11, 5), (3, 2, 0, 0, 0), (3, 0, 0, 0, 0), (1, 3, 0, 0, 0), (7, 0, 0, 0, 1), (10, 0, 0, 0, 0), (52, 0, 0, 0, 0), (67, 222, 2, 12, 5), (36, 0, 1684, 0, 0), (7, 0, 0, 0, 0), (71, 1, 0, 0, 0)]
def b_L_law_333 : List LI := [(3, 1, 0, 0, 0), (3, 0, 0, 0, 0), (1, 3, 0, 0, 0), (7, 0, 0, 0, 1), (10, 0, 0, 0, 0), (52, 0, 0, 0, 0), (3, 0, 0, 0, 0), (1, 3, 0, 0, 0), (7, 0, 0, 0, 2), (10, 0, 0, 0, 0), (52, 0, 0, 0, 0), (3, 0, 0, 0, 0), (1, 3, 0, 0, 0), (7, 0, 0, 0, 3), (10, 0, 0, 0, 0), (52, 0, 0, 0, 0), (67, 145, 4, 11, 9), (3, 2, 0, 0, 0), (3, 0, 0, 0, 0), (1, 3, 0, 0, 0), (7, 0, 0, 0, 1), (10, 0, 0, 0, 0), (52, 0, 0, 0, 0), (3, 0, 0, 0, 0), (1, 3, 0, 0, 0), (7, 0, 0, 0, 2), (10, 0, 0, 0, 0), (52, 0, 0, 0, 0), (3, 0, 0, 0, 0), (1, 3, 0, 0, 0), (7, 0, 0, 0, 3), (10, 0, 0, 0, 0), (52, 0, 0, 0, 0), (67, 231, 4, 12, 9), (36, 0, 1684, 0, 0), (7, 0, 0, 0, 0), (71, 1, 0, 0, 0)]
def b_L_law_376 : List LI := [(3, 1, 0, 0, 0), (3, 0, 0, 0, 0), (1, 3, 0, 0, 0), (7, 0, 0, 0, 1), (10, 0, 0, 0, 0), (52, 0, 0, 0, 0), (3, 0, 0, 0, 0), (1, 3, 0, 0, 0), (7, 0, 0, 0, 2), (10, 0, 0, 0, 0), (52, 0, 0, 0, 0), (67, 146, 3, 11, 7), (3, 2, 0, 0, 0), (3, 0, 0, 0, 0), (1, 3, 0, 0, 0), (7, 0, 0, 0, 1), (10, 0, 0, 0, 0), (52, 0, 0, 0, 0), (3, 0, 0, 0, 0), (1, 3, 0, 0, 0), (7, 0, 0, 0, 2), (10, 0, 0, 0, 0), (52, 0, 0, 0, 0), (67, 232, 3, 12, 7), (36, 0, 1684, 0, 0), (7, 0, 0, 0, 0), (71, 1, 0, 0, 0)]
def b_L_law_409 : List LI := [(3, 1, 0, 0, 0), (3, 0, 0, 0, 0), (1, 3, 0, 0, 0), (7, 0, 0, 0, 1), (10, 0, 0, 0, 0), (52, 0, 0, 0, 0), (3, 0, 0, 0, 0), (1, 3, 0, 0, 0), (7, 0, 0, 0, 2), (10, 0, 0, 0, 0), (52, 0, 0, 0, 0), (3, 0, 0, 0, 0), (1, 3, 0, 0, 0), (7, 0, 0, 0, 3), (10, 0, 0, 0, 0), (52, 0, 0, 0, 0), (67, 147, 4, 11, 9), (3, 2, 0, 0, 0), (3, 0, 0, 0, 0), (1, 3, 0, 0, 0), (7, 0, 0, 0, 1), (10, 0, 0, 0, 0), (52, 0, 0, 0, 0), (3, 0, 0, 0, 0), (1, 3, 0, 0, 0), (7, 0, 0, 0, 2), (10, 0, 0, 0, 0), (52, 0, 0, 0, 0), (3, 0, 0, 0, 0), (1, 3, 0, 0, 0), (7, 0, 0, 0, 3), (10, 0, 0, 0, 0), (52, 0, 0, 0, 0), (67, 234, 4, 12, 9), (36, 0, 1684, 0, 0), (7, 0, 0, 0, 0), (71, 1, 0, 0, 0)]
def b_L_law_452 : List LI := [(3, 1, 0, 0, 0), (3, 0, 0, 0, 0), (1, 3, 0, 0, 0), (7, 0, 0, 0, 1), (10, 0, 0, 0, 0), (52, 0, 0, 0, 0), (3, 0, 0, 0, 0), (1, 3, 0, 0, 0), (7, 0, 0, 0, 2), (10, 0, 0, 0, 0), (52, 0, 0, 0, 0), (67, 148, 3, 11, 7), (3, 2, 0, 0, 0), (3, 0, 0, 0, 0), (1, 3, 0, 0, 0), (7, 0, 0, 0, 1), (10, 0, 0, 0, 0), (52, 0, 0, 0, 0), (3, 0, 0, 0, 0), (1, 3, 0, 0, 0), (7, 0, 0, 0, 2), (10, 0, 0, 0, 0), (52, 0, 0, 0, 0), (67, 235, 3, 12, 7), (36, 0, 1684, 0, 0), (7, 0, 0, 0, 0), (71, 1, 0, 0, 0)]
def b_L_law_485 : List LI := [(3, 1, 0, 0, 0), (3, 0, 0, 0, 0), (1, 3, 0, 0, 0), (7, 0, 0, 0, 1), (10, 0, 0, 0, 0), (52, 0, 0, 0, 0), (3, 0, 0, 0, 0), (1, 3, 0, 0, 0), (7, 0, 0, 0, 2), (10, 0, 0, 0, 0), (52, 0, 0, 0, 0), (3, 0, 0, 0, 0), (1, 3, 0, 0, 0), (7, 0, 0, 0, 3), (10, 0, 0, 0, 0), (52, 0, 0, 0, 0), (3, 0, 0, 0, 0), (1, 3, 0, 0, 0), (7, 0, 0, 0, 4), (10, 0, 0, 0, 0), (52, 0, 0, 0, 0), (3, 0, 0, 0, 0), (1, 3, 0, 0, 0), (7, 0, 0, 0, 5), (10, 0, 0, 0, 0), (52, 0, 0, 0, 0), (67, 149, 6, 11, 13), (3, 2, 0, 0, 0), (3, 0, 0, 0, 0), (1, 3, 0, 0, 0), (7, 0, 0, 0, 1), (10, 0, 0, 0, 0), (52, 0, 0, 0, 0), (3, 0, 0, 0, 0), (1, 3, 0, 0, 0), (7, 0, 0, 0, 2), (10, 0, 0, 0, 0), (52, 0, 0, 0, 0), (3, 0, 0, 0, 0), (1, 3, 0, 0, 0), (7, 0, 0, 0, 3), (10, 0, 0, 0, 0), (52, 0, 0, 0, 0), (3, 0, 0, 0, 0), (1, 3, 0, 0, 0), (7, 0, 0, 0, 4), (10, 0, 0, 0, 0), (52, 0, 0, 0, 0), (3, 0, 0, 0, 0), (1, 3, 0, 0, 0), (7, 0, 0, 0, 5), (10, 0, 0, 0, 0), (52, 0, 0, 0, 0), (67, 237, 6, 12, 13), (36, 0, 1684, 0, 0), (7, 0, 0, 0, 0), (71, 1, 0, 0, 0)]
def b_L_law_548 : List LI := [(3, 1, 0, 0, 0), (3, 0, 0, 0, 0), (1, 3, 0, 0, 0), (7, 0, 0, 0, 1), (10, 0, 0, 0, 0), (52, 0, 0, 0, 0), (67, 150, 2, 11, 5), (3, 2, 0, 0, 0), (3, 0, 0, 0, 0), (1, 3, 0, 0, 0), (7, 0, 0, 0, 1), (10, 0, 0, 0, 0), (52, 0, 0, 0, 0), (67, 238, 2, 12, 5), (36, 0, 1684, 0, 0), (7, 0, 0, 0, 0), (71, 1, 0, 0, 0)]
def b_L_law_571 : List LI := [(3, 1, 0, 0, 0), (3, 0, 0, 0, 0), (1, 3, 0, 0, 0), (7, 0, 0, 0, 1), (10, 0, 0, 0, 0), (52, 0, 0, 0, 0), (3, 0, 0, 0, 0), (1, 3, 0, 0, 0), (7, 0, 0, 0, 2), (10, 0, 0, 0, 0), (52, 0, 0, 0, 0), (67, 152, 3, 11, 7), (3, 2, 0, 0, 0), (3, 0, 0, 0, 0), (1, 3, 0, 0, 0), (7, 0, 0, 0, 1), (10, 0, 0, 0, 0), (52, 0, 0, 0, 0), (3, 0, 0, 0, 0), (1, 3, 0, 0, 0), (7, 0, 0, 0, 2), (10, 0, 0, 0, 0), (52, 0, 0, 0, 0), (67, 239, 3, 12, 7), (36, 0, 1684, 0, 0), (7, 0, 0, 0, 0), (71, 1, 0, 0, 0)]
def b_L_law_604 : List LI := [(3, 1, 0, 0, 0), (3, 0, 0, 0, 0), (1, 3, 0, 0, 0), (7, 0, 0, 0, 1), (10, 0, 0, 0, 0), (52, 0, 0, 0, 0), (3, 0, 0, 0, 0), (1, 3, 0, 0, 0), (7, 0, 0, 0, 2), (10, 0, 0, 0, 0), (52, 0, 0, 0, 0), (67, 153, 3, 11, 7), (3, 2, 0, 0, 0), (3, 0, 0, 0, 0), (1, 3, 0, 0, 0), (7, 0, 0, 0, 1), (10, 0, 0, 0, 0), (52, 0, 0, 0, 0), (3, 0, 0, 0, 0), (1, 3, 0, 0, 0), (7, 0, 0, 0, 2), (10, 0, 0, 0, 0), (52, 0, 0, 0, 0), (67, 240, 3, 12, 7), (36, 0, 1684, 0, 0), (7, 0, 0, 0, 0), (71, 1, 0, 0, 0)]
def b_L_law_637 : List LI := [(3, 1, 0, 0, 0), (3, 0, 0, 0, 0), (1, 3, 0, 0, 0), (7, 0, 0, 0, 1), (10, 0, 0, 0, 0), (52, 0, 0, 0, 0), (3, 0, 0, 0, 0), (1, 3, 0, 0, 0), (7, 0, 0, 0, 2), (10, 0, 0, 0, 0), (52, 0, 0, 0, 0), (67, 154, 3, 11, 7), (3, 2, 0, 0, 0), (3, 0, 0, 0, 0), (1, 3, 0, 0, 0), (7, 0, 0, 0, 1), (10, 0, 0, 0, 0), (52, 0, 0, 0, 0), (3, 0, 0, 0, 0), (1, 3, 0, 0, 0), (7, 0, 0, 0, 2), (10, 0, 0, 0, 0), (52, 0, 0, 0, 0), (67, 241, 3, 12, 7), (36, 0, 1684, 0, 0), (7, 0, 0, 0, 0), (71, 1, 0, 0, 0)]
def b_L_law_670 : List LI := [(3, 1, 0, 0, 0), (3, 0, 0, 0, 0), (1, 3, 0, 0, 0), (7, 0, 0, 0, 1), (10, 0, 0, 0, 0), (52, 0, 0, 0, 0), (3, 0, 0, 0, 0), (1, 3, 0, 0, 0), (7, 0, 0, 0, 2), (10, 0, 0, 0, 0), (52, 0, 0, 0, 0), (3, 0, 0, 0, 0), (1, 3, 0, 0, 0), (7, 0, 0, 0, 3), (10, 0, 0, 0, 0), (52, 0, 0, 0, 0), (3, 0, 0, 0, 0), (1, 3, 0, 0, 0), (7, 0, 0, 0, 4), (10, 0, 0, 0, 0), (52, 0, 0, 0, 0), (3, 0, 0, 0, 0), (1, 3, 0, 0, 0), (7, 0, 0, 0, 5), (10, 0, 0, 0, 0), (52, 0, 0, 0, 0), (67, 156, 6, 11, 13), (3, 2, 0, 0, 0), (3, 0, 0, 0, 0), (1, 3, 0, 0, 0), (7, 0, 0, 0, 1), (10, 0, 0, 0, 0), (52, 0, 0, 0, 0), (3, 0, 0, 0, 0), (1, 3, 0, 0, 0), (7, 0, 0, 0, 2), (10, 0, 0, 0, 0), (52, 0, 0, 0, 0), (3, 0, 0, 0, 0), (1, 3, 0, 0, 0), (7, 0, 0, 0, 3), (10, 0, 0, 0, 0), (52, 0, 0, 0, 0), (3, 0, 0, 0, 0), (1, 3, 0, 0, 0), (7, 0, 0, 0, 4), (10, 0, 0, 0, 0), (52, 0, 0, 0, 0), (3, 0, 0, 0, 0), (1, 3, 0, 0, 0), (7, 0, 0, 0, 5), (10, 0, 0, 0, 0), (52, 0, 0, 0, 0), (67, 243, 6, 12, 13), (36, 0, 1684, 0, 0), (7, 0, 0, 0, 0), (71, 1, 0, 0, 0)]
def b_L_law_733 : List LI := [(3, 1, 0, 0, 0), (3, 0, 0, 0, 0), (1, 3, 0, 0, 0), (7, 0, 0, 0, 1), (10, 0, 0, 0, 0), (52, 0, 0, 0, 0), (3, 0, 0, 0, 0), (1, 3, 0, 0, 0), (7, 0, 0, 0, 2), (10, 0, 0, 0, 0), (52, 0, 0, 0, 0), (67, 157, 3, 11, 7), (3, 2, 0, 0, 0), (3, 0, 0, 0, 0), (1, 3, 0, 0, 0), (7, 0, 0, 0, 1), (10, 0, 0, 0, 0), (52, 0, 0, 0, 0), (3, 0, 0, 0, 0), (1, 3, 0, 0, 0), (7, 0, 0, 0, 2), (10, 0, 0, 0, 0), (52, 0, 0, 0, 0), (67, 244, 3, 12, 7), (36, 0, 1684, 0, 0), (7, 0, 0, 0, 0), (71, 1, 0, 0, 0)]
def b_L_law_766 : List LI := [(3, 1, 0, 0, 0), (67, 158, 1, 11, 3), (3, 2, 0, 0, 0), (67, 247, 1, 12, 3), (36, 0, 1684, 0, 0), (7, 0, 0, 0, 0), (71, 1, 0, 0, 0)]
def b_L_law_779 : List LI := [(3, 1, 0, 0, 0), (3, 0, 0, 0, 0), (1, 3, 0, 0, 0), (7, 0, 0, 0, 1), (10, 0, 0, 0, 0), (52, 0, 0, 0, 0), (3, 0, 0, 0, 0), (1, 3, 0, 0, 0), (7, 0, 0, 0, 2), (10, 0, 0, 0, 0), (52, 0, 0, 0, 0), (3, 0, 0, 0, 0), (1, 3, 0, 0, 0), (7, 0, 0, 0, 3), (10, 0, 0, 0, 0), (52, 0, 0, 0, 0), (37, 0, 802, 0, 0), (7, 0, 0, 0, 1), (40, 803, 0, 0, 0)]
def b_L_law_802 : List LI := [(7, 0, 0, 0, 0), (0, 803, 0, 0, 0)]
def b_L_law_803 : List LI := [(67, 159, 4, 11, 9), (3, 2, 0, 0, 0), (3, 0, 0, 0, 0), (1, 3, 0, 0, 0), (7, 0, 0, 0, 1), (10, 0, 0, 0, 0), (52, 0, 0, 0, 0), (3, 0, 0, 0, 0), (1, 3, 0, 0, 0), (7, 0, 0, 0, 2), (10, 0, 0, 0, 0), (52, 0, 0, 0, 0), (3, 0, 0, 0, 0), (1, 3, 0, 0, 0), (7, 0, 0, 0, 3), (10, 0, 0, 0, 0), (52, 0, 0, 0, 0), (37, 0, 829, 0, 0), (7, 0, 0, 0, 1), (40, 830, 0, 0, 0)]
def b_L_law_829 : List LI := [(7, 0, 0, 0, 0), (0, 830, 0, 0, 0)]
def b_L_law_830 : List LI := [(67, 248, 4, 12, 9), (36, 0, 1684, 0, 0), (7, 0, 0, 0, 0), (71, 1, 0, 0, 0)]
def b_L_law_838 : List LI := [(3, 1, 0, 0, 0), (3, 0, 0, 0, 0), (1, 3, 0, 0, 0), (7, 0, 0, 0, 1), (10, 0, 0, 0, 0), (52, 0, 0, 0, 0), (67, 160, 2, 11, 5), (3, 2, 0, 0, 0), (3, 0, 0, 0, 0), (1, 3, 0, 0, 0), (7, 0, 0, 0, 1), (10, 0, 0, 0, 0), (52, 0, 0, 0, 0), (67, 249, 2, 12, 5), (36, 0, 1684, 0, 0), (7, 0, 0, 0, 0), (71, 1, 0, 0, 0)]
def b_L_law_861 : List LI := [(3, 1, 0, 0, 0), (3, 0, 0, 0, 0), (1, 3, 0, 0, 0), (7, 0, 0, 0, 1), (10, 0, 0, 0, 0), (52, 0, 0, 0, 0), (3, 0, 0, 0, 0), (1, 3, 0, 0, 0), (7, 0, 0, 0, 2), (10, 0, 0, 0, 0), (52, 0, 0, 0, 0), (67, 161, 3, 11, 7), (3, 2, 0, 0, 0), (3, 0, 0, 0, 0), (1, 3, 0, 0, 0), (7, 0, 0, 0, 1), (10, 0, 0, 0, 0), (52, 0, 0, 0, 0), (3, 0, 0, 0, 0), (1, 3, 0, 0, 0), (7, 0, 0, 0, 2), (10, 0, 0, 0, 0), (52, 0, 0, 0, 0), (67, 256, 3, 12, 7), (36, 0, 1684, 0, 0), (7, 0, 0, 0, 0), (71, 1, 0, 0, 0)]
def b_L_law_894 : List LI := [(3, 1, 0, 0, 0), (3, 0, 0, 0, 0), (1, 3, 0, 0, 0), (7, 0, 0, 0, 1), (10, 0, 0, 0, 0), (52, 0, 0, 0, 0), (67, 162, 2, 11, 5), (3, 2, 0, 0, 0), (3, 0, 0, 0, 0), (1, 3, 0, 0, 0), (7, 0, 0, 0, 1), (10, 0, 0, 0, 0), (52, 0, 0, 0, 0), (67, 257, 2, 12, 5), (36, 0, 1684, 0, 0), (7, 0, 0, 0, 0), (71, 1, 0, 0, 0)]
def b_L_law_917 : List LI := [(3, 1, 0, 0, 0), (3, 0, 0, 0, 0), (1, 3, 0, 0, 0), (7, 0, 0, 0, 1), (10, 0, 0, 0, 0), (52, 0, 0, 0, 0), (3, 0, 0, 0, 0), (1, 3, 0, 0, 0), (7, 0, 0, 0, 2), (10, 0, 0, 0, 0), (52, 0, 0, 0, 0), (67, 163, 3, 11, 7), (3, 2, 0, 0, 0), (3, 0, 0, 0, 0), (1, 3, 0, 0, 0), (7, 0, 0, 0, 1), (10, 0, 0, 0, 0), (52, 0, 0, 0, 0), (3, 0, 0, 0, 0), (1, 3, 0, 0, 0), (7, 0, 0, 0, 2), (10, 0, 0, 0, 0), (52, 0, 0, 0, 0), (67, 261, 3, 12, 7), (36, 0, 1684, 0, 0), (7, 0, 0, 0, 0), (71, 1, 0, 0, 0)]
def b_L_law_950 : List LI := [(3, 1, 0, 0, 0), (3, 0, 0, 0, 0), (1, 3, 0, 0, 0), (7, 0, 0, 0, 1), (10, 0, 0, 0, 0), (52, 0, 0, 0, 0), (67, 164, 2, 11, 5), (3, 2, 0, 0, 0), (3, 0, 0, 0, 0), (1, 3, 0, 0, 0), (7, 0, 0, 0, 1), (10, 0, 0, 0, 0), (52, 0, 0, 0, 0), (67, 262, 2, 12, 5), (36, 0, 1684, 0, 0), (7, 0, 0, 0, 0), (71, 1, 0, 0, 0)]
def b_L_law_973 : List LI := [(3, 1, 0, 0, 0), (3, 0, 0, 0, 0), (1, 3, 0, 0, 0), (7, 0, 0, 0, 1), (10, 0, 0, 0, 0), (52, 0, 0, 0, 0), (3, 0, 0, 0, 0), (1, 3, 0, 0, 0), (7, 0, 0, 0, 2), (10, 0, 0, 0, 0), (52, 0, 0, 0, 0), (67, 165, 3, 11, 7), (3, 2, 0, 0, 0), (3, 0, 0, 0, 0), (1, 3, 0, 0, 0), (7, 0, 0, 0, 1), (10, 0, 0, 0, 0), (52, 0, 0, 0, 0), (3, 0, 0, 0, 0), (1, 3, 0, 0, 0), (7, 0, 0, 0, 2), (10, 0, 0, 0, 0), (52, 0, 0, 0, 0), (67, 264, 3, 12, 7), (36, 0, 1684, 0, 0), (7, 0, 0, 0, 0), (71, 1, 0, 0, 0)]
def b_L_law_1006 : List LI := [(3, 1, 0, 0, 0), (67, 166, 1, 11, 3), (3, 2, 0, 0, 0), (67, 269, 1, 12, 3), (36, 0, 1684, 0, 0), (7, 0, 0, 0, 0), (71, 1, 0, 0, 0)]
def b_L_law_1019 : List LI := [(3, 1, 0, 0, 0), (3, 0, 0, 0, 0), (1, 3, 0, 0, 0), (7, 0, 0, 0, 1), (10, 0, 0, 0, 0), (52, 0, 0, 0, 0), (67, 167, 2, 11, 5), (3, 2, 0, 0, 0), (3, 0, 0, 0, 0), (1, 3, 0, 0, 0), (7, 0, 0, 0, 1), (10, 0, 0, 0, 0), (52, 0, 0, 0, 0), (67, 270, 2, 12, 5), (36, 0, 1684, 0, 0), (7, 0, 0, 0, 0), (71, 1, 0, 0, 0)]
def b_L_law_1042 : List LI := [(3, 1, 0, 0, 0), (3, 0, 0, 0, 0), (1, 3, 0, 0, 0), (7, 0, 0, 0, 1), (10, 0, 0, 0, 0), (52, 0, 0, 0, 0), (67, 168, 2, 11, 5), (3, 2, 0, 0, 0), (3, 0, 0, 0, 0), (1, 3, 0, 0, 0), (7, 0, 0, 0, 1), (10, 0, 0, 0, 0), (52, 0, 0, 0, 0), (67, 271, 2, 12, 5), (36, 0, 1684, 0, 0), (7, 0, 0, 0, 0), (71, 1, 0, 0, 0)]
def b_L_law_1065 : List LI := [(3, 1, 0, 0, 0), (3, 0, 0, 0, 0), (1, 3, 0, 0, 0), (7, 0, 0, 0, 1), (10, 0, 0, 0, 0), (52, 0, 0, 0, 0), (67, 169, 2, 11, 5), (3, 2, 0, 0, 0), (3, 0, 0, 0, 0), (1, 3, 0, 0, 0), (7, 0, 0, 0, 1), (10, 0, 0, 0, 0), (52, 0, 0, 0, 0), (67, 273, 2, 12, 5), (36, 0, 1684, 0, 0), (7, 0, 0, 0, 0), (71, 1, 0, 0, 0)]
def b_L_law_1088 : List LI := [(3, 1, 0, 0, 0), (3, 0, 0, 0, 0), (1, 3, 0, 0, 0), (7, 0, 0, 0, 1), (10, 0, 0, 0, 0), (52, 0, 0, 0, 0), (3, 0, 0, 0, 0), (1, 3, 0, 0, 0), (7, 0, 0, 0, 2), (10, 0, 0, 0, 0), (52, 0, 0, 0, 0), (3, 0, 0, 0, 0), (1, 3, 0, 0, 0), (7, 0, 0, 0, 3), (10, 0, 0, 0, 0), (52, 0, 0, 0, 0), (67, 170, 4, 11, 9), (3, 2, 0, 0, 0), (3, 0, 0, 0, 0), (1, 3, 0, 0, 0), (7, 0, 0, 0, 1), (10, 0, 0, 0, 0), (52, 0, 0, 0, 0), (3, 0, 0, 0, 0), (1, 3, 0, 0, 0), (7, 0, 0, 0, 2), (10, 0, 0, 0, 0), (52, 0, 0, 0, 0), (3, 0, 0, 0, 0), (1, 3, 0, 0, 0), (7, 0, 0, 0, 3), (10, 0, 0, 0, 0), (52, 0, 0, 0, 0), (67, 274, 4, 12, 9), (36, 0, 1684, 0, 0), (7, 0, 0, 0, 0), (71, 1, 0, 0, 0)]
def b_L_law_1131 : List LI := [(3, 1, 0, 0, 0), (3, 0, 0, 0, 0), (1, 3, 0, 0, 0), (7, 0, 0, 0, 1), (10, 0, 0, 0, 0), (52, 0, 0, 0, 0), (3, 0, 0, 0, 0), (1, 3, 0, 0, 0), (7, 0, 0, 0, 2), (10, 0, 0, 0, 0), (52, 0, 0, 0, 0), (3, 0, 0, 0, 0), (1, 3, 0, 0, 0), (7, 0, 0, 0, 3), (10, 0, 0, 0, 0), (52, 0, 0, 0, 0), (67, 171, 4, 11, 9), (3, 2, 0, 0, 0), (3, 0, 0, 0, 0), (1, 3, 0, 0, 0), (7, 0, 0, 0, 1), (10, 0, 0, 0, 0), (52, 0, 0, 0, 0), (3, 0, 0, 0, 0), (1, 3, 0, 0, 0), (7, 0, 0, 0, 2), (10, 0, 0, 0, 0), (52, 0, 0, 0, 0), (3, 0, 0, 0, 0), (1, 3, 0, 0, 0), (7, 0, 0, 0, 3), (10, 0, 0, 0, 0), (52, 0, 0, 0, 0), (67, 275, 4, 12, 9), (36, 0, 1684, 0, 0), (7, 0, 0, 0, 0), (71, 1, 0, 0, 0)]
def b_L_law_1174 : List LI := [(3, 1, 0, 0, 0), (3, 0, 0, 0, 0), (1, 3, 0, 0, 0), (7, 0, 0, 0, 1), (10, 0, 0, 0, 0), (52, 0, 0, 0, 0), (67, 172, 2, 11, 5), (3, 2, 0, 0, 0), (3, 0, 0, 0, 0), (1, 3, 0, 0, 0), (7, 0, 0, 0, 1), (10, 0, 0, 0, 0), (52, 0, 0, 0, 0), (67, 277, 2, 12, 5), (36, 0, 1684, 0, 0), (7, 0, 0, 0, 0), (71, 1, 0, 0, 0)]
def b_L_law_1197 : List LI := [(3, 1, 0, 0, 0), (3, 0, 0, 0, 0), (1, 3, 0, 0, 0), (7, 0, 0, 0, 1), (10, 0, 0, 0, 0), (52, 0, 0, 0, 0), (3, 0, 0, 0, 0), (1, 3, 0, 0, 0), (7, 0, 0, 0, 2), (10, 0, 0, 0, 0), (52, 0, 0, 0, 0), (3, 0, 0, 0, 0), (1, 3, 0, 0, 0), (7, 0, 0, 0, 3), (10, 0, 0, 0, 0), (52, 0, 0, 0, 0), (37, 0, 1220, 0, 0), (7, 0, 0, 0, 1), (40, 1221, 0, 0, 0)]
def b_L_law_1220 : List LI := [(7, 0, 0, 0, 0), (0, 1221, 0, 0, 0)]
def b_L_law_1221 : List LI := [(3, 0, 0, 0, 0), (1, 3, 0, 0, 0), (7, 0, 0, 0, 4), (10, 0, 0, 0, 0), (52, 0, 0, 0, 0), (67, 173, 5, 11, 11), (3, 2, 0, 0, 0), (3, 0, 0, 0, 0), (1, 3, 0, 0, 0), (7, 0, 0, 0, 1), (10, 0, 0, 0, 0), (52, 0, 0, 0, 0), (3, 0, 0, 0, 0), (1, 3, 0, 0, 0), (7, 0, 0, 0, 2), (10, 0, 0, 0, 0), (52, 0, 0, 0, 0), (3, 0, 0, 0, 0), (1, 3, 0, 0, 0), (7, 0, 0, 0, 3), (10, 0, 0, 0, 0), (52, 0, 0, 0, 0), (37, 0, 1252, 0, 0), (7, 0, 0, 0, 1), (40, 1253, 0, 0, 0)]
def b_L_law_1252 : List LI := [(7, 0, 0, 0, 0), (0, 1253, 0, 0, 0)]
def b_L_law_1253 : List LI := [(3, 0, 0, 0, 0), (1, 3, 0, 0, 0), (7, 0, 0, 0, 4), (10, 0, 0, 0, 0), (52, 0, 0, 0, 0), (67, 278, 5, 12, 11), (36, 0, 1684, 0, 0), (7, 0, 0, 0, 0), (71, 1, 0, 0, 0)]
def b_L_law_1266 : List LI := [(3, 1, 0, 0, 0), (67, 174, 1, 11, 3), (3, 2, 0, 0, 0), (67, 279, 1, 12, 3), (36, 0, 1684, 0, 0), (7, 0, 0, 0, 0), (71, 1, 0, 0, 0)]
def b_L_law_1279 : List LI := [(3, 1, 0, 0, 0), (3, 0, 0, 0, 0), (1, 3, 0, 0, 0), (7, 0, 0, 0, 1), (10, 0, 0, 0, 0), (52, 0, 0, 0, 0), (3, 0, 0, 0, 0), (1, 3, 0, 0, 0), (7, 0, 0, 0, 2), (10, 0, 0, 0, 0), (52, 0, 0, 0, 0), (37, 0, 1297, 0, 0), (7, 0, 0, 0, 1), (40, 1298, 0, 0, 0)]
def b_L_law_1297 : List LI := [(7, 0, 0, 0, 0), (0, 1298, 0, 0, 0)]
def b_L_law_1298 : List LI := [(67, 175, 3, 11, 7), (3, 2, 0, 0, 0), (3, 0, 0, 0, 0), (1, 3, 0, 0, 0), (7, 0, 0, 0, 1), (10, 0, 0, 0, 0), (52, 0, 0, 0, 0), (3, 0, 0, 0, 0), (1, 3, 0, 0, 0), (7, 0, 0, 0, 2), (10, 0, 0, 0, 0), (52, 0, 0, 0, 0), (37, 0, 1319, 0, 0), (7, 0, 0, 0, 1), (40, 1320, 0, 0, 0)]
def b_L_law_1319 : List LI := [(7, 0, 0, 0, 0), (0, 1320, 0, 0, 0)]
def b_L_law_1320 : List LI := [(67, 290, 3, 12, 7), (36, 0, 1684, 0, 0), (7, 0, 0, 0, 0), (71, 1, 0, 0, 0)]
def b_L_law_1328 : List LI := [(3, 1, 0, 0, 0), (3, 0, 0, 0, 0), (1, 3, 0, 0, 0), (7, 0, 0, 0, 1), (10, 0, 0, 0, 0), (52, 0, 0, 0, 0), (67, 176, 2, 11, 5), (3, 2, 0, 0, 0), (3, 0, 0, 0, 0), (1, 3, 0, 0, 0), (7, 0, 0, 0, 1), (10, 0, 0, 0, 0), (52, 0, 0, 0, 0), (67, 291, 2, 12, 5), (36, 0, 1684, 0, 0), (7, 0, 0, 0, 0), (71, 1, 0, 0, 0)]
def b_L_law_1351 : List LI := [(3, 1, 0, 0, 0), (3, 0, 0, 0, 0), (1, 3, 0, 0, 0), (7, 0, 0, 0, 1), (10, 0, 0, 0, 0), (52, 0, 0, 0, 0), (3, 0, 0, 0, 0), (1, 3, 0, 0, 0), (7, 0, 0, 0, 2), (10, 0, 0, 0, 0), (52, 0, 0, 0, 0), (67, 177, 3, 11, 7), (3, 2, 0, 0, 0), (3, 0, 0, 0, 0), (1, 3, 0, 0, 0), (7, 0, 0, 0, 1), (10, 0, 0, 0, 0), (52, 0, 0, 0, 0), (3, 0, 0, 0, 0), (1, 3, 0, 0, 0), (7, 0, 0, 0, 2), (10, 0, 0, 0, 0), (52, 0, 0, 0, 0), (67, 292, 3, 12, 7), (36, 0, 1684, 0, 0), (7, 0, 0, 0, 0), (71, 1, 0, 0, 0)]
def b_L_law_1384 : List LI := [(3, 1, 0, 0, 0), (3, 0, 0, 0, 0), (1, 3, 0, 0, 0), (7, 0, 0, 0, 1), (10, 0, 0, 0, 0), (52, 0, 0, 0, 0), (67, 178, 2, 11, 5), (3, 2, 0, 0, 0), (3, 0, 0, 0, 0), (1, 3, 0, 0, 0), (7, 0, 0, 0, 1), (10, 0, 0, 0, 0), (52, 0, 0, 0, 0), (67, 293, 2, 12, 5), (36, 0, 1684, 0, 0), (7, 0, 0, 0, 0), (71, 1, 0, 0, 0)]
def b_L_law_1407 : List LI := [(3, 1, 0, 0, 0), (3, 0, 0, 0, 0), (1, 3, 0, 0, 0), (7, 0, 0, 0, 1), (10, 0, 0, 0, 0), (52, 0, 0, 0, 0), (67, 179, 2, 11, 5), (3, 2, 0, 0, 0), (3, 0, 0, 0, 0), (1, 3, 0, 0, 0), (7, 0, 0, 0, 1), (10, 0, 0, 0, 0), (52, 0, 0, 0, 0), (67, 297, 2, 12, 5), (36, 0, 1684, 0, 0), (7, 0, 0, 0, 0), (71, 1, 0, 0, 0)]
def b_L_law_1430 : List LI := [(3, 1, 0, 0, 0), (3, 0, 0, 0, 0), (1, 3, 0, 0, 0), (7, 0, 0, 0, 1), (10, 0, 0, 0, 0), (52, 0, 0, 0, 0), (67, 180, 2, 11, 5), (3, 2, 0, 0, 0), (3, 0, 0, 0, 0), (1, 3, 0, 0, 0), (7, 0, 0, 0, 1), (10, 0, 0, 0, 0), (52, 0, 0, 0, 0), (67, 298, 2, 12, 5), (36, 0, 1684, 0, 0), (7, 0, 0, 0, 0), (71, 1, 0, 0, 0)]
def b_L_law_1453 : List LI := [(3, 1, 0, 0, 0), (3, 0, 0, 0, 0), (1, 3, 0, 0, 0), (7, 0, 0, 0, 1), (10, 0, 0, 0, 0), (52, 0, 0, 0, 0), (3, 0, 0, 0, 0), (1, 3, 0, 0, 0), (7, 0, 0, 0, 2), (10, 0, 0, 0, 0), (52, 0, 0, 0, 0), (3, 0, 0, 0, 0), (1, 3, 0, 0, 0), (7, 0, 0, 0, 3), (10, 0, 0, 0, 0), (52, 0, 0, 0, 0), (67, 181, 4, 11, 9), (3, 2, 0, 0, 0), (3, 0, 0, 0, 0), (1, 3, 0, 0, 0), (7, 0, 0, 0, 1), (10, 0, 0, 0, 0), (52, 0, 0, 0, 0), (3, 0, 0, 0, 0), (1, 3, 0, 0, 0), (7, 0, 0, 0, 2), (10, 0, 0, 0, 0), (52, 0, 0, 0, 0), (3, 0, 0, 0, 0), (1, 3, 0, 0, 0), (7, 0, 0, 0, 3), (10, 0, 0, 0, 0), (52, 0, 0, 0, 0), (67, 302, 4, 12, 9), (36, 0, 1684, 0, 0), (7, 0, 0, 0, 0), (71, 1, 0, 0, 0)]
def b_L_law_1496 : List LI := [(3, 1, 0, 0, 0), (3, 0, 0, 0, 0), (1, 3, 0, 0, 0), (7, 0, 0, 0, 1), (10, 0, 0, 0, 0), (52, 0, 0, 0, 0), (3, 0, 0, 0, 0), (1, 3, 0, 0, 0), (7, 0, 0, 0, 2), (10, 0, 0, 0, 0), (52, 0, 0, 0, 0), (3, 0, 0, 0, 0), (1, 3, 0, 0, 0), (7, 0, 0, 0, 3), (10, 0, 0, 0, 0), (52, 0, 0, 0, 0), (3, 0, 0, 0, 0), (1, 3, 0, 0, 0), (7, 0, 0, 0, 4), (10, 0, 0, 0, 0), (52, 0, 0, 0, 0), (67, 182, 5, 11, 11), (3, 2, 0, 0, 0), (3, 0, 0, 0, 0), (1, 3, 0, 0, 0), (7, 0, 0, 0, 1), (10, 0, 0, 0, 0), (52, 0, 0, 0, 0), (3, 0, 0, 0, 0), (1, 3, 0, 0, 0), (7, 0, 0, 0, 2), (10, 0, 0, 0, 0), (52, 0, 0, 0, 0), (3, 0, 0, 0, 0), (1, 3, 0, 0, 0), (7, 0, 0, 0, 3), (10, 0, 0, 0, 0), (52, 0, 0, 0, 0), (3, 0, 0, 0, 0), (1, 3, 0, 0, 0), (7, 0, 0, 0, 4), (10, 0, 0, 0, 0), (52, 0, 0, 0, 0), (67, 303, 5, 12, 11), (36, 0, 1684, 0, 0), (7, 0, 0, 0, 0), (71, 1, 0, 0, 0)]
def b_L_law_1549 : List LI := [(3, 1, 0, 0, 0), (3, 0, 0, 0, 0), (1, 3, 0, 0, 0), (7, 0, 0, 0, 1), (10, 0, 0, 0, 0), (52, 0, 0, 0, 0), (3, 0, 0, 0, 0), (1, 3, 0, 0, 0), (7, 0, 0, 0, 2), (10, 0, 0, 0, 0), (52, 0, 0, 0, 0), (67, 183, 3, 11, 7), (3, 2, 0, 0, 0), (3, 0, 0, 0, 0), (1, 3, 0, 0, 0), (7, 0, 0, 0, 1), (10, 0, 0, 0, 0), (52, 0, 0, 0, 0), (3, 0, 0, 0, 0), (1, 3, 0, 0, 0), (7, 0, 0, 0, 2), (10, 0, 0, 0, 0), (52, 0, 0, 0, 0), (67, 304, 3, 12, 7), (36, 0, 1684, 0, 0), (7, 0, 0, 0, 0), (71, 1, 0, 0, 0)]
def b_L_law_1582 : List LI := [(3, 1, 0, 0, 0), (3, 0, 0, 0, 0), (1, 3, 0, 0, 0), (7, 0, 0, 0, 1), (10, 0, 0, 0, 0), (52, 0, 0, 0, 0), (3, 0, 0, 0, 0), (1, 3, 0, 0, 0), (7, 0, 0, 0, 2), (10, 0, 0, 0, 0), (52, 0, 0, 0, 0), (67, 184, 3, 11, 7), (3, 2, 0, 0, 0), (3, 0, 0, 0, 0), (1, 3, 0, 0, 0), (7, 0, 0, 0, 1), (10, 0, 0, 0, 0), (52, 0, 0, 0, 0), (3, 0, 0, 0, 0), (1, 3, 0, 0, 0), (7, 0, 0, 0, 2), (10, 0, 0, 0, 0), (52, 0, 0, 0, 0), (67, 307, 3, 12, 7), (36, 0, 1684, 0, 0), (7, 0, 0, 0, 0), (71, 1, 0, 0, 0)]
def b_L_law_1615 : List LI := [(3, 1, 0, 0, 0), (3, 0, 0, 0, 0), (1, 3, 0, 0, 0), (7, 0, 0, 0, 1), (10, 0, 0, 0, 0), (52, 0, 0, 0, 0), (3, 0, 0, 0, 0), (1, 3, 0, 0, 0), (7, 0, 0, 0, 2), (10, 0, 0, 0, 0), (52, 0, 0, 0, 0), (67, 185, 3, 11, 7), (3, 2, 0, 0, 0), (3, 0, 0, 0, 0), (1, 3, 0, 0, 0), (7, 0, 0, 0, 1), (10, 0, 0, 0, 0), (52, 0, 0, 0, 0), (3, 0, 0, 0, 0), (1, 3, 0, 0, 0), (7, 0, 0, 0, 2), (10, 0, 0, 0, 0), (52, 0, 0, 0, 0), (67, 309, 3, 12, 7), (36, 0, 1684, 0, 0), (7, 0, 0, 0, 0), (71, 1, 0, 0, 0)]
def b_L_law_1648 : List LI := [(3, 1, 0, 0, 0), (67, 186, 1, 11, 3), (3, 2, 0, 0, 0), (67, 310, 1, 12, 3), (36, 0, 1684, 0, 0), (7, 0, 0, 0, 0), (71, 1, 0, 0, 0)]
def b_L_law_1661 : List LI := [(3, 1, 0, 0, 0), (3, 0, 0, 0, 0), (1, 3, 0, 0, 0), (7, 0, 0, 0, 1), (10, 0, 0, 0, 0), (52, 0, 0, 0, 0), (67, 187, 2, 11, 5), (3, 2, 0, 0, 0), (3, 0, 0, 0, 0), (1, 3, 0, 0, 0), (7, 0, 0, 0, 1), (10, 0, 0, 0, 0), (52, 0, 0, 0, 0), (67, 311, 2, 12, 5), (36, 0, 1684, 0, 0), (7, 0, 0, 0, 0), (71, 1, 0, 0, 0)]
def b_L_law_1684 : List LI := [(35, 3, 0, 0, 6), (40, 18, 0, 0, 0)]
def b_L_law_1690 : List LI := [(7, 0, 0, 0, 1), (71, 1, 0, 0, 0)]
def cd_L_law : Nat → List LI := fun pc => if pc = 0 then b_L_law_0 else if pc = 18 then b_L_law_18 else if pc = 224 then b_L_law_224 else if pc = 287 then b_L_law_287 else if pc = 310 then b_L_law_310 else if pc = 333 then b_L_law_333 else if pc = 376 then b_L_law_376 else if pc = 409 then b_L_law_409 else if pc = 452 then b_L_law_452 else if pc = 485 then b_L_law_485 else if pc = 548 then b_L_law_548 else if pc = 571 then b_L_law_571 else if pc = 604 then b_L_law_604 else if pc = 637 then b_L_law_637 else if pc = 670 then b_L_law_670 else if pc = 733 then b_L_law_733 else if pc = 766 then b_L_law_766 else if pc = 779 then b_L_law_779 else if pc = 802 then b_L_law_802 else if pc = 803 then b_L_law_803 else if pc = 829 then b_L_law_829 else if pc = 830 then b_L_law_830 else if pc = 838 then b_L_law_838 else if pc = 861 then b_L_law_861 else if pc = 894 then b_L_law_894 else if pc = 917 then b_L_law_917 else if pc = 950 then b_L_law_950 else if pc = 973 then b_L_law_973 else if pc = 1006 then b_L_law_1006 else if pc = 1019 then b_L_law_1019 else if pc = 1042 then b_L_law_1042 else if pc = 1065 then b_L_law_1065 else if pc = 1088 then b_L_law_1088 else if pc = 1131 then b_L_law_1131 else if pc = 1174 then b_L_law_1174 else if pc = 1197 then b_L_law_1197 else if pc = 1220 then b_L_law_1220 else if pc = 1221 then b_L_law_1221 else if pc = 1252 then b_L_law_1252 else if pc = 1253 then b_L_law_1253 else if pc = 1266 then b_L_law_1266 else if pc = 1279 then b_L_law_1279 else if pc = 1297 then b_L_law_1297 else if pc = 1298 then b_L_law_1298 else if pc = 1319 then b_L_law_1319 else if pc = 1320 then b_L_law_1320 else if pc = 1328 then b_L_law_1328 else if pc = 1351 then b_L_law_1351 else if pc = 1384 then b_L_law_1384 else if pc = 1407 then b_L_law_1407 else if pc = 1430 then b_L_law_1430 else if pc = 1453 then b_L_law_1453 else if pc = 1496 then b_L_law_1496 else if pc = 1549 then b_L_law_1549 else if pc = 1582 then b_L_law_1582 else if pc = 1615 then b_L_law_1615 else if pc = 1648 then b_L_law_1648 else if pc = 1661 then b_L_law_1661 else if pc = 1684 then b_L_law_1684 else if pc = 1690 then b_L_law_1690 else if pc = 100000 then [(0, 224, 0, 0, 0)] else if pc = 100001 then [(0, 287, 0, 0, 0)] else if pc = 100002 then [(0, 310, 0, 0, 0)] else if pc = 100003 then [(0, 333, 0, 0, 0)] else if pc = 100004 then [(0, 376, 0, 0, 0)] else if pc = 100005 then [(0, 409, 0, 0, 0)] else if pc = 100006 then [(0, 452, 0, 0, 0)] else if pc = 100007 then [(0, 485, 0, 0, 0)] else if pc = 100008 then [(0, 548, 0, 0, 0)] else if pc = 100009 then [(0, 571, 0, 0, 0)] else if pc = 100010 then [(0, 604, 0, 0, 0)] else if pc = 100011 then [(0, 637, 0, 0, 0)] else if pc = 100012 then [(0, 670, 0, 0, 0)] else if pc = 100013 then [(0, 733, 0, 0, 0)] else if pc = 100014 then [(0, 766, 0, 0, 0)] else if pc = 100015 then [(0, 779, 0, 0, 0)] else if pc = 100016 then [(0, 838, 0, 0, 0)] else if pc = 100017 then [(0, 861, 0, 0, 0)] else if pc = 100018 then [(0, 894, 0, 0, 0)] else if pc = 100019 then [(0, 917, 0, 0, 0)] else if pc = 100020 then [(0, 950, 0, 0, 0)] else if pc = 100021 then [(0, 973, 0, 0, 0)] else if pc = 100022 then [(0, 1006, 0, 0, 0)] else if pc = 100023 then [(0, 1019, 0, 0, 0)] else if pc = 100024 then [(0, 1042, 0, 0, 0)] else if pc = 100025 then [(0, 1065, 0, 0, 0)] else if pc = 100026 then [(0, 1088, 0, 0, 0)] else if pc = 100027 then [(0, 1131, 0, 0, 0)] else if pc = 100028 then [(0, 1174, 0, 0, 0)] else if pc = 100029 then [(0, 1197, 0, 0, 0)] else if pc = 100030 then [(0, 1266, 0, 0, 0)] else if pc = 100031 then [(0, 1279, 0, 0, 0)] else if pc = 100032 then [(0, 1328, 0, 0, 0)] else if pc = 100033 then [(0, 1351, 0, 0, 0)] else if pc = 100034 then [(0, 1384, 0, 0, 0)] else if pc = 100035 then [(0, 1407, 0, 0, 0)] else if pc = 100036 then [(0, 1430, 0, 0, 0)] else if pc = 100037 then [(0, 1453, 0, 0, 0)] else if pc = 100038 then [(0, 1496, 0, 0, 0)] else if pc = 100039 then [(0, 1549, 0, 0, 0)] else if pc = 100040 then [(0, 1582, 0, 0, 0)] else if pc = 100041 then [(0, 1615, 0, 0, 0)] else if pc = 100042 then [(0, 1648, 0, 0, 0)] else if pc = 100043 then [(0, 1661, 0, 0, 0)] else []
def mtL : List (Nat × (Nat → List LI)) := [(1, cd_X0_init), (3, cd_X0_lay), (2, cd_X0_areThere), (4, cd_X0_knownWith), (7, cd_X0_isOnRing), (2, cd_X0_groupOf), (5, cd_X0_fewestTaps), (1, cd_X1_init), (4, cd_X1_setRoom), (4, cd_X1_choose), (7, cd_X1_chooseFrom), (3, cd_X1_hasRoomFor), (4, cd_X1_changeRoom), (4, cd_X1_consider), (7, cd_X1_tellCount), (3, cd_X1_fewestLiars), (3, cd_X1_explain), (1, cd_X2_init), (3, cd_X2_relationOf), (4, cd_X2_takeNode), (1, cd_X2_pushEmpty), (2, cd_X2_joinTop), (6, cd_X2_fillAtom), (3, cd_X2_mark), (3, cd_X2_unite), (5, cd_X2_follow), (10, cd_X2_addRows), (3, cd_X2_close), (7, cd_X2_sumUpOthers), (5, cd_X2_goOnBy), (3, cd_X2_isEmptyRow), (2, cd_X3_init), (3, cd_X3_tableAt), (4, cd_X3_countRows), (3, cd_X3_unlikeBoxes), (3, cd_X3_takeNewTables), (2, cd_X3_lineBit), (6, cd_X3_setFallen), (2, cd_X3_isEntry), (5, cd_X3_step), (1, cd_X3_goesOn), (1, cd_X3_endBy), (2, cd_X3_versionOf), (6, cd_X3_follow), (5, cd_X3_keepRow), (2, cd_X3_endsBy), (4, cd_X3_fillEnds), (7, cd_X3_settle), (5, cd_X3_firstUnlike), (1, cd_X4_init), (5, cd_X4_read), (2, cd_X4_readAhead), (1, cd_X4_openBracket), (2, cd_X4_readConstant), (2, cd_X4_readUnless), (3, cd_X4_readTestOrChange), (4, cd_X4_readValue), (2, cd_X4_readBehind), (4, cd_X4_joinWaiting), (2, cd_X4_joinOperands), (1, cd_X4_starOperand), (4, cd_X4_pushOperand), (2, cd_X4_pushSign), (2, cd_X4_countAtom), (3, cd_X4_fail), (2, cd_X4_skipBlanks), (1, cd_X4_signHere), (1, cd_X4_isDigit), (1, cd_X4_isLetter), (3, cd_X4_digitsHere), (3, cd_X4_wordHere), (3, cd_X4_fieldHere), (2, cd_X5_init), (2, cd_X5_findOrder), (6, cd_X5_leadsOn), (4, cd_X5_isSafe), (3, cd_X5_isNeither), (2, cd_X5_versionIn), (6, cd_X5_watch), (6, cd_X5_countNeither), (3, cd_X5_findGap), (6, cd_X5_settleAll), (4, cd_X5_isQuiet), (5, cd_X5_writtenBy), (5, cd_X5_goBackTo), (4, cd_X5_isQuietAhead), (2, cd_X6_init), (6, cd_X6_strike), (6, cd_X6_considerPairs), (4, cd_X6_consider), (3, cd_X6_isAmong), (6, cd_X6_linesInUse), (3, cd_X6_keepTrails), (7, cd_X6_trailOf), (7, cd_X6_countHit), (1, cd_X7_init), (5, cd_X7_add), (1, cd_X7_clear), (2, cd_X7_takeFrom), (3, cd_X7_isAlike), (2, cd_X7_toldOf), (4, cd_X7_isMatch), (6, cd_X7_deedOf), (9, cd_X7_fewestRows), (4, cd_X7_packetsOf), (7, cd_X7_alikeBy), (9, cd_X7_dealAlike), (6, cd_X7_remake), (10, cd_X7_coverAll), (3, cd_X7_howManyTold), (9, cd_X7_rightRow), (6, cd_X7_isOneFor), (4, cd_X7_staysFor), (1, cd_X8_init), (2, cd_X8_putAll), (2, cd_X8_putShorter), (9, cd_X8_put), (5, cd_X8_putBare), (4, cd_X8_putAtom), (2, cd_X8_putByte), (1, cd_X8_bindingOf), (6, cd_X8_shorten), (3, cd_X8_shortStar), (3, cd_X8_shortEither), (7, cd_X8_shortThen), (1, cd_X8_isPlain), (4, cd_X8_shortField), (3, cd_X9_init), (4, cd_X9_add), (5, cd_X9_findOrAdd), (3, cd_X9_copied), (4, cd_X10_init), (4, cd_X10_howMany), (8, cd_X10_pick), (6, cd_X10_kthBit), (3, cd_X10_holds), (2, cd_X10_makesNone), (3, cd_X10_makesJust), (6, cd_X10_partsBy), (4, cd_X10_isInside), (1, cd_X11_init), (6, cd_X11_feed), (3, cd_X11_takeBytes), (2, cd_X11_end), (4, cd_X11_wish), (5, cd_X11_makes), (8, cd_X11_of), (8, cd_X11_parts), (6, cd_X11_within), (6, cd_X11_right), (4, cd_X11_breaks), (4, cd_X11_mayTouch), (6, cd_X11_quarrel), (4, cd_X11_rank), (4, cd_X11_joined), (4, cd_X11_firstByRank), (7, cd_X11_row), (5, cd_X11_erase), (2, cd_X11_renew), (4, cd_X11_line), (3, cd_X11_entries), (3, cd_X11_ends), (2, cd_X11_way), (4, cd_X11_shown), (5, cd_X11_guessed), (4, cd_X11_packed), (1, cd_X11_writes), (2, cd_X11_written), (2, cd_X11_worst), (2, cd_X11_falls), (6, cd_X11_needs), (6, cd_X11_worth), (2, cd_X11_kept), (5, cd_X11_counts), (1, cd_X11_liars), (4, cd_X11_tell), (2, cd_X11_octet), (3, cd_X11_cable), (3, cd_X11_edges), (2, cd_X11_known), (2, cd_X11_taps), (6, cd_X11_make), (6, cd_X11_rows), (4, cd_X11_write), (3, cd_X11_seen), (3, cd_X11_neither), (1, cd_X11_gap), (2, cd_X11_count), (2, cd_X11_wishAt), (2, cd_X11_upTo), (1, cd_X11_isPacket), (1, cd_X11_isBox), (1, cd_X11_isTick), (2, cd_X11_isLine), (2, cd_X11_hasBit), (2, cd_X11_lowestBit), (2, cd_X11_valueOf), (3, cd_X11_changed), (2, cd_X12_init), (6, cd_X12_in), (1, cd_X12_isPacket), (1, cd_X12_isPlace), (2, cd_X12_fieldOf), (3, cd_X12_with), (6, cd_X12_feed), (3, cd_X12_put), (2, cd_X12_end), (3, cd_X12_fails), (1, cd_X12_sign), (1, cd_X12_blanks), (1, cd_X12_isDigit), (1, cd_X12_isLetter), (5, cd_X12_node), (2, cd_X12_join), (1, cd_X12_top), (2, cd_X12_counts), (4, cd_X12_field), (4, cd_X12_number), (7, cd_X12_atom), (3, cd_X12_wanted), (2, cd_X12_makes), (2, cd_X12_behind), (3, cd_X12_wish), (6, cd_X12_works), (9, cd_X12_leaf), (11, cd_X12_follows), (7, cd_X12_closes), (2, cd_X12_isWish), (4, cd_X12_makesOf), (6, cd_X12_kth), (7, cd_X12_many), (4, cd_X12_makes_), (6, cd_X12_of), (5, cd_X12_unlike), (7, cd_X12_parts), (5, cd_X12_within), (1, cd_X12_isHouse), (6, cd_X12_right), (5, cd_X12_breaks), (4, cd_X12_quarrel), (4, cd_X12_rank), (6, cd_X12_joined), (2, cd_X12_isTable), (8, cd_X12_row), (4, cd_X12_erase), (6, cd_X12_isUnlike), (3, cd_X12_unlikeMany), (5, cd_X12_renew), (4, cd_X12_line), (3, cd_X12_entries), (2, cd_X12_isField), (2, cd_X12_matches), (3, cd_X12_set), (4, cd_X12_rowFor), (5, cd_X12_step), (6, cd_X12_endsAs), (5, cd_X12_ends), (2, cd_X12_way), (2, cd_X12_enters), (5, cd_X12_isShown), (4, cd_X12_shownBut), (3, cd_X12_shown), (4, cd_X12_guessed), (3, cd_X12_deal), (9, cd_X12_packed), (3, cd_X12_bits), (8, cd_X12_dealsAlike), (2, cd_X12_ends_), (3, cd_X12_isNeither), (5, cd_X12_writes), (2, cd_X12_written), (10, cd_X12_worst), (2, cd_X12_placeBehind), (2, cd_X12_falls), (5, cd_X12_needs), (5, cd_X12_worth), (6, cd_X12_hasRoom), (7, cd_X12_kept), (7, cd_X12_counts_), (5, cd_X12_liars), (5, cd_X12_alike), (3, cd_X12_isOfField), (4, cd_X12_plus), (6, cd_X12_then), (3, cd_X12_star), (6, cd_X12_root), (2, cd_X12_later), (3, cd_X12_laterNode), (2, cd_X12_put1), (5, cd_X12_tells), (5, cd_X12_tell), (2, cd_X12_octet), (3, cd_X12_cable), (3, cd_X12_edges), (7, cd_X12_reached), (4, cd_X12_isKnown), (2, cd_X12_isCables), (4, cd_X12_known), (6, cd_X12_taps), (15, cd_X12_rightFor), (1, cd_X12_anys), (4, cd_X12_coverOf), (12, cd_X12_make), (6, cd_X12_rows), (4, cd_X12_write), (2, cd_X12_asTold), (8, cd_X12_seenAs), (3, cd_X12_seen), (3, cd_X12_endsByTicks), (5, cd_X12_neither), (5, cd_X12_gap), (4, cd_X12_count), (1, cd_J6_bitCount_0f7a4), (2, cd_J13_bitCount_95d88), (5, cd_J7_fill_d0a16), (4, cd_J7_fill_53178), (4, cd_L_law)]
def mt (i : Nat) : Nat × (Nat → List LI) := mtL.getD i (0, fun _ => [])
end
section
-- ===== PART A: goes FIRST, ahead of the names: the tables' words, and 'selects' of the private methods out of them =====
/-- a private method of a class that the tables say can be made, by its rows of tables_1 -/
def lw_okq (q : MethodName × Nat) : Prop := (q.1.cls ≠ "java/lang/invoke/MethodHandle" ∧ q.1.cls ≠ "java/lang/invoke/VarHandle") ∧ Cond.instantiable q.1.cls q.2 ∈ tables_1 ∧ Cond.privateMethod q.1 ∈ tables_1 ∧ Cond.instanceMethod q.1 ∈ tables_1
theorem lw_p0 : lw_okq (⟨"WishWays", "takeBytes", "(I)V"⟩, 14) := ⟨⟨by decide +kernel, by decide +kernel⟩, List.mem_of_getElem? (i := 20) (by decide +kernel), List.mem_of_getElem? (i := 393) (by decide +kernel), List.mem_of_getElem? (i := 394) (by decide +kernel)⟩
theorem lw_p1 : lw_okq (⟨"WishWays", "wishAt", "(I)LWishWays$Wish;"⟩, 14) := ⟨⟨by decide +kernel, by decide +kernel⟩, List.mem_of_getElem? (i := 20) (by decide +kernel), List.mem_of_getElem? (i := 614) (by decide +kernel), List.mem_of_getElem? (i := 615) (by decide +kernel)⟩
theorem lw_p2 : lw_okq (⟨"WishWays", "mayTouch", "(II)Z"⟩, 14) := ⟨⟨by decide +kernel, by decide +kernel⟩, List.mem_of_getElem? (i := 20) (by decide +kernel), List.mem_of_getElem? (i := 678) (by decide +kernel), List.mem_of_getElem? (i := 679) (by decide +kernel)⟩
theorem lw_p3 : lw_okq (⟨"WishWays", "firstByRank", "(I)I"⟩, 14) := ⟨⟨by decide +kernel, by decide +kernel⟩, List.mem_of_getElem? (i := 20) (by decide +kernel), List.mem_of_getElem? (i := 698) (by decide +kernel), List.mem_of_getElem? (i := 699) (by decide +kernel)⟩
theorem lw_p4 : lw_okq (⟨"WishWays$Rollout", "leadsOn", "(III)Z"⟩, 11) := ⟨⟨by decide +kernel, by decide +kernel⟩, List.mem_of_getElem? (i := 220) (by decide +kernel), List.mem_of_getElem? (i := 879) (by decide +kernel), List.mem_of_getElem? (i := 880) (by decide +kernel)⟩
theorem lw_p5 : lw_okq (⟨"WishWays$Ledger", "chooseFrom", "([LWishWays$Wish;IIII)V"⟩, 7) := ⟨⟨by decide +kernel, by decide +kernel⟩, List.mem_of_getElem? (i := 294) (by decide +kernel), List.mem_of_getElem? (i := 972) (by decide +kernel), List.mem_of_getElem? (i := 973) (by decide +kernel)⟩
theorem lw_p6 : lw_okq (⟨"WishWays$Teller", "put", "(LWishWays$Tree;III)V"⟩, 4) := ⟨⟨by decide +kernel, by decide +kernel⟩, List.mem_of_getElem? (i := 125) (by decide +kernel), List.mem_of_getElem? (i := 1046) (by decide +kernel), List.mem_of_getElem? (i := 1047) (by decide +kernel)⟩
theorem lw_p7 : lw_okq (⟨"WishWays$Teller", "putBare", "(LWishWays$Tree;II)V"⟩, 4) := ⟨⟨by decide +kernel, by decide +kernel⟩, List.mem_of_getElem? (i := 125) (by decide +kernel), List.mem_of_getElem? (i := 1057) (by decide +kernel), List.mem_of_getElem? (i := 1058) (by decide +kernel)⟩
theorem lw_p8 : lw_okq (⟨"WishWaysModel", "put", "(I)V"⟩, 79) := ⟨⟨by decide +kernel, by decide +kernel⟩, List.mem_of_getElem? (i := 1218) (by decide +kernel), List.mem_of_getElem? (i := 1469) (by decide +kernel), List.mem_of_getElem? (i := 1470) (by decide +kernel)⟩
theorem lw_p9 : lw_okq (⟨"WishWaysModel", "wanted", "()Z"⟩, 79) := ⟨⟨by decide +kernel, by decide +kernel⟩, List.mem_of_getElem? (i := 1218) (by decide +kernel), List.mem_of_getElem? (i := 1485) (by decide +kernel), List.mem_of_getElem? (i := 1486) (by decide +kernel)⟩
theorem lw_p10 : lw_okq (⟨"WishWaysModel", "blanks", "()V"⟩, 79) := ⟨⟨by decide +kernel, by decide +kernel⟩, List.mem_of_getElem? (i := 1218) (by decide +kernel), List.mem_of_getElem? (i := 1489) (by decide +kernel), List.mem_of_getElem? (i := 1490) (by decide +kernel)⟩
theorem lw_p11 : lw_okq (⟨"WishWaysModel", "sign", "()I"⟩, 79) := ⟨⟨by decide +kernel, by decide +kernel⟩, List.mem_of_getElem? (i := 1218) (by decide +kernel), List.mem_of_getElem? (i := 1493) (by decide +kernel), List.mem_of_getElem? (i := 1494) (by decide +kernel)⟩
theorem lw_p12 : lw_okq (⟨"WishWaysModel", "fails", "(II)V"⟩, 79) := ⟨⟨by decide +kernel, by decide +kernel⟩, List.mem_of_getElem? (i := 1218) (by decide +kernel), List.mem_of_getElem? (i := 1497) (by decide +kernel), List.mem_of_getElem? (i := 1498) (by decide +kernel)⟩
theorem lw_p13 : lw_okq (⟨"WishWaysModel", "isDigit", "()Z"⟩, 79) := ⟨⟨by decide +kernel, by decide +kernel⟩, List.mem_of_getElem? (i := 1218) (by decide +kernel), List.mem_of_getElem? (i := 1501) (by decide +kernel), List.mem_of_getElem? (i := 1502) (by decide +kernel)⟩
theorem lw_p14 : lw_okq (⟨"WishWaysModel", "counts", "(I)V"⟩, 79) := ⟨⟨by decide +kernel, by decide +kernel⟩, List.mem_of_getElem? (i := 1218) (by decide +kernel), List.mem_of_getElem? (i := 1507) (by decide +kernel), List.mem_of_getElem? (i := 1508) (by decide +kernel)⟩
theorem lw_p15 : lw_okq (⟨"WishWaysModel", "node", "(III)V"⟩, 79) := ⟨⟨by decide +kernel, by decide +kernel⟩, List.mem_of_getElem? (i := 1218) (by decide +kernel), List.mem_of_getElem? (i := 1511) (by decide +kernel), List.mem_of_getElem? (i := 1512) (by decide +kernel)⟩
def lw_privs_1 : List (MethodName × Nat) := [(⟨"WishWays", "takeBytes", "(I)V"⟩, 14), (⟨"WishWays", "wishAt", "(I)LWishWays$Wish;"⟩, 14), (⟨"WishWays", "mayTouch", "(II)Z"⟩, 14), (⟨"WishWays", "firstByRank", "(I)I"⟩, 14), (⟨"WishWays$Rollout", "leadsOn", "(III)Z"⟩, 11), (⟨"WishWays$Ledger", "chooseFrom", "([LWishWays$Wish;IIII)V"⟩, 7), (⟨"WishWays$Teller", "put", "(LWishWays$Tree;III)V"⟩, 4), (⟨"WishWays$Teller", "putBare", "(LWishWays$Tree;II)V"⟩, 4), (⟨"WishWaysModel", "put", "(I)V"⟩, 79), (⟨"WishWaysModel", "wanted", "()Z"⟩, 79), (⟨"WishWaysModel", "blanks", "()V"⟩, 79), (⟨"WishWaysModel", "sign", "()I"⟩, 79), (⟨"WishWaysModel", "fails", "(II)V"⟩, 79), (⟨"WishWaysModel", "isDigit", "()Z"⟩, 79), (⟨"WishWaysModel", "counts", "(I)V"⟩, 79), (⟨"WishWaysModel", "node", "(III)V"⟩, 79)]
theorem lw_r1 : ∀ q ∈ lw_privs_1, lw_okq q := List.forall_mem_cons.mpr ⟨lw_p0, List.forall_mem_cons.mpr ⟨lw_p1, List.forall_mem_cons.mpr ⟨lw_p2, List.forall_mem_cons.mpr ⟨lw_p3, List.forall_mem_cons.mpr ⟨lw_p4, List.forall_mem_cons.mpr ⟨lw_p5, List.forall_mem_cons.mpr ⟨lw_p6, List.forall_mem_cons.mpr ⟨lw_p7, List.forall_mem_cons.mpr ⟨lw_p8, List.forall_mem_cons.mpr ⟨lw_p9, List.forall_mem_cons.mpr ⟨lw_p10, List.forall_mem_cons.mpr ⟨lw_p11, List.forall_mem_cons.mpr ⟨lw_p12, List.forall_mem_cons.mpr ⟨lw_p13, List.forall_mem_cons.mpr ⟨lw_p14, List.forall_mem_cons.mpr ⟨lw_p15, fun _ h => absurd h List.not_mem_nil⟩⟩⟩⟩⟩⟩⟩⟩⟩⟩⟩⟩⟩⟩⟩⟩
theorem lw_p16 : lw_okq (⟨"WishWaysModel", "isLetter", "()Z"⟩, 79) := ⟨⟨by decide +kernel, by decide +kernel⟩, List.mem_of_getElem? (i := 1218) (by decide +kernel), List.mem_of_getElem? (i := 1515) (by decide +kernel), List.mem_of_getElem? (i := 1516) (by decide +kernel)⟩
theorem lw_p17 : lw_okq (⟨"WishWaysModel", "atom", "(I)V"⟩, 79) := ⟨⟨by decide +kernel, by decide +kernel⟩, List.mem_of_getElem? (i := 1218) (by decide +kernel), List.mem_of_getElem? (i := 1521) (by decide +kernel), List.mem_of_getElem? (i := 1522) (by decide +kernel)⟩
theorem lw_p18 : lw_okq (⟨"WishWaysModel", "field", "()I"⟩, 79) := ⟨⟨by decide +kernel, by decide +kernel⟩, List.mem_of_getElem? (i := 1218) (by decide +kernel), List.mem_of_getElem? (i := 1525) (by decide +kernel), List.mem_of_getElem? (i := 1526) (by decide +kernel)⟩
theorem lw_p19 : lw_okq (⟨"WishWaysModel", "number", "(I)I"⟩, 79) := ⟨⟨by decide +kernel, by decide +kernel⟩, List.mem_of_getElem? (i := 1218) (by decide +kernel), List.mem_of_getElem? (i := 1529) (by decide +kernel), List.mem_of_getElem? (i := 1530) (by decide +kernel)⟩
theorem lw_p20 : lw_okq (⟨"WishWaysModel", "behind", "()Z"⟩, 79) := ⟨⟨by decide +kernel, by decide +kernel⟩, List.mem_of_getElem? (i := 1218) (by decide +kernel), List.mem_of_getElem? (i := 1533) (by decide +kernel), List.mem_of_getElem? (i := 1534) (by decide +kernel)⟩
theorem lw_p21 : lw_okq (⟨"WishWaysModel", "makes", "(I)V"⟩, 79) := ⟨⟨by decide +kernel, by decide +kernel⟩, List.mem_of_getElem? (i := 1218) (by decide +kernel), List.mem_of_getElem? (i := 1537) (by decide +kernel), List.mem_of_getElem? (i := 1538) (by decide +kernel)⟩
theorem lw_p22 : lw_okq (⟨"WishWaysModel", "top", "()I"⟩, 79) := ⟨⟨by decide +kernel, by decide +kernel⟩, List.mem_of_getElem? (i := 1218) (by decide +kernel), List.mem_of_getElem? (i := 1541) (by decide +kernel), List.mem_of_getElem? (i := 1542) (by decide +kernel)⟩
theorem lw_p23 : lw_okq (⟨"WishWaysModel", "join", "(I)V"⟩, 79) := ⟨⟨by decide +kernel, by decide +kernel⟩, List.mem_of_getElem? (i := 1218) (by decide +kernel), List.mem_of_getElem? (i := 1545) (by decide +kernel), List.mem_of_getElem? (i := 1546) (by decide +kernel)⟩
theorem lw_p24 : lw_okq (⟨"WishWaysModel", "works", "(I)V"⟩, 79) := ⟨⟨by decide +kernel, by decide +kernel⟩, List.mem_of_getElem? (i := 1218) (by decide +kernel), List.mem_of_getElem? (i := 1549) (by decide +kernel), List.mem_of_getElem? (i := 1550) (by decide +kernel)⟩
theorem lw_p25 : lw_okq (⟨"WishWaysModel", "closes", "(I)V"⟩, 79) := ⟨⟨by decide +kernel, by decide +kernel⟩, List.mem_of_getElem? (i := 1218) (by decide +kernel), List.mem_of_getElem? (i := 1553) (by decide +kernel), List.mem_of_getElem? (i := 1554) (by decide +kernel)⟩
theorem lw_p26 : lw_okq (⟨"WishWaysModel", "follows", "(II)V"⟩, 79) := ⟨⟨by decide +kernel, by decide +kernel⟩, List.mem_of_getElem? (i := 1218) (by decide +kernel), List.mem_of_getElem? (i := 1557) (by decide +kernel), List.mem_of_getElem? (i := 1558) (by decide +kernel)⟩
theorem lw_p27 : lw_okq (⟨"WishWaysModel", "leaf", "(IIII)V"⟩, 79) := ⟨⟨by decide +kernel, by decide +kernel⟩, List.mem_of_getElem? (i := 1218) (by decide +kernel), List.mem_of_getElem? (i := 1561) (by decide +kernel), List.mem_of_getElem? (i := 1562) (by decide +kernel)⟩
theorem lw_p28 : lw_okq (⟨"WishWaysModel", "isWish", "(I)Z"⟩, 79) := ⟨⟨by decide +kernel, by decide +kernel⟩, List.mem_of_getElem? (i := 1218) (by decide +kernel), List.mem_of_getElem? (i := 1575) (by decide +kernel), List.mem_of_getElem? (i := 1576) (by decide +kernel)⟩
theorem lw_p29 : lw_okq (⟨"WishWaysModel", "many", "(II)I"⟩, 79) := ⟨⟨by decide +kernel, by decide +kernel⟩, List.mem_of_getElem? (i := 1218) (by decide +kernel), List.mem_of_getElem? (i := 1583) (by decide +kernel), List.mem_of_getElem? (i := 1584) (by decide +kernel)⟩
theorem lw_p30 : lw_okq (⟨"WishWaysModel", "kth", "(III)I"⟩, 79) := ⟨⟨by decide +kernel, by decide +kernel⟩, List.mem_of_getElem? (i := 1218) (by decide +kernel), List.mem_of_getElem? (i := 1587) (by decide +kernel), List.mem_of_getElem? (i := 1588) (by decide +kernel)⟩
theorem lw_p31 : lw_okq (⟨"WishWaysModel", "makesOf", "(III)Z"⟩, 79) := ⟨⟨by decide +kernel, by decide +kernel⟩, List.mem_of_getElem? (i := 1218) (by decide +kernel), List.mem_of_getElem? (i := 1591) (by decide +kernel), List.mem_of_getElem? (i := 1592) (by decide +kernel)⟩
def lw_privs_2 : List (MethodName × Nat) := [(⟨"WishWaysModel", "isLetter", "()Z"⟩, 79), (⟨"WishWaysModel", "atom", "(I)V"⟩, 79), (⟨"WishWaysModel", "field", "()I"⟩, 79), (⟨"WishWaysModel", "number", "(I)I"⟩, 79), (⟨"WishWaysModel", "behind", "()Z"⟩, 79), (⟨"WishWaysModel", "makes", "(I)V"⟩, 79), (⟨"WishWaysModel", "top", "()I"⟩, 79), (⟨"WishWaysModel", "join", "(I)V"⟩, 79), (⟨"WishWaysModel", "works", "(I)V"⟩, 79), (⟨"WishWaysModel", "closes", "(I)V"⟩, 79), (⟨"WishWaysModel", "follows", "(II)V"⟩, 79), (⟨"WishWaysModel", "leaf", "(IIII)V"⟩, 79), (⟨"WishWaysModel", "isWish", "(I)Z"⟩, 79), (⟨"WishWaysModel", "many", "(II)I"⟩, 79), (⟨"WishWaysModel", "kth", "(III)I"⟩, 79), (⟨"WishWaysModel", "makesOf", "(III)Z"⟩, 79)]
theorem lw_r2 : ∀ q ∈ lw_privs_2, lw_okq q := List.forall_mem_cons.mpr ⟨lw_p16, List.forall_mem_cons.mpr ⟨lw_p17, List.forall_mem_cons.mpr ⟨lw_p18, List.forall_mem_cons.mpr ⟨lw_p19, List.forall_mem_cons.mpr ⟨lw_p20, List.forall_mem_cons.mpr ⟨lw_p21, List.forall_mem_cons.mpr ⟨lw_p22, List.forall_mem_cons.mpr ⟨lw_p23, List.forall_mem_cons.mpr ⟨lw_p24, List.forall_mem_cons.mpr ⟨lw_p25, List.forall_mem_cons.mpr ⟨lw_p26, List.forall_mem_cons.mpr ⟨lw_p27, List.forall_mem_cons.mpr ⟨lw_p28, List.forall_mem_cons.mpr ⟨lw_p29, List.forall_mem_cons.mpr ⟨lw_p30, List.forall_mem_cons.mpr ⟨lw_p31, fun _ h => absurd h List.not_mem_nil⟩⟩⟩⟩⟩⟩⟩⟩⟩⟩⟩⟩⟩⟩⟩⟩
theorem lw_p32 : lw_okq (⟨"WishWaysModel", "unlike", "(III)I"⟩, 79) := ⟨⟨by decide +kernel, by decide +kernel⟩, List.mem_of_getElem? (i := 1218) (by decide +kernel), List.mem_of_getElem? (i := 1604) (by decide +kernel), List.mem_of_getElem? (i := 1605) (by decide +kernel)⟩
theorem lw_p33 : lw_okq (⟨"WishWaysModel", "unlikeMany", "()I"⟩, 79) := ⟨⟨by decide +kernel, by decide +kernel⟩, List.mem_of_getElem? (i := 1218) (by decide +kernel), List.mem_of_getElem? (i := 1659) (by decide +kernel), List.mem_of_getElem? (i := 1660) (by decide +kernel)⟩
theorem lw_p34 : lw_okq (⟨"WishWaysModel", "isUnlike", "(I)Z"⟩, 79) := ⟨⟨by decide +kernel, by decide +kernel⟩, List.mem_of_getElem? (i := 1218) (by decide +kernel), List.mem_of_getElem? (i := 1663) (by decide +kernel), List.mem_of_getElem? (i := 1664) (by decide +kernel)⟩
theorem lw_p35 : lw_okq (⟨"WishWaysModel", "endsAs", "(II)I"⟩, 79) := ⟨⟨by decide +kernel, by decide +kernel⟩, List.mem_of_getElem? (i := 1218) (by decide +kernel), List.mem_of_getElem? (i := 1679) (by decide +kernel), List.mem_of_getElem? (i := 1680) (by decide +kernel)⟩
theorem lw_p36 : lw_okq (⟨"WishWaysModel", "step", "(II)I"⟩, 79) := ⟨⟨by decide +kernel, by decide +kernel⟩, List.mem_of_getElem? (i := 1218) (by decide +kernel), List.mem_of_getElem? (i := 1683) (by decide +kernel), List.mem_of_getElem? (i := 1684) (by decide +kernel)⟩
theorem lw_p37 : lw_okq (⟨"WishWaysModel", "rowFor", "(II)I"⟩, 79) := ⟨⟨by decide +kernel, by decide +kernel⟩, List.mem_of_getElem? (i := 1218) (by decide +kernel), List.mem_of_getElem? (i := 1687) (by decide +kernel), List.mem_of_getElem? (i := 1688) (by decide +kernel)⟩
theorem lw_p38 : lw_okq (⟨"WishWaysModel", "shownBut", "(II)I"⟩, 79) := ⟨⟨by decide +kernel, by decide +kernel⟩, List.mem_of_getElem? (i := 1218) (by decide +kernel), List.mem_of_getElem? (i := 1708) (by decide +kernel), List.mem_of_getElem? (i := 1709) (by decide +kernel)⟩
theorem lw_p39 : lw_okq (⟨"WishWaysModel", "enters", "(I)Z"⟩, 79) := ⟨⟨by decide +kernel, by decide +kernel⟩, List.mem_of_getElem? (i := 1218) (by decide +kernel), List.mem_of_getElem? (i := 1712) (by decide +kernel), List.mem_of_getElem? (i := 1713) (by decide +kernel)⟩
theorem lw_p40 : lw_okq (⟨"WishWaysModel", "isShown", "(III)Z"⟩, 79) := ⟨⟨by decide +kernel, by decide +kernel⟩, List.mem_of_getElem? (i := 1218) (by decide +kernel), List.mem_of_getElem? (i := 1716) (by decide +kernel), List.mem_of_getElem? (i := 1717) (by decide +kernel)⟩
theorem lw_p41 : lw_okq (⟨"WishWaysModel", "deal", "(II)I"⟩, 79) := ⟨⟨by decide +kernel, by decide +kernel⟩, List.mem_of_getElem? (i := 1218) (by decide +kernel), List.mem_of_getElem? (i := 1728) (by decide +kernel), List.mem_of_getElem? (i := 1729) (by decide +kernel)⟩
theorem lw_p42 : lw_okq (⟨"WishWaysModel", "dealsAlike", "(III)Z"⟩, 79) := ⟨⟨by decide +kernel, by decide +kernel⟩, List.mem_of_getElem? (i := 1218) (by decide +kernel), List.mem_of_getElem? (i := 1735) (by decide +kernel), List.mem_of_getElem? (i := 1736) (by decide +kernel)⟩
theorem lw_p43 : lw_okq (⟨"WishWaysModel", "ends", "()V"⟩, 79) := ⟨⟨by decide +kernel, by decide +kernel⟩, List.mem_of_getElem? (i := 1218) (by decide +kernel), List.mem_of_getElem? (i := 1743) (by decide +kernel), List.mem_of_getElem? (i := 1744) (by decide +kernel)⟩
theorem lw_p44 : lw_okq (⟨"WishWaysModel", "isNeither", "(II)Z"⟩, 79) := ⟨⟨by decide +kernel, by decide +kernel⟩, List.mem_of_getElem? (i := 1218) (by decide +kernel), List.mem_of_getElem? (i := 1747) (by decide +kernel), List.mem_of_getElem? (i := 1748) (by decide +kernel)⟩
theorem lw_p45 : lw_okq (⟨"WishWaysModel", "placeBehind", "(I)I"⟩, 79) := ⟨⟨by decide +kernel, by decide +kernel⟩, List.mem_of_getElem? (i := 1218) (by decide +kernel), List.mem_of_getElem? (i := 1759) (by decide +kernel), List.mem_of_getElem? (i := 1760) (by decide +kernel)⟩
theorem lw_p46 : lw_okq (⟨"WishWaysModel", "hasRoom", "(I)Z"⟩, 79) := ⟨⟨by decide +kernel, by decide +kernel⟩, List.mem_of_getElem? (i := 1218) (by decide +kernel), List.mem_of_getElem? (i := 1781) (by decide +kernel), List.mem_of_getElem? (i := 1782) (by decide +kernel)⟩
theorem lw_p47 : lw_okq (⟨"WishWaysModel", "root", "(IZ)I"⟩, 79) := ⟨⟨by decide +kernel, by decide +kernel⟩, List.mem_of_getElem? (i := 1218) (by decide +kernel), List.mem_of_getElem? (i := 1798) (by decide +kernel), List.mem_of_getElem? (i := 1799) (by decide +kernel)⟩
def lw_privs_3 : List (MethodName × Nat) := [(⟨"WishWaysModel", "unlike", "(III)I"⟩, 79), (⟨"WishWaysModel", "unlikeMany", "()I"⟩, 79), (⟨"WishWaysModel", "isUnlike", "(I)Z"⟩, 79), (⟨"WishWaysModel", "endsAs", "(II)I"⟩, 79), (⟨"WishWaysModel", "step", "(II)I"⟩, 79), (⟨"WishWaysModel", "rowFor", "(II)I"⟩, 79), (⟨"WishWaysModel", "shownBut", "(II)I"⟩, 79), (⟨"WishWaysModel", "enters", "(I)Z"⟩, 79), (⟨"WishWaysModel", "isShown", "(III)Z"⟩, 79), (⟨"WishWaysModel", "deal", "(II)I"⟩, 79), (⟨"WishWaysModel", "dealsAlike", "(III)Z"⟩, 79), (⟨"WishWaysModel", "ends", "()V"⟩, 79), (⟨"WishWaysModel", "isNeither", "(II)Z"⟩, 79), (⟨"WishWaysModel", "placeBehind", "(I)I"⟩, 79), (⟨"WishWaysModel", "hasRoom", "(I)Z"⟩, 79), (⟨"WishWaysModel", "root", "(IZ)I"⟩, 79)]
theorem lw_r3 : ∀ q ∈ lw_privs_3, lw_okq q := List.forall_mem_cons.mpr ⟨lw_p32, List.forall_mem_cons.mpr ⟨lw_p33, List.forall_mem_cons.mpr ⟨lw_p34, List.forall_mem_cons.mpr ⟨lw_p35, List.forall_mem_cons.mpr ⟨lw_p36, List.forall_mem_cons.mpr ⟨lw_p37, List.forall_mem_cons.mpr ⟨lw_p38, List.forall_mem_cons.mpr ⟨lw_p39, List.forall_mem_cons.mpr ⟨lw_p40, List.forall_mem_cons.mpr ⟨lw_p41, List.forall_mem_cons.mpr ⟨lw_p42, List.forall_mem_cons.mpr ⟨lw_p43, List.forall_mem_cons.mpr ⟨lw_p44, List.forall_mem_cons.mpr ⟨lw_p45, List.forall_mem_cons.mpr ⟨lw_p46, List.forall_mem_cons.mpr ⟨lw_p47, fun _ h => absurd h List.not_mem_nil⟩⟩⟩⟩⟩⟩⟩⟩⟩⟩⟩⟩⟩⟩⟩⟩
theorem lw_p48 : lw_okq (⟨"WishWaysModel", "plus", "(IIZ)I"⟩, 79) := ⟨⟨by decide +kernel, by decide +kernel⟩, List.mem_of_getElem? (i := 1218) (by decide +kernel), List.mem_of_getElem? (i := 1802) (by decide +kernel), List.mem_of_getElem? (i := 1803) (by decide +kernel)⟩
theorem lw_p49 : lw_okq (⟨"WishWaysModel", "alike", "(III)I"⟩, 79) := ⟨⟨by decide +kernel, by decide +kernel⟩, List.mem_of_getElem? (i := 1218) (by decide +kernel), List.mem_of_getElem? (i := 1806) (by decide +kernel), List.mem_of_getElem? (i := 1807) (by decide +kernel)⟩
theorem lw_p50 : lw_okq (⟨"WishWaysModel", "then", "(IIZ)I"⟩, 79) := ⟨⟨by decide +kernel, by decide +kernel⟩, List.mem_of_getElem? (i := 1218) (by decide +kernel), List.mem_of_getElem? (i := 1810) (by decide +kernel), List.mem_of_getElem? (i := 1811) (by decide +kernel)⟩
theorem lw_p51 : lw_okq (⟨"WishWaysModel", "isOfField", "(II)Z"⟩, 79) := ⟨⟨by decide +kernel, by decide +kernel⟩, List.mem_of_getElem? (i := 1218) (by decide +kernel), List.mem_of_getElem? (i := 1814) (by decide +kernel), List.mem_of_getElem? (i := 1815) (by decide +kernel)⟩
theorem lw_p52 : lw_okq (⟨"WishWaysModel", "star", "(IZ)I"⟩, 79) := ⟨⟨by decide +kernel, by decide +kernel⟩, List.mem_of_getElem? (i := 1218) (by decide +kernel), List.mem_of_getElem? (i := 1818) (by decide +kernel), List.mem_of_getElem? (i := 1819) (by decide +kernel)⟩
theorem lw_p53 : lw_okq (⟨"WishWaysModel", "later", "(I)V"⟩, 79) := ⟨⟨by decide +kernel, by decide +kernel⟩, List.mem_of_getElem? (i := 1218) (by decide +kernel), List.mem_of_getElem? (i := 1822) (by decide +kernel), List.mem_of_getElem? (i := 1823) (by decide +kernel)⟩
theorem lw_p54 : lw_okq (⟨"WishWaysModel", "put1", "(I)V"⟩, 79) := ⟨⟨by decide +kernel, by decide +kernel⟩, List.mem_of_getElem? (i := 1218) (by decide +kernel), List.mem_of_getElem? (i := 1826) (by decide +kernel), List.mem_of_getElem? (i := 1827) (by decide +kernel)⟩
theorem lw_p55 : lw_okq (⟨"WishWaysModel", "tells", "(I)V"⟩, 79) := ⟨⟨by decide +kernel, by decide +kernel⟩, List.mem_of_getElem? (i := 1218) (by decide +kernel), List.mem_of_getElem? (i := 1830) (by decide +kernel), List.mem_of_getElem? (i := 1831) (by decide +kernel)⟩
theorem lw_p56 : lw_okq (⟨"WishWaysModel", "laterNode", "(IZ)V"⟩, 79) := ⟨⟨by decide +kernel, by decide +kernel⟩, List.mem_of_getElem? (i := 1218) (by decide +kernel), List.mem_of_getElem? (i := 1834) (by decide +kernel), List.mem_of_getElem? (i := 1835) (by decide +kernel)⟩
theorem lw_p57 : lw_okq (⟨"WishWaysModel", "isCables", "(I)Z"⟩, 79) := ⟨⟨by decide +kernel, by decide +kernel⟩, List.mem_of_getElem? (i := 1218) (by decide +kernel), List.mem_of_getElem? (i := 1854) (by decide +kernel), List.mem_of_getElem? (i := 1855) (by decide +kernel)⟩
theorem lw_p58 : lw_okq (⟨"WishWaysModel", "isKnown", "(II)Z"⟩, 79) := ⟨⟨by decide +kernel, by decide +kernel⟩, List.mem_of_getElem? (i := 1218) (by decide +kernel), List.mem_of_getElem? (i := 1858) (by decide +kernel), List.mem_of_getElem? (i := 1859) (by decide +kernel)⟩
theorem lw_p59 : lw_okq (⟨"WishWaysModel", "reached", "(II)I"⟩, 79) := ⟨⟨by decide +kernel, by decide +kernel⟩, List.mem_of_getElem? (i := 1218) (by decide +kernel), List.mem_of_getElem? (i := 1862) (by decide +kernel), List.mem_of_getElem? (i := 1863) (by decide +kernel)⟩
theorem lw_p60 : lw_okq (⟨"WishWaysModel", "rightFor", "(II)I"⟩, 79) := ⟨⟨by decide +kernel, by decide +kernel⟩, List.mem_of_getElem? (i := 1218) (by decide +kernel), List.mem_of_getElem? (i := 1880) (by decide +kernel), List.mem_of_getElem? (i := 1881) (by decide +kernel)⟩
theorem lw_p61 : lw_okq (⟨"WishWaysModel", "asTold", "()V"⟩, 79) := ⟨⟨by decide +kernel, by decide +kernel⟩, List.mem_of_getElem? (i := 1218) (by decide +kernel), List.mem_of_getElem? (i := 1896) (by decide +kernel), List.mem_of_getElem? (i := 1897) (by decide +kernel)⟩
theorem lw_p62 : lw_okq (⟨"WishWaysModel", "seenAs", "(II)I"⟩, 79) := ⟨⟨by decide +kernel, by decide +kernel⟩, List.mem_of_getElem? (i := 1218) (by decide +kernel), List.mem_of_getElem? (i := 1900) (by decide +kernel), List.mem_of_getElem? (i := 1901) (by decide +kernel)⟩
theorem lw_p63 : lw_okq (⟨"WishWaysModel", "endsByTicks", "()V"⟩, 79) := ⟨⟨by decide +kernel, by decide +kernel⟩, List.mem_of_getElem? (i := 1218) (by decide +kernel), List.mem_of_getElem? (i := 1908) (by decide +kernel), List.mem_of_getElem? (i := 1909) (by decide +kernel)⟩
def lw_privs_4 : List (MethodName × Nat) := [(⟨"WishWaysModel", "plus", "(IIZ)I"⟩, 79), (⟨"WishWaysModel", "alike", "(III)I"⟩, 79), (⟨"WishWaysModel", "then", "(IIZ)I"⟩, 79), (⟨"WishWaysModel", "isOfField", "(II)Z"⟩, 79), (⟨"WishWaysModel", "star", "(IZ)I"⟩, 79), (⟨"WishWaysModel", "later", "(I)V"⟩, 79), (⟨"WishWaysModel", "put1", "(I)V"⟩, 79), (⟨"WishWaysModel", "tells", "(I)V"⟩, 79), (⟨"WishWaysModel", "laterNode", "(IZ)V"⟩, 79), (⟨"WishWaysModel", "isCables", "(I)Z"⟩, 79), (⟨"WishWaysModel", "isKnown", "(II)Z"⟩, 79), (⟨"WishWaysModel", "reached", "(II)I"⟩, 79), (⟨"WishWaysModel", "rightFor", "(II)I"⟩, 79), (⟨"WishWaysModel", "asTold", "()V"⟩, 79), (⟨"WishWaysModel", "seenAs", "(II)I"⟩, 79), (⟨"WishWaysModel", "endsByTicks", "()V"⟩, 79)]
theorem lw_r4 : ∀ q ∈ lw_privs_4, lw_okq q := List.forall_mem_cons.mpr ⟨lw_p48, List.forall_mem_cons.mpr ⟨lw_p49, List.forall_mem_cons.mpr ⟨lw_p50, List.forall_mem_cons.mpr ⟨lw_p51, List.forall_mem_cons.mpr ⟨lw_p52, List.forall_mem_cons.mpr ⟨lw_p53, List.forall_mem_cons.mpr ⟨lw_p54, List.forall_mem_cons.mpr ⟨lw_p55, List.forall_mem_cons.mpr ⟨lw_p56, List.forall_mem_cons.mpr ⟨lw_p57, List.forall_mem_cons.mpr ⟨lw_p58, List.forall_mem_cons.mpr ⟨lw_p59, List.forall_mem_cons.mpr ⟨lw_p60, List.forall_mem_cons.mpr ⟨lw_p61, List.forall_mem_cons.mpr ⟨lw_p62, List.forall_mem_cons.mpr ⟨lw_p63, fun _ h => absurd h List.not_mem_nil⟩⟩⟩⟩⟩⟩⟩⟩⟩⟩⟩⟩⟩⟩⟩⟩
def lw_privs : List (MethodName × Nat) := lw_privs_1 ++ (lw_privs_2 ++ (lw_privs_3 ++ (lw_privs_4)))
def lw_tbl : List Cond := k2_sels lw_privs ++ tables_1
theorem lw_privs_ok : ∀ q ∈ lw_privs, lw_okq q := by
  show ∀ q ∈ lw_privs_1 ++ (lw_privs_2 ++ (lw_privs_3 ++ (lw_privs_4))), lw_okq q
  exact List.forall_mem_append.mpr ⟨lw_r1, List.forall_mem_append.mpr ⟨lw_r2, List.forall_mem_append.mpr ⟨lw_r3, lw_r4⟩⟩⟩
/-! names -/
def RX0 : String := "WishWays$Cabling"
def TX0 : u_T := fun k => match k with
  | 0 => ("WishWays$Cabling", "ends", "[I", true)
  | 1 => ("WishWays$Cabling", "otherEnds", "[I", true)
  | 2 => ("WishWays$Cabling", "size", "I", false)
  | _ => ("WishWays$Cabling", "edgeBoxes", "I", false)
def tyX0 : Nat → FieldType := fun k => match k with
  | 0 => .array .int
  | 1 => .array .int
  | 2 => .int
  | _ => .int
abbrev wsX00 : List Cond := u_ws RX0 TX0 4
theorem nmX0 : ∀ a, a < 4 → ∀ b, b < 4 → a ≠ b → (TX0 a).2.1 ≠ (TX0 b).2.1 := by decide +kernel
theorem tyX0_ok : ∀ k, k < 4 → parseFieldDescriptor (TX0 k).2.2.1 = some (tyX0 k) := by decide +kernel
abbrev cX0_init : ByteArray := prog_2_method_1_code
def yX0_init : MethodName := ⟨RX0, "<init>", "()V"⟩
abbrev cX0_lay : ByteArray := prog_2_method_2_code
def yX0_lay : MethodName := ⟨RX0, "lay", "(II)I"⟩
abbrev cX0_areThere : ByteArray := prog_2_method_3_code
def yX0_areThere : MethodName := ⟨RX0, "areThere", "(I)Z"⟩
abbrev cX0_knownWith : ByteArray := prog_2_method_4_code
def yX0_knownWith : MethodName := ⟨RX0, "knownWith", "(I)I"⟩
abbrev cX0_isOnRing : ByteArray := prog_2_method_5_code
def yX0_isOnRing : MethodName := ⟨RX0, "isOnRing", "(II)Z"⟩
abbrev cX0_groupOf : ByteArray := prog_2_method_6_code
def yX0_groupOf : MethodName := ⟨RX0, "groupOf", "(I)I"⟩
abbrev cX0_fewestTaps : ByteArray := prog_2_method_7_code
def yX0_fewestTaps : MethodName := ⟨RX0, "fewestTaps", "(I)I"⟩
def RX1 : String := "WishWays$Ledger"
def TX1 : u_T := fun k => match k with
  | 0 => ("WishWays$Ledger", "room", "[I", true)
  | 1 => ("WishWays$Ledger", "left", "[I", true)
  | 2 => ("WishWays$Ledger", "restValues", "[I", true)
  | 3 => ("WishWays$Ledger", "chosen", "I", false)
  | 4 => ("WishWays$Ledger", "chosenValue", "I", false)
  | 5 => ("WishWays$Ledger", "sent", "[I", true)
  | _ => ("WishWays$Ledger", "received", "[I", true)
def tyX1 : Nat → FieldType := fun k => match k with
  | 0 => .array .int
  | 1 => .array .int
  | 2 => .array .int
  | 3 => .int
  | 4 => .int
  | 5 => .array .int
  | _ => .array .int
abbrev wsX10 : List Cond := u_ws RX1 TX1 7
theorem nmX1 : ∀ a, a < 7 → ∀ b, b < 7 → a ≠ b → (TX1 a).2.1 ≠ (TX1 b).2.1 := by decide +kernel
theorem tyX1_ok : ∀ k, k < 7 → parseFieldDescriptor (TX1 k).2.2.1 = some (tyX1 k) := by decide +kernel
abbrev cX1_init : ByteArray := prog_3_method_1_code
def yX1_init : MethodName := ⟨RX1, "<init>", "()V"⟩
abbrev cX1_setRoom : ByteArray := prog_3_method_2_code
def yX1_setRoom : MethodName := ⟨RX1, "setRoom", "(II)I"⟩
abbrev cX1_choose : ByteArray := prog_3_method_3_code
def yX1_choose : MethodName := ⟨RX1, "choose", "([LWishWays$Wish;I)V"⟩
abbrev cX1_chooseFrom : ByteArray := prog_3_method_4_code
def yX1_chooseFrom : MethodName := ⟨RX1, "chooseFrom", "([LWishWays$Wish;IIII)V"⟩
abbrev cX1_hasRoomFor : ByteArray := prog_3_method_5_code
def yX1_hasRoomFor : MethodName := ⟨RX1, "hasRoomFor", "(LWishWays$Wish;)Z"⟩
abbrev cX1_changeRoom : ByteArray := prog_3_method_6_code
def yX1_changeRoom : MethodName := ⟨RX1, "changeRoom", "(LWishWays$Wish;I)V"⟩
abbrev cX1_consider : ByteArray := prog_3_method_7_code
def yX1_consider : MethodName := ⟨RX1, "consider", "(II)V"⟩
abbrev cX1_tellCount : ByteArray := prog_3_method_8_code
def yX1_tellCount : MethodName := ⟨RX1, "tellCount", "(IIZI)I"⟩
abbrev cX1_fewestLiars : ByteArray := prog_3_method_9_code
def yX1_fewestLiars : MethodName := ⟨RX1, "fewestLiars", "()I"⟩
abbrev cX1_explain : ByteArray := prog_3_method_10_code
def yX1_explain : MethodName := ⟨RX1, "explain", "(I)Z"⟩
def RX2 : String := "WishWays$Maker"
def TX2 : u_T := fun k => match k with
  | 0 => ("WishWays$Maker", "waiting", "[[J", true)
  | 1 => ("WishWays$Maker", "sum", "[J", true)
  | _ => ("WishWays$Maker", "used", "I", false)
def tyX2 : Nat → FieldType := fun k => match k with
  | 0 => .array (.array .long)
  | 1 => .array .long
  | _ => .int
abbrev wsX20 : List Cond := u_ws RX2 TX2 3
theorem nmX2 : ∀ a, a < 3 → ∀ b, b < 3 → a ≠ b → (TX2 a).2.1 ≠ (TX2 b).2.1 := by decide +kernel
theorem tyX2_ok : ∀ k, k < 3 → parseFieldDescriptor (TX2 k).2.2.1 = some (tyX2 k) := by decide +kernel
abbrev cX2_init : ByteArray := prog_4_method_1_code
def yX2_init : MethodName := ⟨RX2, "<init>", "()V"⟩
abbrev cX2_relationOf : ByteArray := prog_4_method_2_code
def yX2_relationOf : MethodName := ⟨RX2, "relationOf", "(LWishWays$Tree;)[J"⟩
abbrev cX2_takeNode : ByteArray := prog_4_method_3_code
def yX2_takeNode : MethodName := ⟨RX2, "takeNode", "(LWishWays$Tree;I)V"⟩
abbrev cX2_pushEmpty : ByteArray := prog_4_method_4_code
def yX2_pushEmpty : MethodName := ⟨RX2, "pushEmpty", "()Z"⟩
abbrev cX2_joinTop : ByteArray := prog_4_method_5_code
def yX2_joinTop : MethodName := ⟨RX2, "joinTop", "(I)V"⟩
abbrev cX2_fillAtom : ByteArray := prog_4_method_6_code
def yX2_fillAtom : MethodName := ⟨RX2, "fillAtom", "([JIII)V"⟩
abbrev cX2_mark : ByteArray := prog_4_method_7_code
def yX2_mark : MethodName := ⟨RX2, "mark", "([JII)V"⟩
abbrev cX2_unite : ByteArray := prog_4_method_8_code
def yX2_unite : MethodName := ⟨RX2, "unite", "([J[J)V"⟩
abbrev cX2_follow : ByteArray := prog_4_method_9_code
def yX2_follow : MethodName := ⟨RX2, "follow", "([J[J)V"⟩
abbrev cX2_addRows : ByteArray := prog_4_method_10_code
def yX2_addRows : MethodName := ⟨RX2, "addRows", "(JI[J)V"⟩
abbrev cX2_close : ByteArray := prog_4_method_11_code
def yX2_close : MethodName := ⟨RX2, "close", "([J)V"⟩
abbrev cX2_sumUpOthers : ByteArray := prog_4_method_12_code
def yX2_sumUpOthers : MethodName := ⟨RX2, "sumUpOthers", "([J)V"⟩
abbrev cX2_goOnBy : ByteArray := prog_4_method_13_code
def yX2_goOnBy : MethodName := ⟨RX2, "goOnBy", "([JI)V"⟩
abbrev cX2_isEmptyRow : ByteArray := prog_4_method_14_code
def yX2_isEmptyRow : MethodName := ⟨RX2, "isEmptyRow", "([JI)Z"⟩
def RX3 : String := "WishWays$Network"
def TX3 : u_T := fun k => match k with
  | 0 => ("WishWays$Network", "tables", "[LWishWays$Table;", true)
  | 1 => ("WishWays$Network", "fallenLines", "J", false)
  | 2 => ("WishWays$Network", "entryPlaces", "I", false)
  | 3 => ("WishWays$Network", "wayRows", "[I", true)
  | 4 => ("WishWays$Network", "waySize", "I", false)
  | 5 => ("WishWays$Network", "met", "[J", true)
  | _ => ("WishWays$Network", "scratchEnds", "[I", true)
def tyX3 : Nat → FieldType := fun k => match k with
  | 0 => .array (.object "WishWays$Table")
  | 1 => .long
  | 2 => .int
  | 3 => .array .int
  | 4 => .int
  | 5 => .array .long
  | _ => .array .int
abbrev wsX30 : List Cond := u_ws RX3 TX3 7
theorem nmX3 : ∀ a, a < 7 → ∀ b, b < 7 → a ≠ b → (TX3 a).2.1 ≠ (TX3 b).2.1 := by decide +kernel
theorem tyX3_ok : ∀ k, k < 7 → parseFieldDescriptor (TX3 k).2.2.1 = some (tyX3 k) := by decide +kernel
abbrev cX3_init : ByteArray := prog_5_method_1_code
def yX3_init : MethodName := ⟨RX3, "<init>", "()V"⟩
abbrev cX3_tableAt : ByteArray := prog_5_method_2_code
def yX3_tableAt : MethodName := ⟨RX3, "tableAt", "(II)LWishWays$Table;"⟩
abbrev cX3_countRows : ByteArray := prog_5_method_3_code
def yX3_countRows : MethodName := ⟨RX3, "countRows", "(I)I"⟩
abbrev cX3_unlikeBoxes : ByteArray := prog_5_method_4_code
def yX3_unlikeBoxes : MethodName := ⟨RX3, "unlikeBoxes", "()I"⟩
abbrev cX3_takeNewTables : ByteArray := prog_5_method_5_code
def yX3_takeNewTables : MethodName := ⟨RX3, "takeNewTables", "(I)V"⟩
abbrev cX3_lineBit : ByteArray := prog_5_method_6_code
def yX3_lineBit : MethodName := ⟨RX3, "lineBit", "(II)J"⟩
abbrev cX3_setFallen : ByteArray := prog_5_method_7_code
def yX3_setFallen : MethodName := ⟨RX3, "setFallen", "(IIZ)Z"⟩
abbrev cX3_isEntry : ByteArray := prog_5_method_8_code
def yX3_isEntry : MethodName := ⟨RX3, "isEntry", "(I)Z"⟩
abbrev cX3_step : ByteArray := prog_5_method_9_code
def yX3_step : MethodName := ⟨RX3, "step", "(II)I"⟩
abbrev cX3_goesOn : ByteArray := prog_5_method_10_code
def yX3_goesOn : MethodName := ⟨RX3, "goesOn", "(I)Z"⟩
abbrev cX3_endBy : ByteArray := prog_5_method_11_code
def yX3_endBy : MethodName := ⟨RX3, "endBy", "(I)I"⟩
abbrev cX3_versionOf : ByteArray := prog_5_method_12_code
def yX3_versionOf : MethodName := ⟨RX3, "versionOf", "(II)I"⟩
abbrev cX3_follow : ByteArray := prog_5_method_13_code
def yX3_follow : MethodName := ⟨RX3, "follow", "(II)I"⟩
abbrev cX3_keepRow : ByteArray := prog_5_method_14_code
def yX3_keepRow : MethodName := ⟨RX3, "keepRow", "(II)V"⟩
abbrev cX3_endsBy : ByteArray := prog_5_method_15_code
def yX3_endsBy : MethodName := ⟨RX3, "endsBy", "(I)[I"⟩
abbrev cX3_fillEnds : ByteArray := prog_5_method_16_code
def yX3_fillEnds : MethodName := ⟨RX3, "fillEnds", "(I[I)V"⟩
abbrev cX3_settle : ByteArray := prog_5_method_17_code
def yX3_settle : MethodName := ⟨RX3, "settle", "(II[I)V"⟩
abbrev cX3_firstUnlike : ByteArray := prog_5_method_18_code
def yX3_firstUnlike : MethodName := ⟨RX3, "firstUnlike", "(LWishWays$Wish;[I)I"⟩
def RX4 : String := "WishWays$Reader"
def TX4 : u_T := fun k => match k with
  | 0 => ("WishWays$Reader", "tree", "LWishWays$Tree;", true)
  | 1 => ("WishWays$Reader", "signs", "[I", true)
  | 2 => ("WishWays$Reader", "operands", "[I", true)
  | 3 => ("WishWays$Reader", "text", "[I", false)
  | 4 => ("WishWays$Reader", "length", "I", false)
  | 5 => ("WishWays$Reader", "place", "I", false)
  | 6 => ("WishWays$Reader", "signCount", "I", false)
  | 7 => ("WishWays$Reader", "operandCount", "I", false)
  | 8 => ("WishWays$Reader", "open", "I", false)
  | 9 => ("WishWays$Reader", "atoms", "I", false)
  | 10 => ("WishWays$Reader", "fault", "I", false)
  | _ => ("WishWays$Reader", "finished", "Z", false)
def tyX4 : Nat → FieldType := fun k => match k with
  | 0 => .object "WishWays$Tree"
  | 1 => .array .int
  | 2 => .array .int
  | 3 => .array .int
  | 4 => .int
  | 5 => .int
  | 6 => .int
  | 7 => .int
  | 8 => .int
  | 9 => .int
  | 10 => .int
  | _ => .boolean
abbrev wsX40 : List Cond := u_ws RX4 TX4 12
theorem nmX4 : ∀ a, a < 12 → ∀ b, b < 12 → a ≠ b → (TX4 a).2.1 ≠ (TX4 b).2.1 := by decide +kernel
theorem tyX4_ok : ∀ k, k < 12 → parseFieldDescriptor (TX4 k).2.2.1 = some (tyX4 k) := by decide +kernel
abbrev cX4_init : ByteArray := prog_6_method_1_code
def yX4_init : MethodName := ⟨RX4, "<init>", "()V"⟩
abbrev cX4_read : ByteArray := prog_6_method_2_code
def yX4_read : MethodName := ⟨RX4, "read", "([II)I"⟩
abbrev cX4_readAhead : ByteArray := prog_6_method_3_code
def yX4_readAhead : MethodName := ⟨RX4, "readAhead", "()Z"⟩
abbrev cX4_openBracket : ByteArray := prog_6_method_4_code
def yX4_openBracket : MethodName := ⟨RX4, "openBracket", "()V"⟩
abbrev cX4_readConstant : ByteArray := prog_6_method_5_code
def yX4_readConstant : MethodName := ⟨RX4, "readConstant", "(I)V"⟩
abbrev cX4_readUnless : ByteArray := prog_6_method_6_code
def yX4_readUnless : MethodName := ⟨RX4, "readUnless", "()V"⟩
abbrev cX4_readTestOrChange : ByteArray := prog_6_method_7_code
def yX4_readTestOrChange : MethodName := ⟨RX4, "readTestOrChange", "()V"⟩
abbrev cX4_readValue : ByteArray := prog_6_method_8_code
def yX4_readValue : MethodName := ⟨RX4, "readValue", "(II)V"⟩
abbrev cX4_readBehind : ByteArray := prog_6_method_9_code
def yX4_readBehind : MethodName := ⟨RX4, "readBehind", "()Z"⟩
abbrev cX4_joinWaiting : ByteArray := prog_6_method_10_code
def yX4_joinWaiting : MethodName := ⟨RX4, "joinWaiting", "(I)V"⟩
abbrev cX4_joinOperands : ByteArray := prog_6_method_11_code
def yX4_joinOperands : MethodName := ⟨RX4, "joinOperands", "(I)V"⟩
abbrev cX4_starOperand : ByteArray := prog_6_method_12_code
def yX4_starOperand : MethodName := ⟨RX4, "starOperand", "()V"⟩
abbrev cX4_pushOperand : ByteArray := prog_6_method_13_code
def yX4_pushOperand : MethodName := ⟨RX4, "pushOperand", "(III)V"⟩
abbrev cX4_pushSign : ByteArray := prog_6_method_14_code
def yX4_pushSign : MethodName := ⟨RX4, "pushSign", "(I)V"⟩
abbrev cX4_countAtom : ByteArray := prog_6_method_15_code
def yX4_countAtom : MethodName := ⟨RX4, "countAtom", "(I)V"⟩
abbrev cX4_fail : ByteArray := prog_6_method_16_code
def yX4_fail : MethodName := ⟨RX4, "fail", "(II)V"⟩
abbrev cX4_skipBlanks : ByteArray := prog_6_method_17_code
def yX4_skipBlanks : MethodName := ⟨RX4, "skipBlanks", "()V"⟩
abbrev cX4_signHere : ByteArray := prog_6_method_18_code
def yX4_signHere : MethodName := ⟨RX4, "signHere", "()I"⟩
abbrev cX4_isDigit : ByteArray := prog_6_method_19_code
def yX4_isDigit : MethodName := ⟨RX4, "isDigit", "(I)Z"⟩
abbrev cX4_isLetter : ByteArray := prog_6_method_20_code
def yX4_isLetter : MethodName := ⟨RX4, "isLetter", "(I)Z"⟩
abbrev cX4_digitsHere : ByteArray := prog_6_method_21_code
def yX4_digitsHere : MethodName := ⟨RX4, "digitsHere", "()I"⟩
abbrev cX4_wordHere : ByteArray := prog_6_method_22_code
def yX4_wordHere : MethodName := ⟨RX4, "wordHere", "()I"⟩
abbrev cX4_fieldHere : ByteArray := prog_6_method_23_code
def yX4_fieldHere : MethodName := ⟨RX4, "fieldHere", "()I"⟩
def RX5 : String := "WishWays$Rollout"
def TX5 : u_T := fun k => match k with
  | 0 => ("WishWays$Rollout", "network", "LWishWays$Network;", true)
  | 1 => ("WishWays$Rollout", "ticks", "[I", true)
  | 2 => ("WishWays$Rollout", "order", "[I", true)
  | 3 => ("WishWays$Rollout", "orderSize", "I", false)
  | 4 => ("WishWays$Rollout", "trial", "[I", true)
  | 5 => ("WishWays$Rollout", "dead", "[I", true)
  | 6 => ("WishWays$Rollout", "oldEnds", "[I", true)
  | 7 => ("WishWays$Rollout", "newEnds", "[I", true)
  | 8 => ("WishWays$Rollout", "settled", "[I", true)
  | 9 => ("WishWays$Rollout", "ahead", "[I", false)
  | _ => ("WishWays$Rollout", "now", "[I", false)
def tyX5 : Nat → FieldType := fun k => match k with
  | 0 => .object "WishWays$Network"
  | 1 => .array .int
  | 2 => .array .int
  | 3 => .int
  | 4 => .array .int
  | 5 => .array .int
  | 6 => .array .int
  | 7 => .array .int
  | 8 => .array .int
  | 9 => .array .int
  | _ => .array .int
abbrev wsX50 : List Cond := u_ws RX5 TX5 11
theorem nmX5 : ∀ a, a < 11 → ∀ b, b < 11 → a ≠ b → (TX5 a).2.1 ≠ (TX5 b).2.1 := by decide +kernel
theorem tyX5_ok : ∀ k, k < 11 → parseFieldDescriptor (TX5 k).2.2.1 = some (tyX5 k) := by decide +kernel
abbrev cX5_init : ByteArray := prog_7_method_1_code
def yX5_init : MethodName := ⟨RX5, "<init>", "(LWishWays$Network;)V"⟩
abbrev cX5_findOrder : ByteArray := prog_7_method_2_code
def yX5_findOrder : MethodName := ⟨RX5, "findOrder", "()I"⟩
abbrev cX5_leadsOn : ByteArray := prog_7_method_3_code
def yX5_leadsOn : MethodName := ⟨RX5, "leadsOn", "(III)Z"⟩
abbrev cX5_isSafe : ByteArray := prog_7_method_4_code
def yX5_isSafe : MethodName := ⟨RX5, "isSafe", "(I)Z"⟩
abbrev cX5_isNeither : ByteArray := prog_7_method_5_code
def yX5_isNeither : MethodName := ⟨RX5, "isNeither", "(II)Z"⟩
abbrev cX5_versionIn : ByteArray := prog_7_method_6_code
def yX5_versionIn : MethodName := ⟨RX5, "versionIn", "(II)I"⟩
abbrev cX5_watch : ByteArray := prog_7_method_7_code
def yX5_watch : MethodName := ⟨RX5, "watch", "(II)I"⟩
abbrev cX5_countNeither : ByteArray := prog_7_method_8_code
def yX5_countNeither : MethodName := ⟨RX5, "countNeither", "(II)I"⟩
abbrev cX5_findGap : ByteArray := prog_7_method_9_code
def yX5_findGap : MethodName := ⟨RX5, "findGap", "()I"⟩
abbrev cX5_settleAll : ByteArray := prog_7_method_10_code
def yX5_settleAll : MethodName := ⟨RX5, "settleAll", "(I)V"⟩
abbrev cX5_isQuiet : ByteArray := prog_7_method_11_code
def yX5_isQuiet : MethodName := ⟨RX5, "isQuiet", "(I)Z"⟩
abbrev cX5_writtenBy : ByteArray := prog_7_method_12_code
def yX5_writtenBy : MethodName := ⟨RX5, "writtenBy", "(II)I"⟩
abbrev cX5_goBackTo : ByteArray := prog_7_method_13_code
def yX5_goBackTo : MethodName := ⟨RX5, "goBackTo", "(I)V"⟩
abbrev cX5_isQuietAhead : ByteArray := prog_7_method_14_code
def yX5_isQuietAhead : MethodName := ⟨RX5, "isQuietAhead", "([I)Z"⟩
def RX6 : String := "WishWays$Storm"
def TX6 : u_T := fun k => match k with
  | 0 => ("WishWays$Storm", "network", "LWishWays$Network;", true)
  | 1 => ("WishWays$Storm", "struck", "[I", true)
  | 2 => ("WishWays$Storm", "struckCount", "I", false)
  | 3 => ("WishWays$Storm", "most", "I", false)
  | 4 => ("WishWays$Storm", "trails", "[J", true)
  | 5 => ("WishWays$Storm", "trailCount", "I", false)
  | _ => ("WishWays$Storm", "alsoHit", "[I", true)
def tyX6 : Nat → FieldType := fun k => match k with
  | 0 => .object "WishWays$Network"
  | 1 => .array .int
  | 2 => .int
  | 3 => .int
  | 4 => .array .long
  | 5 => .int
  | _ => .array .int
abbrev wsX60 : List Cond := u_ws RX6 TX6 7
theorem nmX6 : ∀ a, a < 7 → ∀ b, b < 7 → a ≠ b → (TX6 a).2.1 ≠ (TX6 b).2.1 := by decide +kernel
theorem tyX6_ok : ∀ k, k < 7 → parseFieldDescriptor (TX6 k).2.2.1 = some (tyX6 k) := by decide +kernel
abbrev cX6_init : ByteArray := prog_8_method_1_code
def yX6_init : MethodName := ⟨RX6, "<init>", "(LWishWays$Network;)V"⟩
abbrev cX6_strike : ByteArray := prog_8_method_2_code
def yX6_strike : MethodName := ⟨RX6, "strike", "(I)I"⟩
abbrev cX6_considerPairs : ByteArray := prog_8_method_3_code
def yX6_considerPairs : MethodName := ⟨RX6, "considerPairs", "(IIJ)V"⟩
abbrev cX6_consider : ByteArray := prog_8_method_4_code
def yX6_consider : MethodName := ⟨RX6, "consider", "(III)V"⟩
abbrev cX6_isAmong : ByteArray := prog_8_method_5_code
def yX6_isAmong : MethodName := ⟨RX6, "isAmong", "(JI)Z"⟩
abbrev cX6_linesInUse : ByteArray := prog_8_method_6_code
def yX6_linesInUse : MethodName := ⟨RX6, "linesInUse", "()J"⟩
abbrev cX6_keepTrails : ByteArray := prog_8_method_7_code
def yX6_keepTrails : MethodName := ⟨RX6, "keepTrails", "()V"⟩
abbrev cX6_trailOf : ByteArray := prog_8_method_8_code
def yX6_trailOf : MethodName := ⟨RX6, "trailOf", "(I)J"⟩
abbrev cX6_countHit : ByteArray := prog_8_method_9_code
def yX6_countHit : MethodName := ⟨RX6, "countHit", "(I)I"⟩
def RX7 : String := "WishWays$Table"
def TX7 : u_T := fun k => match k with
  | 0 => ("WishWays$Table", "matches", "[I", true)
  | 1 => ("WishWays$Table", "changes", "[I", true)
  | 2 => ("WishWays$Table", "targets", "[I", true)
  | 3 => ("WishWays$Table", "size", "I", false)
  | 4 => ("WishWays$Table", "firstRows", "[I", true)
  | _ => ("WishWays$Table", "deeds", "[I", true)
def tyX7 : Nat → FieldType := fun k => match k with
  | 0 => .array .int
  | 1 => .array .int
  | 2 => .array .int
  | 3 => .int
  | 4 => .array .int
  | _ => .array .int
abbrev wsX70 : List Cond := u_ws RX7 TX7 6
theorem nmX7 : ∀ a, a < 6 → ∀ b, b < 6 → a ≠ b → (TX7 a).2.1 ≠ (TX7 b).2.1 := by decide +kernel
theorem tyX7_ok : ∀ k, k < 6 → parseFieldDescriptor (TX7 k).2.2.1 = some (tyX7 k) := by decide +kernel
abbrev cX7_init : ByteArray := prog_9_method_1_code
def yX7_init : MethodName := ⟨RX7, "<init>", "()V"⟩
abbrev cX7_add : ByteArray := prog_9_method_2_code
def yX7_add : MethodName := ⟨RX7, "add", "(III)I"⟩
abbrev cX7_clear : ByteArray := prog_9_method_3_code
def yX7_clear : MethodName := ⟨RX7, "clear", "()V"⟩
abbrev cX7_takeFrom : ByteArray := prog_9_method_4_code
def yX7_takeFrom : MethodName := ⟨RX7, "takeFrom", "(LWishWays$Table;)V"⟩
abbrev cX7_isAlike : ByteArray := prog_9_method_5_code
def yX7_isAlike : MethodName := ⟨RX7, "isAlike", "(LWishWays$Table;)Z"⟩
abbrev cX7_toldOf : ByteArray := prog_9_method_6_code
def yX7_toldOf : MethodName := ⟨RX7, "toldOf", "(II)I"⟩
abbrev cX7_isMatch : ByteArray := prog_9_method_7_code
def yX7_isMatch : MethodName := ⟨RX7, "isMatch", "(II)Z"⟩
abbrev cX7_deedOf : ByteArray := prog_9_method_8_code
def yX7_deedOf : MethodName := ⟨RX7, "deedOf", "(II)I"⟩
abbrev cX7_fewestRows : ByteArray := prog_9_method_9_code
def yX7_fewestRows : MethodName := ⟨RX7, "fewestRows", "()I"⟩
abbrev cX7_packetsOf : ByteArray := prog_9_method_10_code
def yX7_packetsOf : MethodName := ⟨RX7, "packetsOf", "(I)J"⟩
abbrev cX7_alikeBy : ByteArray := prog_9_method_11_code
def yX7_alikeBy : MethodName := ⟨RX7, "alikeBy", "(IJ)J"⟩
abbrev cX7_dealAlike : ByteArray := prog_9_method_12_code
def yX7_dealAlike : MethodName := ⟨RX7, "dealAlike", "(I[J[JJ)Z"⟩
abbrev cX7_remake : ByteArray := prog_9_method_13_code
def yX7_remake : MethodName := ⟨RX7, "remake", "(LWishWays$Wish;I)I"⟩
abbrev cX7_coverAll : ByteArray := prog_9_method_14_code
def yX7_coverAll : MethodName := ⟨RX7, "coverAll", "([II)Z"⟩
abbrev cX7_howManyTold : ByteArray := prog_9_method_15_code
def yX7_howManyTold : MethodName := ⟨RX7, "howManyTold", "(I)I"⟩
abbrev cX7_rightRow : ByteArray := prog_9_method_16_code
def yX7_rightRow : MethodName := ⟨RX7, "rightRow", "(I[II)I"⟩
abbrev cX7_isOneFor : ByteArray := prog_9_method_17_code
def yX7_isOneFor : MethodName := ⟨RX7, "isOneFor", "(II[I)Z"⟩
abbrev cX7_staysFor : ByteArray := prog_9_method_18_code
def yX7_staysFor : MethodName := ⟨RX7, "staysFor", "(II[I)Z"⟩
def RX8 : String := "WishWays$Teller"
def TX8 : u_T := fun k => match k with
  | 0 => ("WishWays$Teller", "out", "[I", true)
  | 1 => ("WishWays$Teller", "outSize", "I", false)
  | 2 => ("WishWays$Teller", "shortTree", "LWishWays$Tree;", true)
  | _ => ("WishWays$Teller", "shortNodes", "[I", true)
def tyX8 : Nat → FieldType := fun k => match k with
  | 0 => .array .int
  | 1 => .int
  | 2 => .object "WishWays$Tree"
  | _ => .array .int
abbrev wsX80 : List Cond := u_ws RX8 TX8 4
theorem nmX8 : ∀ a, a < 4 → ∀ b, b < 4 → a ≠ b → (TX8 a).2.1 ≠ (TX8 b).2.1 := by decide +kernel
theorem tyX8_ok : ∀ k, k < 4 → parseFieldDescriptor (TX8 k).2.2.1 = some (tyX8 k) := by decide +kernel
abbrev cX8_init : ByteArray := prog_10_method_1_code
def yX8_init : MethodName := ⟨RX8, "<init>", "()V"⟩
abbrev cX8_putAll : ByteArray := prog_10_method_2_code
def yX8_putAll : MethodName := ⟨RX8, "putAll", "(LWishWays$Tree;)I"⟩
abbrev cX8_putShorter : ByteArray := prog_10_method_3_code
def yX8_putShorter : MethodName := ⟨RX8, "putShorter", "(LWishWays$Tree;)I"⟩
abbrev cX8_put : ByteArray := prog_10_method_4_code
def yX8_put : MethodName := ⟨RX8, "put", "(LWishWays$Tree;III)V"⟩
abbrev cX8_putBare : ByteArray := prog_10_method_5_code
def yX8_putBare : MethodName := ⟨RX8, "putBare", "(LWishWays$Tree;II)V"⟩
abbrev cX8_putAtom : ByteArray := prog_10_method_6_code
def yX8_putAtom : MethodName := ⟨RX8, "putAtom", "(III)V"⟩
abbrev cX8_putByte : ByteArray := prog_10_method_7_code
def yX8_putByte : MethodName := ⟨RX8, "putByte", "(I)V"⟩
abbrev cX8_bindingOf : ByteArray := prog_10_method_8_code
def yX8_bindingOf : MethodName := ⟨RX8, "bindingOf", "(I)I"⟩
abbrev cX8_shorten : ByteArray := prog_10_method_9_code
def yX8_shorten : MethodName := ⟨RX8, "shorten", "(LWishWays$Tree;)I"⟩
abbrev cX8_shortStar : ByteArray := prog_10_method_10_code
def yX8_shortStar : MethodName := ⟨RX8, "shortStar", "(I)I"⟩
abbrev cX8_shortEither : ByteArray := prog_10_method_11_code
def yX8_shortEither : MethodName := ⟨RX8, "shortEither", "(II)I"⟩
abbrev cX8_shortThen : ByteArray := prog_10_method_12_code
def yX8_shortThen : MethodName := ⟨RX8, "shortThen", "(II)I"⟩
abbrev cX8_isPlain : ByteArray := prog_10_method_13_code
def yX8_isPlain : MethodName := ⟨RX8, "isPlain", "(I)Z"⟩
abbrev cX8_shortField : ByteArray := prog_10_method_14_code
def yX8_shortField : MethodName := ⟨RX8, "shortField", "(II)I"⟩
def RX9 : String := "WishWays$Tree"
def TX9 : u_T := fun k => match k with
  | 0 => ("WishWays$Tree", "kinds", "[I", true)
  | 1 => ("WishWays$Tree", "lefts", "[I", true)
  | 2 => ("WishWays$Tree", "rights", "[I", true)
  | _ => ("WishWays$Tree", "size", "I", false)
def tyX9 : Nat → FieldType := fun k => match k with
  | 0 => .array .int
  | 1 => .array .int
  | 2 => .array .int
  | _ => .int
abbrev wsX90 : List Cond := u_ws RX9 TX9 4
theorem nmX9 : ∀ a, a < 4 → ∀ b, b < 4 → a ≠ b → (TX9 a).2.1 ≠ (TX9 b).2.1 := by decide +kernel
theorem tyX9_ok : ∀ k, k < 4 → parseFieldDescriptor (TX9 k).2.2.1 = some (tyX9 k) := by decide +kernel
abbrev cX9_init : ByteArray := prog_11_method_1_code
def yX9_init : MethodName := ⟨RX9, "<init>", "(I)V"⟩
abbrev cX9_add : ByteArray := prog_11_method_2_code
def yX9_add : MethodName := ⟨RX9, "add", "(III)I"⟩
abbrev cX9_findOrAdd : ByteArray := prog_11_method_3_code
def yX9_findOrAdd : MethodName := ⟨RX9, "findOrAdd", "(III)I"⟩
abbrev cX9_copied : ByteArray := prog_11_method_4_code
def yX9_copied : MethodName := ⟨RX9, "copied", "()LWishWays$Tree;"⟩
def RX10 : String := "WishWays$Wish"
def TX10 : u_T := fun k => match k with
  | 0 => ("WishWays$Wish", "house", "I", true)
  | 1 => ("WishWays$Wish", "tree", "LWishWays$Tree;", true)
  | 2 => ("WishWays$Wish", "made", "[J", true)
  | 3 => ("WishWays$Wish", "rowsNeeded", "[I", true)
  | _ => ("WishWays$Wish", "value", "I", false)
def tyX10 : Nat → FieldType := fun k => match k with
  | 0 => .int
  | 1 => .object "WishWays$Tree"
  | 2 => .array .long
  | 3 => .array .int
  | _ => .int
abbrev wsX100 : List Cond := u_ws RX10 TX10 5
theorem nmX10 : ∀ a, a < 5 → ∀ b, b < 5 → a ≠ b → (TX10 a).2.1 ≠ (TX10 b).2.1 := by decide +kernel
theorem tyX10_ok : ∀ k, k < 5 → parseFieldDescriptor (TX10 k).2.2.1 = some (tyX10 k) := by decide +kernel
abbrev cX10_init : ByteArray := prog_12_method_1_code
def yX10_init : MethodName := ⟨RX10, "<init>", "(ILWishWays$Tree;[J)V"⟩
abbrev cX10_howMany : ByteArray := prog_12_method_2_code
def yX10_howMany : MethodName := ⟨RX10, "howMany", "(I)I"⟩
abbrev cX10_pick : ByteArray := prog_12_method_3_code
def yX10_pick : MethodName := ⟨RX10, "pick", "(II)I"⟩
abbrev cX10_kthBit : ByteArray := prog_12_method_4_code
def yX10_kthBit : MethodName := ⟨RX10, "kthBit", "(JI)I"⟩
abbrev cX10_holds : ByteArray := prog_12_method_5_code
def yX10_holds : MethodName := ⟨RX10, "holds", "(II)Z"⟩
abbrev cX10_makesNone : ByteArray := prog_12_method_6_code
def yX10_makesNone : MethodName := ⟨RX10, "makesNone", "(I)Z"⟩
abbrev cX10_makesJust : ByteArray := prog_12_method_7_code
def yX10_makesJust : MethodName := ⟨RX10, "makesJust", "(II)Z"⟩
abbrev cX10_partsBy : ByteArray := prog_12_method_8_code
def yX10_partsBy : MethodName := ⟨RX10, "partsBy", "(LWishWays$Wish;I)I"⟩
abbrev cX10_isInside : ByteArray := prog_12_method_9_code
def yX10_isInside : MethodName := ⟨RX10, "isInside", "(LWishWays$Wish;I)Z"⟩
def RX11 : String := "WishWays"
def TX11 : u_T := fun k => match k with
  | 0 => ("WishWays", "tape", "[I", true)
  | 1 => ("WishWays", "tapeSize", "I", false)
  | 2 => ("WishWays", "wishes", "[LWishWays$Wish;", true)
  | 3 => ("WishWays", "wishCount", "I", false)
  | 4 => ("WishWays", "rights", "[I", true)
  | 5 => ("WishWays", "ranks", "[I", true)
  | 6 => ("WishWays", "reader", "LWishWays$Reader;", true)
  | 7 => ("WishWays", "maker", "LWishWays$Maker;", true)
  | 8 => ("WishWays", "teller", "LWishWays$Teller;", true)
  | 9 => ("WishWays", "network", "LWishWays$Network;", true)
  | 10 => ("WishWays", "rollout", "LWishWays$Rollout;", true)
  | 11 => ("WishWays", "storm", "LWishWays$Storm;", true)
  | 12 => ("WishWays", "ledger", "LWishWays$Ledger;", true)
  | _ => ("WishWays", "cabling", "LWishWays$Cabling;", true)
def tyX11 : Nat → FieldType := fun k => match k with
  | 0 => .array .int
  | 1 => .int
  | 2 => .array (.object "WishWays$Wish")
  | 3 => .int
  | 4 => .array .int
  | 5 => .array .int
  | 6 => .object "WishWays$Reader"
  | 7 => .object "WishWays$Maker"
  | 8 => .object "WishWays$Teller"
  | 9 => .object "WishWays$Network"
  | 10 => .object "WishWays$Rollout"
  | 11 => .object "WishWays$Storm"
  | 12 => .object "WishWays$Ledger"
  | _ => .object "WishWays$Cabling"
abbrev wsX110 : List Cond := u_ws RX11 TX11 14
theorem nmX11 : ∀ a, a < 14 → ∀ b, b < 14 → a ≠ b → (TX11 a).2.1 ≠ (TX11 b).2.1 := by decide +kernel
theorem tyX11_ok : ∀ k, k < 14 → parseFieldDescriptor (TX11 k).2.2.1 = some (tyX11 k) := by decide +kernel
abbrev cX11_init : ByteArray := prog_1_method_1_code
def yX11_init : MethodName := ⟨RX11, "<init>", "()V"⟩
abbrev cX11_feed : ByteArray := prog_1_method_2_code
def yX11_feed : MethodName := ⟨RX11, "feed", "(IIIII)I"⟩
abbrev cX11_takeBytes : ByteArray := prog_1_method_3_code
def yX11_takeBytes : MethodName := ⟨RX11, "takeBytes", "(I)V"⟩
abbrev cX11_end : ByteArray := prog_1_method_4_code
def yX11_end : MethodName := ⟨RX11, "end", "(I)I"⟩
abbrev cX11_wish : ByteArray := prog_1_method_5_code
def yX11_wish : MethodName := ⟨RX11, "wish", "(I)I"⟩
abbrev cX11_makes : ByteArray := prog_1_method_6_code
def yX11_makes : MethodName := ⟨RX11, "makes", "(III)I"⟩
abbrev cX11_of : ByteArray := prog_1_method_7_code
def yX11_of : MethodName := ⟨RX11, "of", "(II)I"⟩
abbrev cX11_parts : ByteArray := prog_1_method_8_code
def yX11_parts : MethodName := ⟨RX11, "parts", "(III)I"⟩
abbrev cX11_within : ByteArray := prog_1_method_9_code
def yX11_within : MethodName := ⟨RX11, "within", "(II)I"⟩
abbrev cX11_right : ByteArray := prog_1_method_10_code
def yX11_right : MethodName := ⟨RX11, "right", "(IIIII)Z"⟩
abbrev cX11_breaks : ByteArray := prog_1_method_11_code
def yX11_breaks : MethodName := ⟨RX11, "breaks", "(I)I"⟩
abbrev cX11_mayTouch : ByteArray := prog_1_method_12_code
def yX11_mayTouch : MethodName := ⟨RX11, "mayTouch", "(II)Z"⟩
abbrev cX11_quarrel : ByteArray := prog_1_method_13_code
def yX11_quarrel : MethodName := ⟨RX11, "quarrel", "(II)I"⟩
abbrev cX11_rank : ByteArray := prog_1_method_14_code
def yX11_rank : MethodName := ⟨RX11, "rank", "(II)I"⟩
abbrev cX11_joined : ByteArray := prog_1_method_15_code
def yX11_joined : MethodName := ⟨RX11, "joined", "(II)I"⟩
abbrev cX11_firstByRank : ByteArray := prog_1_method_16_code
def yX11_firstByRank : MethodName := ⟨RX11, "firstByRank", "(I)I"⟩
abbrev cX11_row : ByteArray := prog_1_method_17_code
def yX11_row : MethodName := ⟨RX11, "row", "(IIIII)I"⟩
abbrev cX11_erase : ByteArray := prog_1_method_18_code
def yX11_erase : MethodName := ⟨RX11, "erase", "(II)I"⟩
abbrev cX11_renew : ByteArray := prog_1_method_19_code
def yX11_renew : MethodName := ⟨RX11, "renew", "()I"⟩
abbrev cX11_line : ByteArray := prog_1_method_20_code
def yX11_line : MethodName := ⟨RX11, "line", "(IIZ)Z"⟩
abbrev cX11_entries : ByteArray := prog_1_method_21_code
def yX11_entries : MethodName := ⟨RX11, "entries", "(I)I"⟩
abbrev cX11_ends : ByteArray := prog_1_method_22_code
def yX11_ends : MethodName := ⟨RX11, "ends", "(II)I"⟩
abbrev cX11_way : ByteArray := prog_1_method_23_code
def yX11_way : MethodName := ⟨RX11, "way", "(I)I"⟩
abbrev cX11_shown : ByteArray := prog_1_method_24_code
def yX11_shown : MethodName := ⟨RX11, "shown", "(II)I"⟩
abbrev cX11_guessed : ByteArray := prog_1_method_25_code
def yX11_guessed : MethodName := ⟨RX11, "guessed", "(I)I"⟩
abbrev cX11_packed : ByteArray := prog_1_method_26_code
def yX11_packed : MethodName := ⟨RX11, "packed", "(II)I"⟩
abbrev cX11_writes : ByteArray := prog_1_method_27_code
def yX11_writes : MethodName := ⟨RX11, "writes", "()I"⟩
abbrev cX11_written : ByteArray := prog_1_method_28_code
def yX11_written : MethodName := ⟨RX11, "written", "(I)I"⟩
abbrev cX11_worst : ByteArray := prog_1_method_29_code
def yX11_worst : MethodName := ⟨RX11, "worst", "(I)I"⟩
abbrev cX11_falls : ByteArray := prog_1_method_30_code
def yX11_falls : MethodName := ⟨RX11, "falls", "(I)I"⟩
abbrev cX11_needs : ByteArray := prog_1_method_31_code
def yX11_needs : MethodName := ⟨RX11, "needs", "(III)I"⟩
abbrev cX11_worth : ByteArray := prog_1_method_32_code
def yX11_worth : MethodName := ⟨RX11, "worth", "(III)I"⟩
abbrev cX11_kept : ByteArray := prog_1_method_33_code
def yX11_kept : MethodName := ⟨RX11, "kept", "(I)I"⟩
abbrev cX11_counts : ByteArray := prog_1_method_34_code
def yX11_counts : MethodName := ⟨RX11, "counts", "(IIZI)I"⟩
abbrev cX11_liars : ByteArray := prog_1_method_35_code
def yX11_liars : MethodName := ⟨RX11, "liars", "()I"⟩
abbrev cX11_tell : ByteArray := prog_1_method_36_code
def yX11_tell : MethodName := ⟨RX11, "tell", "(IZ)I"⟩
abbrev cX11_octet : ByteArray := prog_1_method_37_code
def yX11_octet : MethodName := ⟨RX11, "octet", "(I)I"⟩
abbrev cX11_cable : ByteArray := prog_1_method_38_code
def yX11_cable : MethodName := ⟨RX11, "cable", "(II)I"⟩
abbrev cX11_edges : ByteArray := prog_1_method_39_code
def yX11_edges : MethodName := ⟨RX11, "edges", "(I)I"⟩
abbrev cX11_known : ByteArray := prog_1_method_40_code
def yX11_known : MethodName := ⟨RX11, "known", "(I)I"⟩
abbrev cX11_taps : ByteArray := prog_1_method_41_code
def yX11_taps : MethodName := ⟨RX11, "taps", "(I)I"⟩
abbrev cX11_make : ByteArray := prog_1_method_42_code
def yX11_make : MethodName := ⟨RX11, "make", "(III)I"⟩
abbrev cX11_rows : ByteArray := prog_1_method_43_code
def yX11_rows : MethodName := ⟨RX11, "rows", "(IIII)I"⟩
abbrev cX11_write : ByteArray := prog_1_method_44_code
def yX11_write : MethodName := ⟨RX11, "write", "(II)I"⟩
abbrev cX11_seen : ByteArray := prog_1_method_45_code
def yX11_seen : MethodName := ⟨RX11, "seen", "(II)I"⟩
abbrev cX11_neither : ByteArray := prog_1_method_46_code
def yX11_neither : MethodName := ⟨RX11, "neither", "(II)I"⟩
abbrev cX11_gap : ByteArray := prog_1_method_47_code
def yX11_gap : MethodName := ⟨RX11, "gap", "()I"⟩
abbrev cX11_count : ByteArray := prog_1_method_48_code
def yX11_count : MethodName := ⟨RX11, "count", "(I)I"⟩
abbrev cX11_wishAt : ByteArray := prog_1_method_49_code
def yX11_wishAt : MethodName := ⟨RX11, "wishAt", "(I)LWishWays$Wish;"⟩
abbrev cX11_upTo : ByteArray := prog_1_method_50_code
def yX11_upTo : MethodName := ⟨RX11, "upTo", "(II)Z"⟩
abbrev cX11_isPacket : ByteArray := prog_1_method_51_code
def yX11_isPacket : MethodName := ⟨RX11, "isPacket", "(I)Z"⟩
abbrev cX11_isBox : ByteArray := prog_1_method_52_code
def yX11_isBox : MethodName := ⟨RX11, "isBox", "(I)Z"⟩
abbrev cX11_isTick : ByteArray := prog_1_method_53_code
def yX11_isTick : MethodName := ⟨RX11, "isTick", "(I)Z"⟩
abbrev cX11_isLine : ByteArray := prog_1_method_54_code
def yX11_isLine : MethodName := ⟨RX11, "isLine", "(II)Z"⟩
abbrev cX11_hasBit : ByteArray := prog_1_method_55_code
def yX11_hasBit : MethodName := ⟨RX11, "hasBit", "(II)Z"⟩
abbrev cX11_lowestBit : ByteArray := prog_1_method_56_code
def yX11_lowestBit : MethodName := ⟨RX11, "lowestBit", "(J)I"⟩
abbrev cX11_valueOf : ByteArray := prog_1_method_57_code
def yX11_valueOf : MethodName := ⟨RX11, "valueOf", "(II)I"⟩
abbrev cX11_changed : ByteArray := prog_1_method_58_code
def yX11_changed : MethodName := ⟨RX11, "changed", "(III)I"⟩
def RX12 : String := "WishWaysModel"
def TX12 : u_T := fun k => match k with
  | 0 => ("WishWaysModel", "thrown", "I", false)
  | 1 => ("WishWaysModel", "taped", "I", false)
  | 2 => ("WishWaysModel", "p", "I", false)
  | 3 => ("WishWaysModel", "fault", "I", false)
  | 4 => ("WishWaysModel", "wishes", "I", false)
  | 5 => ("WishWaysModel", "nodes", "I", false)
  | 6 => ("WishWaysModel", "atoms", "I", false)
  | 7 => ("WishWaysModel", "deep", "I", false)
  | 8 => ("WishWaysModel", "opened", "I", false)
  | 9 => ("WishWaysModel", "tape", "[B", true)
  | 10 => ("WishWaysModel", "kind", "[I", true)
  | 11 => ("WishWaysModel", "one", "[I", true)
  | 12 => ("WishWaysModel", "two", "[I", true)
  | 13 => ("WishWaysModel", "size", "[I", true)
  | 14 => ("WishWaysModel", "houseOf", "[I", true)
  | 15 => ("WishWaysModel", "open", "[I", true)
  | 16 => ("WishWaysModel", "stand", "[I", true)
  | 17 => ("WishWaysModel", "standing", "I", false)
  | 18 => ("WishWaysModel", "done", "Z", false)
  | 19 => ("WishWaysModel", "square", "[J", true)
  | 20 => ("WishWaysModel", "made", "[J", true)
  | 21 => ("WishWaysModel", "row", "[J", true)
  | 22 => ("WishWaysModel", "slot", "[I", true)
  | 23 => ("WishWaysModel", "rightPlaces", "[I", true)
  | 24 => ("WishWaysModel", "rightA", "[I", true)
  | 25 => ("WishWaysModel", "rightB", "[I", true)
  | 26 => ("WishWaysModel", "rightC", "[I", true)
  | 27 => ("WishWaysModel", "rank", "[I", true)
  | 28 => ("WishWaysModel", "match", "[I", true)
  | 29 => ("WishWaysModel", "sets", "[I", true)
  | 30 => ("WishWaysModel", "to", "[I", true)
  | 31 => ("WishWaysModel", "rowsOf", "[I", true)
  | 32 => ("WishWaysModel", "fallen", "[Z", true)
  | 33 => ("WishWaysModel", "entries", "I", false)
  | 34 => ("WishWaysModel", "fallenMany", "I", false)
  | 35 => ("WishWaysModel", "path", "[I", true)
  | 36 => ("WishWaysModel", "seenAt", "[I", true)
  | 37 => ("WishWaysModel", "waySize", "I", false)
  | 38 => ("WishWaysModel", "pathSize", "I", false)
  | 39 => ("WishWaysModel", "stamp", "I", false)
  | 40 => ("WishWaysModel", "by", "I", false)
  | 41 => ("WishWaysModel", "gone", "I", false)
  | 42 => ("WishWaysModel", "uses", "[J", true)
  | 43 => ("WishWaysModel", "endOld", "[I", true)
  | 44 => ("WishWaysModel", "endNew", "[I", true)
  | 45 => ("WishWaysModel", "told", "[I", true)
  | 46 => ("WishWaysModel", "matched", "[I", true)
  | 47 => ("WishWaysModel", "due", "[I", true)
  | 48 => ("WishWaysModel", "isGood", "[Z", true)
  | 49 => ("WishWaysModel", "leads", "[Z", true)
  | 50 => ("WishWaysModel", "order", "[I", true)
  | 51 => ("WishWaysModel", "found", "I", false)
  | 52 => ("WishWaysModel", "fall", "[I", true)
  | 53 => ("WishWaysModel", "lines", "[I", true)
  | 54 => ("WishWaysModel", "fallsMany", "I", false)
  | 55 => ("WishWaysModel", "needed", "[I", true)
  | 56 => ("WishWaysModel", "worthOf", "[I", true)
  | 57 => ("WishWaysModel", "room", "[I", true)
  | 58 => ("WishWaysModel", "sent", "[I", true)
  | 59 => ("WishWaysModel", "gotten", "[I", true)
  | 60 => ("WishWaysModel", "newKind", "[I", true)
  | 61 => ("WishWaysModel", "newOne", "[I", true)
  | 62 => ("WishWaysModel", "newTwo", "[I", true)
  | 63 => ("WishWaysModel", "became", "[I", true)
  | 64 => ("WishWaysModel", "newMany", "I", false)
  | 65 => ("WishWaysModel", "out", "[B", true)
  | 66 => ("WishWaysModel", "todo", "[I", true)
  | 67 => ("WishWaysModel", "outSize", "I", false)
  | 68 => ("WishWaysModel", "todoMany", "I", false)
  | 69 => ("WishWaysModel", "cables", "I", false)
  | 70 => ("WishWaysModel", "edges", "I", false)
  | 71 => ("WishWaysModel", "endA", "[I", true)
  | 72 => ("WishWaysModel", "endB", "[I", true)
  | 73 => ("WishWaysModel", "makesTo", "[I", true)
  | 74 => ("WishWaysModel", "newMatch", "[I", true)
  | 75 => ("WishWaysModel", "newSets", "[I", true)
  | 76 => ("WishWaysModel", "newTo", "[I", true)
  | 77 => ("WishWaysModel", "writtenIn", "[I", true)
  | _ => ("WishWaysModel", "inTick", "[I", true)
def tyX12 : Nat → FieldType := fun k => match k with
  | 0 => .int
  | 1 => .int
  | 2 => .int
  | 3 => .int
  | 4 => .int
  | 5 => .int
  | 6 => .int
  | 7 => .int
  | 8 => .int
  | 9 => .array .byte
  | 10 => .array .int
  | 11 => .array .int
  | 12 => .array .int
  | 13 => .array .int
  | 14 => .array .int
  | 15 => .array .int
  | 16 => .array .int
  | 17 => .int
  | 18 => .boolean
  | 19 => .array .long
  | 20 => .array .long
  | 21 => .array .long
  | 22 => .array .int
  | 23 => .array .int
  | 24 => .array .int
  | 25 => .array .int
  | 26 => .array .int
  | 27 => .array .int
  | 28 => .array .int
  | 29 => .array .int
  | 30 => .array .int
  | 31 => .array .int
  | 32 => .array .boolean
  | 33 => .int
  | 34 => .int
  | 35 => .array .int
  | 36 => .array .int
  | 37 => .int
  | 38 => .int
  | 39 => .int
  | 40 => .int
  | 41 => .int
  | 42 => .array .long
  | 43 => .array .int
  | 44 => .array .int
  | 45 => .array .int
  | 46 => .array .int
  | 47 => .array .int
  | 48 => .array .boolean
  | 49 => .array .boolean
  | 50 => .array .int
  | 51 => .int
  | 52 => .array .int
  | 53 => .array .int
  | 54 => .int
  | 55 => .array .int
  | 56 => .array .int
  | 57 => .array .int
  | 58 => .array .int
  | 59 => .array .int
  | 60 => .array .int
  | 61 => .array .int
  | 62 => .array .int
  | 63 => .array .int
  | 64 => .int
  | 65 => .array .byte
  | 66 => .array .int
  | 67 => .int
  | 68 => .int
  | 69 => .int
  | 70 => .int
  | 71 => .array .int
  | 72 => .array .int
  | 73 => .array .int
  | 74 => .array .int
  | 75 => .array .int
  | 76 => .array .int
  | 77 => .array .int
  | _ => .array .int
abbrev wsX120 : List Cond := u_ws RX12 TX12 79
theorem nmX12 : ∀ a, a < 79 → ∀ b, b < 79 → a ≠ b → (TX12 a).2.1 ≠ (TX12 b).2.1 := by decide +kernel
theorem tyX12_ok : ∀ k, k < 79 → parseFieldDescriptor (TX12 k).2.2.1 = some (tyX12 k) := by decide +kernel
abbrev cX12_init : ByteArray := prog_14_method_1_code
def yX12_init : MethodName := ⟨RX12, "<init>", "()V"⟩
abbrev cX12_in : ByteArray := prog_14_method_3_code
def yX12_in : MethodName := ⟨RX12, "in", "(JJJ)Z"⟩
abbrev cX12_isPacket : ByteArray := prog_14_method_4_code
def yX12_isPacket : MethodName := ⟨RX12, "isPacket", "(I)Z"⟩
abbrev cX12_isPlace : ByteArray := prog_14_method_5_code
def yX12_isPlace : MethodName := ⟨RX12, "isPlace", "(I)Z"⟩
abbrev cX12_fieldOf : ByteArray := prog_14_method_6_code
def yX12_fieldOf : MethodName := ⟨RX12, "fieldOf", "(II)I"⟩
abbrev cX12_with : ByteArray := prog_14_method_7_code
def yX12_with : MethodName := ⟨RX12, "with", "(III)I"⟩
abbrev cX12_feed : ByteArray := prog_14_method_8_code
def yX12_feed : MethodName := ⟨RX12, "feed", "(IIIII)I"⟩
abbrev cX12_put : ByteArray := prog_14_method_9_code
def yX12_put : MethodName := ⟨RX12, "put", "(I)V"⟩
abbrev cX12_end : ByteArray := prog_14_method_10_code
def yX12_end : MethodName := ⟨RX12, "end", "(I)I"⟩
abbrev cX12_fails : ByteArray := prog_14_method_11_code
def yX12_fails : MethodName := ⟨RX12, "fails", "(II)V"⟩
abbrev cX12_sign : ByteArray := prog_14_method_12_code
def yX12_sign : MethodName := ⟨RX12, "sign", "()I"⟩
abbrev cX12_blanks : ByteArray := prog_14_method_13_code
def yX12_blanks : MethodName := ⟨RX12, "blanks", "()V"⟩
abbrev cX12_isDigit : ByteArray := prog_14_method_14_code
def yX12_isDigit : MethodName := ⟨RX12, "isDigit", "()Z"⟩
abbrev cX12_isLetter : ByteArray := prog_14_method_15_code
def yX12_isLetter : MethodName := ⟨RX12, "isLetter", "()Z"⟩
abbrev cX12_node : ByteArray := prog_14_method_16_code
def yX12_node : MethodName := ⟨RX12, "node", "(III)V"⟩
abbrev cX12_join : ByteArray := prog_14_method_17_code
def yX12_join : MethodName := ⟨RX12, "join", "(I)V"⟩
abbrev cX12_top : ByteArray := prog_14_method_18_code
def yX12_top : MethodName := ⟨RX12, "top", "()I"⟩
abbrev cX12_counts : ByteArray := prog_14_method_19_code
def yX12_counts : MethodName := ⟨RX12, "counts", "(I)V"⟩
abbrev cX12_field : ByteArray := prog_14_method_20_code
def yX12_field : MethodName := ⟨RX12, "field", "()I"⟩
abbrev cX12_number : ByteArray := prog_14_method_21_code
def yX12_number : MethodName := ⟨RX12, "number", "(I)I"⟩
abbrev cX12_atom : ByteArray := prog_14_method_22_code
def yX12_atom : MethodName := ⟨RX12, "atom", "(I)V"⟩
abbrev cX12_wanted : ByteArray := prog_14_method_23_code
def yX12_wanted : MethodName := ⟨RX12, "wanted", "()Z"⟩
abbrev cX12_makes : ByteArray := prog_14_method_24_code
def yX12_makes : MethodName := ⟨RX12, "makes", "(I)V"⟩
abbrev cX12_behind : ByteArray := prog_14_method_25_code
def yX12_behind : MethodName := ⟨RX12, "behind", "()Z"⟩
abbrev cX12_wish : ByteArray := prog_14_method_26_code
def yX12_wish : MethodName := ⟨RX12, "wish", "(I)I"⟩
abbrev cX12_works : ByteArray := prog_14_method_27_code
def yX12_works : MethodName := ⟨RX12, "works", "(I)V"⟩
abbrev cX12_leaf : ByteArray := prog_14_method_28_code
def yX12_leaf : MethodName := ⟨RX12, "leaf", "(IIII)V"⟩
abbrev cX12_follows : ByteArray := prog_14_method_29_code
def yX12_follows : MethodName := ⟨RX12, "follows", "(II)V"⟩
abbrev cX12_closes : ByteArray := prog_14_method_30_code
def yX12_closes : MethodName := ⟨RX12, "closes", "(I)V"⟩
abbrev cX12_isWish : ByteArray := prog_14_method_31_code
def yX12_isWish : MethodName := ⟨RX12, "isWish", "(I)Z"⟩
abbrev cX12_makesOf : ByteArray := prog_14_method_32_code
def yX12_makesOf : MethodName := ⟨RX12, "makesOf", "(III)Z"⟩
abbrev cX12_kth : ByteArray := prog_14_method_33_code
def yX12_kth : MethodName := ⟨RX12, "kth", "(III)I"⟩
abbrev cX12_many : ByteArray := prog_14_method_34_code
def yX12_many : MethodName := ⟨RX12, "many", "(II)I"⟩
abbrev cX12_makes_ : ByteArray := prog_14_method_35_code
def yX12_makes_ : MethodName := ⟨RX12, "makes", "(III)I"⟩
abbrev cX12_of : ByteArray := prog_14_method_36_code
def yX12_of : MethodName := ⟨RX12, "of", "(II)I"⟩
abbrev cX12_unlike : ByteArray := prog_14_method_37_code
def yX12_unlike : MethodName := ⟨RX12, "unlike", "(III)I"⟩
abbrev cX12_parts : ByteArray := prog_14_method_38_code
def yX12_parts : MethodName := ⟨RX12, "parts", "(III)I"⟩
abbrev cX12_within : ByteArray := prog_14_method_39_code
def yX12_within : MethodName := ⟨RX12, "within", "(II)I"⟩
abbrev cX12_isHouse : ByteArray := prog_14_method_40_code
def yX12_isHouse : MethodName := ⟨RX12, "isHouse", "(I)Z"⟩
abbrev cX12_right : ByteArray := prog_14_method_41_code
def yX12_right : MethodName := ⟨RX12, "right", "(IIIII)Z"⟩
abbrev cX12_breaks : ByteArray := prog_14_method_42_code
def yX12_breaks : MethodName := ⟨RX12, "breaks", "(I)I"⟩
abbrev cX12_quarrel : ByteArray := prog_14_method_43_code
def yX12_quarrel : MethodName := ⟨RX12, "quarrel", "(II)I"⟩
abbrev cX12_rank : ByteArray := prog_14_method_44_code
def yX12_rank : MethodName := ⟨RX12, "rank", "(II)I"⟩
abbrev cX12_joined : ByteArray := prog_14_method_45_code
def yX12_joined : MethodName := ⟨RX12, "joined", "(II)I"⟩
abbrev cX12_isTable : ByteArray := prog_14_method_46_code
def yX12_isTable : MethodName := ⟨RX12, "isTable", "(II)Z"⟩
abbrev cX12_row : ByteArray := prog_14_method_47_code
def yX12_row : MethodName := ⟨RX12, "row", "(IIIII)I"⟩
abbrev cX12_erase : ByteArray := prog_14_method_48_code
def yX12_erase : MethodName := ⟨RX12, "erase", "(II)I"⟩
abbrev cX12_isUnlike : ByteArray := prog_14_method_49_code
def yX12_isUnlike : MethodName := ⟨RX12, "isUnlike", "(I)Z"⟩
abbrev cX12_unlikeMany : ByteArray := prog_14_method_50_code
def yX12_unlikeMany : MethodName := ⟨RX12, "unlikeMany", "()I"⟩
abbrev cX12_renew : ByteArray := prog_14_method_51_code
def yX12_renew : MethodName := ⟨RX12, "renew", "()I"⟩
abbrev cX12_line : ByteArray := prog_14_method_52_code
def yX12_line : MethodName := ⟨RX12, "line", "(IIZ)Z"⟩
abbrev cX12_entries : ByteArray := prog_14_method_53_code
def yX12_entries : MethodName := ⟨RX12, "entries", "(I)I"⟩
abbrev cX12_isField : ByteArray := prog_14_method_54_code
def yX12_isField : MethodName := ⟨RX12, "isField", "(II)Z"⟩
abbrev cX12_matches : ByteArray := prog_14_method_55_code
def yX12_matches : MethodName := ⟨RX12, "matches", "(II)Z"⟩
abbrev cX12_set : ByteArray := prog_14_method_56_code
def yX12_set : MethodName := ⟨RX12, "set", "(II)I"⟩
abbrev cX12_rowFor : ByteArray := prog_14_method_57_code
def yX12_rowFor : MethodName := ⟨RX12, "rowFor", "(II)I"⟩
abbrev cX12_step : ByteArray := prog_14_method_58_code
def yX12_step : MethodName := ⟨RX12, "step", "(II)I"⟩
abbrev cX12_endsAs : ByteArray := prog_14_method_59_code
def yX12_endsAs : MethodName := ⟨RX12, "endsAs", "(II)I"⟩
abbrev cX12_ends : ByteArray := prog_14_method_60_code
def yX12_ends : MethodName := ⟨RX12, "ends", "(II)I"⟩
abbrev cX12_way : ByteArray := prog_14_method_61_code
def yX12_way : MethodName := ⟨RX12, "way", "(I)I"⟩
abbrev cX12_enters : ByteArray := prog_14_method_62_code
def yX12_enters : MethodName := ⟨RX12, "enters", "(I)Z"⟩
abbrev cX12_isShown : ByteArray := prog_14_method_63_code
def yX12_isShown : MethodName := ⟨RX12, "isShown", "(III)Z"⟩
abbrev cX12_shownBut : ByteArray := prog_14_method_64_code
def yX12_shownBut : MethodName := ⟨RX12, "shownBut", "(II)I"⟩
abbrev cX12_shown : ByteArray := prog_14_method_65_code
def yX12_shown : MethodName := ⟨RX12, "shown", "(II)I"⟩
abbrev cX12_guessed : ByteArray := prog_14_method_66_code
def yX12_guessed : MethodName := ⟨RX12, "guessed", "(I)I"⟩
abbrev cX12_deal : ByteArray := prog_14_method_67_code
def yX12_deal : MethodName := ⟨RX12, "deal", "(II)I"⟩
abbrev cX12_packed : ByteArray := prog_14_method_68_code
def yX12_packed : MethodName := ⟨RX12, "packed", "(II)I"⟩
abbrev cX12_bits : ByteArray := prog_14_method_69_code
def yX12_bits : MethodName := ⟨RX12, "bits", "(I)I"⟩
abbrev cX12_dealsAlike : ByteArray := prog_14_method_70_code
def yX12_dealsAlike : MethodName := ⟨RX12, "dealsAlike", "(III)Z"⟩
abbrev cX12_ends_ : ByteArray := prog_14_method_71_code
def yX12_ends_ : MethodName := ⟨RX12, "ends", "()V"⟩
abbrev cX12_isNeither : ByteArray := prog_14_method_72_code
def yX12_isNeither : MethodName := ⟨RX12, "isNeither", "(II)Z"⟩
abbrev cX12_writes : ByteArray := prog_14_method_73_code
def yX12_writes : MethodName := ⟨RX12, "writes", "()I"⟩
abbrev cX12_written : ByteArray := prog_14_method_74_code
def yX12_written : MethodName := ⟨RX12, "written", "(I)I"⟩
abbrev cX12_worst : ByteArray := prog_14_method_75_code
def yX12_worst : MethodName := ⟨RX12, "worst", "(I)I"⟩
abbrev cX12_placeBehind : ByteArray := prog_14_method_76_code
def yX12_placeBehind : MethodName := ⟨RX12, "placeBehind", "(I)I"⟩
abbrev cX12_falls : ByteArray := prog_14_method_77_code
def yX12_falls : MethodName := ⟨RX12, "falls", "(I)I"⟩
abbrev cX12_needs : ByteArray := prog_14_method_78_code
def yX12_needs : MethodName := ⟨RX12, "needs", "(III)I"⟩
abbrev cX12_worth : ByteArray := prog_14_method_79_code
def yX12_worth : MethodName := ⟨RX12, "worth", "(III)I"⟩
abbrev cX12_hasRoom : ByteArray := prog_14_method_80_code
def yX12_hasRoom : MethodName := ⟨RX12, "hasRoom", "(I)Z"⟩
abbrev cX12_kept : ByteArray := prog_14_method_81_code
def yX12_kept : MethodName := ⟨RX12, "kept", "(I)I"⟩
abbrev cX12_counts_ : ByteArray := prog_14_method_82_code
def yX12_counts_ : MethodName := ⟨RX12, "counts", "(IIZI)I"⟩
abbrev cX12_liars : ByteArray := prog_14_method_83_code
def yX12_liars : MethodName := ⟨RX12, "liars", "()I"⟩
abbrev cX12_alike : ByteArray := prog_14_method_84_code
def yX12_alike : MethodName := ⟨RX12, "alike", "(III)I"⟩
abbrev cX12_isOfField : ByteArray := prog_14_method_85_code
def yX12_isOfField : MethodName := ⟨RX12, "isOfField", "(II)Z"⟩
abbrev cX12_plus : ByteArray := prog_14_method_86_code
def yX12_plus : MethodName := ⟨RX12, "plus", "(IIZ)I"⟩
abbrev cX12_then : ByteArray := prog_14_method_87_code
def yX12_then : MethodName := ⟨RX12, "then", "(IIZ)I"⟩
abbrev cX12_star : ByteArray := prog_14_method_88_code
def yX12_star : MethodName := ⟨RX12, "star", "(IZ)I"⟩
abbrev cX12_root : ByteArray := prog_14_method_89_code
def yX12_root : MethodName := ⟨RX12, "root", "(IZ)I"⟩
abbrev cX12_later : ByteArray := prog_14_method_90_code
def yX12_later : MethodName := ⟨RX12, "later", "(I)V"⟩
abbrev cX12_laterNode : ByteArray := prog_14_method_91_code
def yX12_laterNode : MethodName := ⟨RX12, "laterNode", "(IZ)V"⟩
abbrev cX12_put1 : ByteArray := prog_14_method_92_code
def yX12_put1 : MethodName := ⟨RX12, "put1", "(I)V"⟩
abbrev cX12_tells : ByteArray := prog_14_method_93_code
def yX12_tells : MethodName := ⟨RX12, "tells", "(I)V"⟩
abbrev cX12_tell : ByteArray := prog_14_method_94_code
def yX12_tell : MethodName := ⟨RX12, "tell", "(IZ)I"⟩
abbrev cX12_octet : ByteArray := prog_14_method_95_code
def yX12_octet : MethodName := ⟨RX12, "octet", "(I)I"⟩
abbrev cX12_cable : ByteArray := prog_14_method_96_code
def yX12_cable : MethodName := ⟨RX12, "cable", "(II)I"⟩
abbrev cX12_edges : ByteArray := prog_14_method_97_code
def yX12_edges : MethodName := ⟨RX12, "edges", "(I)I"⟩
abbrev cX12_reached : ByteArray := prog_14_method_98_code
def yX12_reached : MethodName := ⟨RX12, "reached", "(II)I"⟩
abbrev cX12_isKnown : ByteArray := prog_14_method_99_code
def yX12_isKnown : MethodName := ⟨RX12, "isKnown", "(II)Z"⟩
abbrev cX12_isCables : ByteArray := prog_14_method_100_code
def yX12_isCables : MethodName := ⟨RX12, "isCables", "(I)Z"⟩
abbrev cX12_known : ByteArray := prog_14_method_101_code
def yX12_known : MethodName := ⟨RX12, "known", "(I)I"⟩
abbrev cX12_taps : ByteArray := prog_14_method_102_code
def yX12_taps : MethodName := ⟨RX12, "taps", "(I)I"⟩
abbrev cX12_rightFor : ByteArray := prog_14_method_103_code
def yX12_rightFor : MethodName := ⟨RX12, "rightFor", "(II)I"⟩
abbrev cX12_anys : ByteArray := prog_14_method_104_code
def yX12_anys : MethodName := ⟨RX12, "anys", "(I)I"⟩
abbrev cX12_coverOf : ByteArray := prog_14_method_105_code
def yX12_coverOf : MethodName := ⟨RX12, "coverOf", "(I)J"⟩
abbrev cX12_make : ByteArray := prog_14_method_106_code
def yX12_make : MethodName := ⟨RX12, "make", "(III)I"⟩
abbrev cX12_rows : ByteArray := prog_14_method_107_code
def yX12_rows : MethodName := ⟨RX12, "rows", "(IIII)I"⟩
abbrev cX12_write : ByteArray := prog_14_method_108_code
def yX12_write : MethodName := ⟨RX12, "write", "(II)I"⟩
abbrev cX12_asTold : ByteArray := prog_14_method_109_code
def yX12_asTold : MethodName := ⟨RX12, "asTold", "()V"⟩
abbrev cX12_seenAs : ByteArray := prog_14_method_110_code
def yX12_seenAs : MethodName := ⟨RX12, "seenAs", "(II)I"⟩
abbrev cX12_seen : ByteArray := prog_14_method_111_code
def yX12_seen : MethodName := ⟨RX12, "seen", "(II)I"⟩
abbrev cX12_endsByTicks : ByteArray := prog_14_method_112_code
def yX12_endsByTicks : MethodName := ⟨RX12, "endsByTicks", "()V"⟩
abbrev cX12_neither : ByteArray := prog_14_method_113_code
def yX12_neither : MethodName := ⟨RX12, "neither", "(II)I"⟩
abbrev cX12_gap : ByteArray := prog_14_method_114_code
def yX12_gap : MethodName := ⟨RX12, "gap", "()I"⟩
abbrev cX12_count : ByteArray := prog_14_method_115_code
def yX12_count : MethodName := ⟨RX12, "count", "(I)I"⟩
def RJ6 : String := "java/lang/Integer"
abbrev cJ6_bitCount_0f7a4 : ByteArray := prog_15_method_49_code
def yJ6_bitCount_0f7a4 : MethodName := ⟨RJ6, "bitCount", "(I)I"⟩
def RJ13 : String := "java/lang/Long"
abbrev cJ13_bitCount_95d88 : ByteArray := prog_16_method_50_code
def yJ13_bitCount_95d88 : MethodName := ⟨RJ13, "bitCount", "(J)I"⟩
def RJ9 : String := "java/lang/Math"
abbrev cJ9_max_7cf53 : ByteArray := prog_17_method_65_code
def yJ9_max_7cf53 : MethodName := ⟨RJ9, "max", "(II)I"⟩
abbrev cJ9_min_7cf53 : ByteArray := prog_17_method_69_code
def yJ9_min_7cf53 : MethodName := ⟨RJ9, "min", "(II)I"⟩
def RJ10 : String := "java/lang/System"
def RJ7 : String := "java/util/Arrays"
abbrev cJ7_fill_d0a16 : ByteArray := prog_19_method_101_code
def yJ7_fill_d0a16 : MethodName := ⟨RJ7, "fill", "([JJ)V"⟩
abbrev cJ7_fill_53178 : ByteArray := prog_19_method_103_code
def yJ7_fill_53178 : MethodName := ⟨RJ7, "fill", "([II)V"⟩
def RL : String := "WishWaysLaw"
abbrev cL_law : ByteArray := code
def yL_law : MethodName := ⟨RL, "law", "([I)Z"⟩
abbrev vwCl : List vw_C := [(RX0, TX0, 4), (RX1, TX1, 7), (RX2, TX2, 3), (RX3, TX3, 7), (RX4, TX4, 12), (RX5, TX5, 11), (RX6, TX6, 7), (RX7, TX7, 6), (RX8, TX8, 4), (RX9, TX9, 4), (RX10, TX10, 5), (RX11, TX11, 14), (RX12, TX12, 79)]

theorem goodIn_r {big : List Cond} (ws : List Cond) (ps : List Nat) (hp : ws = ps.filterMap (fun i => big[i]?)) (h : ws.all goodWord = true) : GoodIn big ws := by
  intro w hw
  have h1 := List.all_eq_true.mp h w hw
  rw [hp] at hw
  obtain ⟨i, -, hi⟩ := List.mem_filterMap.mp hw
  have hm : w ∈ big := by first | exact List.mem_of_getElem? hi | exact List.getElem?_mem hi
  exact ⟨hm, good_of_word h1⟩
theorem goodIn_app {big a b : List Cond} (ha : GoodIn big a) (hb : GoodIn big b) : GoodIn big (a ++ b) := fun w h => (List.mem_append.mp h).elim (ha w) (hb w)
theorem goodIn_ca {big a b : List Cond} {c : Cond} (ha : GoodIn big (c :: a)) (hb : GoodIn big b) : GoodIn big (c :: (a ++ b)) := fun w h => (List.mem_cons.mp h).elim (fun e => ha w (List.mem_cons.mpr (Or.inl e))) (fun h => (List.mem_append.mp h).elim (fun h => ha w (List.mem_cons.mpr (Or.inr h))) (hb w))
theorem goodIn_sub {big ws : List Cond} (hm : ∀ w ∈ ws, w ∈ big) (h : ws.all goodWord = true) : GoodIn big ws := fun w hw => ⟨hm w hw, good_of_word (List.all_eq_true.mp h w hw)⟩
end
section
theorem mem_r {big : List Cond} (ws : List Cond) (ps : List Nat) (hp : ws = ps.filterMap (fun i => big[i]?)) : ∀ w ∈ ws, w ∈ big := by
  intro w hw
  rw [hp] at hw
  obtain ⟨i, -, hi⟩ := List.mem_filterMap.mp hw
  exact List.mem_of_getElem? hi
def cnm : Nat → String := fun k => if k = 0 then RX0 else if k = 1 then RX1 else if k = 2 then RX2 else if k = 3 then RX3 else if k = 4 then RX4 else if k = 5 then RX5 else if k = 6 then RX6 else if k = 7 then RX7 else if k = 8 then RX8 else if k = 9 then RX9 else if k = 10 then RX10 else if k = 11 then RX11 else if k = 12 then RX12 else if k = 13 then RL else if k = 14 then RJ6 else if k = 15 then RJ13 else if k = 16 then RJ7 else ""
def fTb : Nat → u_T := fun k => if k = 0 then TX0 else if k = 1 then TX1 else if k = 2 then TX2 else if k = 3 then TX3 else if k = 4 then TX4 else if k = 5 then TX5 else if k = 6 then TX6 else if k = 7 then TX7 else if k = 8 then TX8 else if k = 9 then TX9 else if k = 10 then TX10 else if k = 11 then TX11 else if k = 12 then TX12 else fun _ => ("", "", "", false)
def fTy : Nat → Nat → FieldType := fun k => if k = 0 then tyX0 else if k = 1 then tyX1 else if k = 2 then tyX2 else if k = 3 then tyX3 else if k = 4 then tyX4 else if k = 5 then tyX5 else if k = 6 then tyX6 else if k = 7 then tyX7 else if k = 8 then tyX8 else if k = 9 then tyX9 else if k = 10 then tyX10 else if k = 11 then tyX11 else if k = 12 then tyX12 else fun _ => .int
def nFl : Nat → Nat := fun k => [4, 7, 3, 7, 12, 11, 7, 6, 4, 4, 5, 14, 79].getD k 0
def fKd0 : List Nat := [17, 17, 0, 0]
def fKd1 : List Nat := [17, 17, 17, 0, 0, 17, 17]
def fKd2 : List Nat := [22, 18, 0]
def fKd3 : List Nat := [20, 2, 0, 17, 0, 18, 17]
def fKd4 : List Nat := [12, 17, 17, 17, 0, 0, 0, 0, 0, 0, 0, 1]
def fKd5 : List Nat := [6, 17, 17, 0, 17, 17, 17, 17, 17, 17, 17]
def fKd6 : List Nat := [6, 17, 0, 0, 18, 0, 17]
def fKd7 : List Nat := [17, 17, 17, 0, 17, 17]
def fKd8 : List Nat := [17, 0, 12, 17]
def fKd9 : List Nat := [17, 17, 17, 0]
def fKd10 : List Nat := [0, 12, 18, 17, 0]
def fKd11 : List Nat := [17, 0, 21, 0, 17, 17, 7, 5, 11, 6, 8, 9, 4, 3]
def fKd12 : List Nat := [0, 0, 0, 0, 0, 0, 0, 0, 0, 16, 17, 17, 17, 17, 17, 17, 17, 0, 1, 18, 18, 18, 17, 17, 17, 17, 17, 17, 17, 17, 17, 17, 19, 0, 0, 17, 17, 0, 0, 0, 0, 0, 18, 17, 17, 17, 17, 17, 19, 19, 17, 0, 17, 17, 0, 17, 17, 17, 17, 17, 17, 17, 17, 17, 0, 16, 17, 0, 0, 0, 0, 17, 17, 17, 17, 17, 17, 17, 17]
def fKdL : List (List Nat) := [fKd0, fKd1, fKd2, fKd3, fKd4, fKd5, fKd6, fKd7, fKd8, fKd9, fKd10, fKd11, fKd12]
def fKd (c k : Nat) : Nat := (fKdL.getD c []).getD k 0
def mInf : List (MethodName × ByteArray × Option FieldType × Nat) := [(yX0_init, cX0_init, none, 0),
  (yX0_lay, cX0_lay, (some .int), 0),
  (yX0_areThere, cX0_areThere, (some .boolean), 0),
  (yX0_knownWith, cX0_knownWith, (some .int), 0),
  (yX0_isOnRing, cX0_isOnRing, (some .boolean), 0),
  (yX0_groupOf, cX0_groupOf, (some .int), 0),
  (yX0_fewestTaps, cX0_fewestTaps, (some .int), 0),
  (yX1_init, cX1_init, none, 1),
  (yX1_setRoom, cX1_setRoom, (some .int), 1),
  (yX1_choose, cX1_choose, none, 1),
  (yX1_chooseFrom, cX1_chooseFrom, none, 1),
  (yX1_hasRoomFor, cX1_hasRoomFor, (some .boolean), 1),
  (yX1_changeRoom, cX1_changeRoom, none, 1),
  (yX1_consider, cX1_consider, none, 1),
  (yX1_tellCount, cX1_tellCount, (some .int), 1),
  (yX1_fewestLiars, cX1_fewestLiars, (some .int), 1),
  (yX1_explain, cX1_explain, (some .boolean), 1),
  (yX2_init, cX2_init, none, 2),
  (yX2_relationOf, cX2_relationOf, (some (.array .long)), 2),
  (yX2_takeNode, cX2_takeNode, none, 2),
  (yX2_pushEmpty, cX2_pushEmpty, (some .boolean), 2),
  (yX2_joinTop, cX2_joinTop, none, 2),
  (yX2_fillAtom, cX2_fillAtom, none, 2),
  (yX2_mark, cX2_mark, none, 2),
  (yX2_unite, cX2_unite, none, 2),
  (yX2_follow, cX2_follow, none, 2),
  (yX2_addRows, cX2_addRows, none, 2),
  (yX2_close, cX2_close, none, 2),
  (yX2_sumUpOthers, cX2_sumUpOthers, none, 2),
  (yX2_goOnBy, cX2_goOnBy, none, 2),
  (yX2_isEmptyRow, cX2_isEmptyRow, (some .boolean), 2),
  (yX3_init, cX3_init, none, 3),
  (yX3_tableAt, cX3_tableAt, (some (.object "WishWays$Table")), 3),
  (yX3_countRows, cX3_countRows, (some .int), 3),
  (yX3_unlikeBoxes, cX3_unlikeBoxes, (some .int), 3),
  (yX3_takeNewTables, cX3_takeNewTables, none, 3),
  (yX3_lineBit, cX3_lineBit, (some .long), 3),
  (yX3_setFallen, cX3_setFallen, (some .boolean), 3),
  (yX3_isEntry, cX3_isEntry, (some .boolean), 3),
  (yX3_step, cX3_step, (some .int), 3),
  (yX3_goesOn, cX3_goesOn, (some .boolean), 3),
  (yX3_endBy, cX3_endBy, (some .int), 3),
  (yX3_versionOf, cX3_versionOf, (some .int), 3),
  (yX3_follow, cX3_follow, (some .int), 3),
  (yX3_keepRow, cX3_keepRow, none, 3),
  (yX3_endsBy, cX3_endsBy, (some (.array .int)), 3),
  (yX3_fillEnds, cX3_fillEnds, none, 3),
  (yX3_settle, cX3_settle, none, 3),
  (yX3_firstUnlike, cX3_firstUnlike, (some .int), 3),
  (yX4_init, cX4_init, none, 4),
  (yX4_read, cX4_read, (some .int), 4),
  (yX4_readAhead, cX4_readAhead, (some .boolean), 4),
  (yX4_openBracket, cX4_openBracket, none, 4),
  (yX4_readConstant, cX4_readConstant, none, 4),
  (yX4_readUnless, cX4_readUnless, none, 4),
  (yX4_readTestOrChange, cX4_readTestOrChange, none, 4),
  (yX4_readValue, cX4_readValue, none, 4),
  (yX4_readBehind, cX4_readBehind, (some .boolean), 4),
  (yX4_joinWaiting, cX4_joinWaiting, none, 4),
  (yX4_joinOperands, cX4_joinOperands, none, 4),
  (yX4_starOperand, cX4_starOperand, none, 4),
  (yX4_pushOperand, cX4_pushOperand, none, 4),
  (yX4_pushSign, cX4_pushSign, none, 4),
  (yX4_countAtom, cX4_countAtom, none, 4),
  (yX4_fail, cX4_fail, none, 4),
  (yX4_skipBlanks, cX4_skipBlanks, none, 4),
  (yX4_signHere, cX4_signHere, (some .int), 4),
  (yX4_isDigit, cX4_isDigit, (some .boolean), 4),
  (yX4_isLetter, cX4_isLetter, (some .boolean), 4),
  (yX4_digitsHere, cX4_digitsHere, (some .int), 4),
  (yX4_wordHere, cX4_wordHere, (some .int), 4),
  (yX4_fieldHere, cX4_fieldHere, (some .int), 4),
  (yX5_init, cX5_init, none, 5),
  (yX5_findOrder, cX5_findOrder, (some .int), 5),
  (yX5_leadsOn, cX5_leadsOn, (some .boolean), 5),
  (yX5_isSafe, cX5_isSafe, (some .boolean), 5),
  (yX5_isNeither, cX5_isNeither, (some .boolean), 5),
  (yX5_versionIn, cX5_versionIn, (some .int), 5),
  (yX5_watch, cX5_watch, (some .int), 5),
  (yX5_countNeither, cX5_countNeither, (some .int), 5),
  (yX5_findGap, cX5_findGap, (some .int), 5),
  (yX5_settleAll, cX5_settleAll, none, 5),
  (yX5_isQuiet, cX5_isQuiet, (some .boolean), 5),
  (yX5_writtenBy, cX5_writtenBy, (some .int), 5),
  (yX5_goBackTo, cX5_goBackTo, none, 5),
  (yX5_isQuietAhead, cX5_isQuietAhead, (some .boolean), 5),
  (yX6_init, cX6_init, none, 6),
  (yX6_strike, cX6_strike, (some .int), 6),
  (yX6_considerPairs, cX6_considerPairs, none, 6),
  (yX6_consider, cX6_consider, none, 6),
  (yX6_isAmong, cX6_isAmong, (some .boolean), 6),
  (yX6_linesInUse, cX6_linesInUse, (some .long), 6),
  (yX6_keepTrails, cX6_keepTrails, none, 6),
  (yX6_trailOf, cX6_trailOf, (some .long), 6),
  (yX6_countHit, cX6_countHit, (some .int), 6),
  (yX7_init, cX7_init, none, 7),
  (yX7_add, cX7_add, (some .int), 7),
  (yX7_clear, cX7_clear, none, 7),
  (yX7_takeFrom, cX7_takeFrom, none, 7),
  (yX7_isAlike, cX7_isAlike, (some .boolean), 7),
  (yX7_toldOf, cX7_toldOf, (some .int), 7),
  (yX7_isMatch, cX7_isMatch, (some .boolean), 7),
  (yX7_deedOf, cX7_deedOf, (some .int), 7),
  (yX7_fewestRows, cX7_fewestRows, (some .int), 7),
  (yX7_packetsOf, cX7_packetsOf, (some .long), 7),
  (yX7_alikeBy, cX7_alikeBy, (some .long), 7),
  (yX7_dealAlike, cX7_dealAlike, (some .boolean), 7),
  (yX7_remake, cX7_remake, (some .int), 7),
  (yX7_coverAll, cX7_coverAll, (some .boolean), 7),
  (yX7_howManyTold, cX7_howManyTold, (some .int), 7),
  (yX7_rightRow, cX7_rightRow, (some .int), 7),
  (yX7_isOneFor, cX7_isOneFor, (some .boolean), 7),
  (yX7_staysFor, cX7_staysFor, (some .boolean), 7),
  (yX8_init, cX8_init, none, 8),
  (yX8_putAll, cX8_putAll, (some .int), 8),
  (yX8_putShorter, cX8_putShorter, (some .int), 8),
  (yX8_put, cX8_put, none, 8),
  (yX8_putBare, cX8_putBare, none, 8),
  (yX8_putAtom, cX8_putAtom, none, 8),
  (yX8_putByte, cX8_putByte, none, 8),
  (yX8_bindingOf, cX8_bindingOf, (some .int), 8),
  (yX8_shorten, cX8_shorten, (some .int), 8),
  (yX8_shortStar, cX8_shortStar, (some .int), 8),
  (yX8_shortEither, cX8_shortEither, (some .int), 8),
  (yX8_shortThen, cX8_shortThen, (some .int), 8),
  (yX8_isPlain, cX8_isPlain, (some .boolean), 8),
  (yX8_shortField, cX8_shortField, (some .int), 8),
  (yX9_init, cX9_init, none, 9),
  (yX9_add, cX9_add, (some .int), 9),
  (yX9_findOrAdd, cX9_findOrAdd, (some .int), 9),
  (yX9_copied, cX9_copied, (some (.object "WishWays$Tree")), 9),
  (yX10_init, cX10_init, none, 10),
  (yX10_howMany, cX10_howMany, (some .int), 10),
  (yX10_pick, cX10_pick, (some .int), 10),
  (yX10_kthBit, cX10_kthBit, (some .int), 10),
  (yX10_holds, cX10_holds, (some .boolean), 10),
  (yX10_makesNone, cX10_makesNone, (some .boolean), 10),
  (yX10_makesJust, cX10_makesJust, (some .boolean), 10),
  (yX10_partsBy, cX10_partsBy, (some .int), 10),
  (yX10_isInside, cX10_isInside, (some .boolean), 10),
  (yX11_init, cX11_init, none, 11),
  (yX11_feed, cX11_feed, (some .int), 11),
  (yX11_takeBytes, cX11_takeBytes, none, 11),
  (yX11_end, cX11_end, (some .int), 11),
  (yX11_wish, cX11_wish, (some .int), 11),
  (yX11_makes, cX11_makes, (some .int), 11),
  (yX11_of, cX11_of, (some .int), 11),
  (yX11_parts, cX11_parts, (some .int), 11),
  (yX11_within, cX11_within, (some .int), 11),
  (yX11_right, cX11_right, (some .boolean), 11),
  (yX11_breaks, cX11_breaks, (some .int), 11),
  (yX11_mayTouch, cX11_mayTouch, (some .boolean), 11),
  (yX11_quarrel, cX11_quarrel, (some .int), 11),
  (yX11_rank, cX11_rank, (some .int), 11),
  (yX11_joined, cX11_joined, (some .int), 11),
  (yX11_firstByRank, cX11_firstByRank, (some .int), 11),
  (yX11_row, cX11_row, (some .int), 11),
  (yX11_erase, cX11_erase, (some .int), 11),
  (yX11_renew, cX11_renew, (some .int), 11),
  (yX11_line, cX11_line, (some .boolean), 11),
  (yX11_entries, cX11_entries, (some .int), 11),
  (yX11_ends, cX11_ends, (some .int), 11),
  (yX11_way, cX11_way, (some .int), 11),
  (yX11_shown, cX11_shown, (some .int), 11),
  (yX11_guessed, cX11_guessed, (some .int), 11),
  (yX11_packed, cX11_packed, (some .int), 11),
  (yX11_writes, cX11_writes, (some .int), 11),
  (yX11_written, cX11_written, (some .int), 11),
  (yX11_worst, cX11_worst, (some .int), 11),
  (yX11_falls, cX11_falls, (some .int), 11),
  (yX11_needs, cX11_needs, (some .int), 11),
  (yX11_worth, cX11_worth, (some .int), 11),
  (yX11_kept, cX11_kept, (some .int), 11),
  (yX11_counts, cX11_counts, (some .int), 11),
  (yX11_liars, cX11_liars, (some .int), 11),
  (yX11_tell, cX11_tell, (some .int), 11),
  (yX11_octet, cX11_octet, (some .int), 11),
  (yX11_cable, cX11_cable, (some .int), 11),
  (yX11_edges, cX11_edges, (some .int), 11),
  (yX11_known, cX11_known, (some .int), 11),
  (yX11_taps, cX11_taps, (some .int), 11),
  (yX11_make, cX11_make, (some .int), 11),
  (yX11_rows, cX11_rows, (some .int), 11),
  (yX11_write, cX11_write, (some .int), 11),
  (yX11_seen, cX11_seen, (some .int), 11),
  (yX11_neither, cX11_neither, (some .int), 11),
  (yX11_gap, cX11_gap, (some .int), 11),
  (yX11_count, cX11_count, (some .int), 11),
  (yX11_wishAt, cX11_wishAt, (some (.object "WishWays$Wish")), 11),
  (yX11_upTo, cX11_upTo, (some .boolean), 11),
  (yX11_isPacket, cX11_isPacket, (some .boolean), 11),
  (yX11_isBox, cX11_isBox, (some .boolean), 11),
  (yX11_isTick, cX11_isTick, (some .boolean), 11),
  (yX11_isLine, cX11_isLine, (some .boolean), 11),
  (yX11_hasBit, cX11_hasBit, (some .boolean), 11),
  (yX11_lowestBit, cX11_lowestBit, (some .int), 11),
  (yX11_valueOf, cX11_valueOf, (some .int), 11),
  (yX11_changed, cX11_changed, (some .int), 11),
  (yX12_init, cX12_init, none, 12),
  (yX12_in, cX12_in, (some .boolean), 12),
  (yX12_isPacket, cX12_isPacket, (some .boolean), 12),
  (yX12_isPlace, cX12_isPlace, (some .boolean), 12),
  (yX12_fieldOf, cX12_fieldOf, (some .int), 12),
  (yX12_with, cX12_with, (some .int), 12),
  (yX12_feed, cX12_feed, (some .int), 12),
  (yX12_put, cX12_put, none, 12),
  (yX12_end, cX12_end, (some .int), 12),
  (yX12_fails, cX12_fails, none, 12),
  (yX12_sign, cX12_sign, (some .int), 12),
  (yX12_blanks, cX12_blanks, none, 12),
  (yX12_isDigit, cX12_isDigit, (some .boolean), 12),
  (yX12_isLetter, cX12_isLetter, (some .boolean), 12),
  (yX12_node, cX12_node, none, 12),
  (yX12_join, cX12_join, none, 12),
  (yX12_top, cX12_top, (some .int), 12),
  (yX12_counts, cX12_counts, none, 12),
  (yX12_field, cX12_field, (some .int), 12),
  (yX12_number, cX12_number, (some .int), 12),
  (yX12_atom, cX12_atom, none, 12),
  (yX12_wanted, cX12_wanted, (some .boolean), 12),
  (yX12_makes, cX12_makes, none, 12),
  (yX12_behind, cX12_behind, (some .boolean), 12),
  (yX12_wish, cX12_wish, (some .int), 12),
  (yX12_works, cX12_works, none, 12),
  (yX12_leaf, cX12_leaf, none, 12),
  (yX12_follows, cX12_follows, none, 12),
  (yX12_closes, cX12_closes, none, 12),
  (yX12_isWish, cX12_isWish, (some .boolean), 12),
  (yX12_makesOf, cX12_makesOf, (some .boolean), 12),
  (yX12_kth, cX12_kth, (some .int), 12),
  (yX12_many, cX12_many, (some .int), 12),
  (yX12_makes_, cX12_makes_, (some .int), 12),
  (yX12_of, cX12_of, (some .int), 12),
  (yX12_unlike, cX12_unlike, (some .int), 12),
  (yX12_parts, cX12_parts, (some .int), 12),
  (yX12_within, cX12_within, (some .int), 12),
  (yX12_isHouse, cX12_isHouse, (some .boolean), 12),
  (yX12_right, cX12_right, (some .boolean), 12),
  (yX12_breaks, cX12_breaks, (some .int), 12),
  (yX12_quarrel, cX12_quarrel, (some .int), 12),
  (yX12_rank, cX12_rank, (some .int), 12),
  (yX12_joined, cX12_joined, (some .int), 12),
  (yX12_isTable, cX12_isTable, (some .boolean), 12),
  (yX12_row, cX12_row, (some .int), 12),
  (yX12_erase, cX12_erase, (some .int), 12),
  (yX12_isUnlike, cX12_isUnlike, (some .boolean), 12),
  (yX12_unlikeMany, cX12_unlikeMany, (some .int), 12),
  (yX12_renew, cX12_renew, (some .int), 12),
  (yX12_line, cX12_line, (some .boolean), 12),
  (yX12_entries, cX12_entries, (some .int), 12),
  (yX12_isField, cX12_isField, (some .boolean), 12),
  (yX12_matches, cX12_matches, (some .boolean), 12),
  (yX12_set, cX12_set, (some .int), 12),
  (yX12_rowFor, cX12_rowFor, (some .int), 12),
  (yX12_step, cX12_step, (some .int), 12),
  (yX12_endsAs, cX12_endsAs, (some .int), 12),
  (yX12_ends, cX12_ends, (some .int), 12),
  (yX12_way, cX12_way, (some .int), 12),
  (yX12_enters, cX12_enters, (some .boolean), 12),
  (yX12_isShown, cX12_isShown, (some .boolean), 12),
  (yX12_shownBut, cX12_shownBut, (some .int), 12),
  (yX12_shown, cX12_shown, (some .int), 12),
  (yX12_guessed, cX12_guessed, (some .int), 12),
  (yX12_deal, cX12_deal, (some .int), 12),
  (yX12_packed, cX12_packed, (some .int), 12),
  (yX12_bits, cX12_bits, (some .int), 12),
  (yX12_dealsAlike, cX12_dealsAlike, (some .boolean), 12),
  (yX12_ends_, cX12_ends_, none, 12),
  (yX12_isNeither, cX12_isNeither, (some .boolean), 12),
  (yX12_writes, cX12_writes, (some .int), 12),
  (yX12_written, cX12_written, (some .int), 12),
  (yX12_worst, cX12_worst, (some .int), 12),
  (yX12_placeBehind, cX12_placeBehind, (some .int), 12),
  (yX12_falls, cX12_falls, (some .int), 12),
  (yX12_needs, cX12_needs, (some .int), 12),
  (yX12_worth, cX12_worth, (some .int), 12),
  (yX12_hasRoom, cX12_hasRoom, (some .boolean), 12),
  (yX12_kept, cX12_kept, (some .int), 12),
  (yX12_counts_, cX12_counts_, (some .int), 12),
  (yX12_liars, cX12_liars, (some .int), 12),
  (yX12_alike, cX12_alike, (some .int), 12),
  (yX12_isOfField, cX12_isOfField, (some .boolean), 12),
  (yX12_plus, cX12_plus, (some .int), 12),
  (yX12_then, cX12_then, (some .int), 12),
  (yX12_star, cX12_star, (some .int), 12),
  (yX12_root, cX12_root, (some .int), 12),
  (yX12_later, cX12_later, none, 12),
  (yX12_laterNode, cX12_laterNode, none, 12),
  (yX12_put1, cX12_put1, none, 12),
  (yX12_tells, cX12_tells, none, 12),
  (yX12_tell, cX12_tell, (some .int), 12),
  (yX12_octet, cX12_octet, (some .int), 12),
  (yX12_cable, cX12_cable, (some .int), 12),
  (yX12_edges, cX12_edges, (some .int), 12),
  (yX12_reached, cX12_reached, (some .int), 12),
  (yX12_isKnown, cX12_isKnown, (some .boolean), 12),
  (yX12_isCables, cX12_isCables, (some .boolean), 12),
  (yX12_known, cX12_known, (some .int), 12),
  (yX12_taps, cX12_taps, (some .int), 12),
  (yX12_rightFor, cX12_rightFor, (some .int), 12),
  (yX12_anys, cX12_anys, (some .int), 12),
  (yX12_coverOf, cX12_coverOf, (some .long), 12),
  (yX12_make, cX12_make, (some .int), 12),
  (yX12_rows, cX12_rows, (some .int), 12),
  (yX12_write, cX12_write, (some .int), 12),
  (yX12_asTold, cX12_asTold, none, 12),
  (yX12_seenAs, cX12_seenAs, (some .int), 12),
  (yX12_seen, cX12_seen, (some .int), 12),
  (yX12_endsByTicks, cX12_endsByTicks, none, 12),
  (yX12_neither, cX12_neither, (some .int), 12),
  (yX12_gap, cX12_gap, (some .int), 12),
  (yX12_count, cX12_count, (some .int), 12),
  (yJ6_bitCount_0f7a4, cJ6_bitCount_0f7a4, (some .int), 14),
  (yJ13_bitCount_95d88, cJ13_bitCount_95d88, (some .int), 15),
  (yJ7_fill_d0a16, cJ7_fill_d0a16, none, 16),
  (yJ7_fill_53178, cJ7_fill_53178, none, 16),
  (yL_law, cL_law, (some .boolean), 13)]
def mI (i : Nat) : MethodName × ByteArray × Option FieldType × Nat := mInf.getD i (yL_law, cL_law, none, 13)
def mHd : List (List Nat) := [[0],
  [0, 11],
  [0],
  [0, 4, 35, 41],
  [0, 14, 24, 86, 87, 89, 95, 101],
  [0, 18, 21],
  [0, 11, 49, 55],
  [0],
  [0],
  [0, 42, 73],
  [0, 14, 31, 90],
  [0, 2, 25, 31],
  [0, 2, 31],
  [0, 45, 55],
  [0, 11, 15],
  [0, 6, 34, 40],
  [0, 2, 47, 53],
  [0],
  [0, 7, 27, 39],
  [0, 52, 64, 72, 106],
  [0, 11, 44, 57],
  [0, 9, 52, 75],
  [0, 5, 8, 30, 31, 54, 70, 71, 74, 82, 88],
  [0],
  [0, 2, 24],
  [0, 2, 20, 51, 57, 75],
  [0, 9, 32, 63, 78],
  [0, 7, 40, 46, 48, 67],
  [0, 10, 25, 73, 75, 83, 89],
  [0, 14, 16, 46, 74, 80],
  [0, 2, 20, 26],
  [0, 15, 40],
  [0, 29, 30],
  [0, 4, 33],
  [0, 4, 36, 39, 47],
  [0, 2, 34, 40],
  [0],
  [0, 22, 34, 51, 52],
  [0],
  [0, 49, 76],
  [0, 15, 16],
  [0, 15, 17],
  [0],
  [0, 18, 50, 104, 113],
  [0, 55, 62, 73],
  [0],
  [0, 8, 38, 44],
  [0, 6, 57, 73, 87, 91, 99, 150],
  [0, 2, 38, 48, 50, 56],
  [0],
  [0, 63, 101, 105, 112],
  [0, 17, 32, 45, 49],
  [0, 19],
  [0, 14, 24, 53, 54],
  [0, 42, 78],
  [0, 20, 72, 93, 94],
  [0, 26, 46, 56],
  [0, 27, 39, 61, 115, 127, 138],
  [0, 5, 36, 37, 56, 58, 67],
  [0, 9],
  [0, 38],
  [0, 45],
  [0, 29],
  [0, 25],
  [0, 19],
  [0, 5, 37],
  [0, 23, 24],
  [0, 16, 17],
  [0, 16, 17],
  [0, 10, 40],
  [0, 10, 40],
  [0, 26, 57, 58],
  [0],
  [0, 55],
  [0, 11, 20, 21, 22, 25, 95, 103, 109],
  [0, 11, 42, 48],
  [0, 24, 25],
  [0, 14, 15],
  [0, 5, 52, 61],
  [0, 5, 28, 32, 40, 70, 115, 118, 124, 134, 135],
  [0, 9, 13, 38, 81, 83, 99, 105],
  [0, 2, 17, 57, 76, 80, 102, 104, 111],
  [0, 27, 72, 78],
  [0, 5, 35, 36, 44],
  [0, 2, 52, 56, 91, 92, 99],
  [0, 2, 26, 31, 54, 60],
  [0],
  [0, 15, 32, 73, 82, 88],
  [0, 5, 37, 43],
  [0, 27],
  [0, 14, 15],
  [0, 4, 24, 64, 70, 76],
  [0, 16, 64, 70],
  [0, 8, 38, 70, 80],
  [0, 12, 43, 50, 84, 90],
  [0],
  [0, 11, 44, 99, 105],
  [0],
  [0],
  [0, 13, 15, 68, 70, 76],
  [0, 11, 24, 27],
  [0, 2, 30, 36],
  [0, 14, 19, 54, 60],
  [0, 15, 42, 43, 51, 54, 97, 116, 161, 167],
  [0, 4, 25, 26, 34],
  [0, 6, 50, 56],
  [0, 8, 49, 62, 68, 86, 87],
  [0, 8, 37, 54, 76],
  [0, 7, 16, 43, 44, 57, 64, 94, 103, 109, 115],
  [0, 4, 22, 23, 31],
  [0, 11, 39, 40, 55, 56, 73, 74, 77, 83, 91, 105, 107, 113, 145, 158, 166, 175, 198, 200],
  [0, 5, 44, 47, 53],
  [0, 2, 33, 39],
  [0],
  [0],
  [0],
  [0, 11, 12, 21, 58, 77, 78, 85, 86, 99, 119, 122, 141],
  [0, 54, 100, 118],
  [0, 9, 19, 21, 25, 36, 47, 51, 65, 76, 78],
  [0, 30],
  [0, 10, 20, 21],
  [0, 10, 73, 106, 139, 157, 163, 184, 185],
  [0, 19, 30, 39, 49],
  [0, 17, 19, 35, 46],
  [0, 31, 33, 43, 45, 85, 86, 102, 103, 125, 127],
  [0, 10, 14, 15],
  [0, 25, 26, 48, 58, 59, 74, 82, 83],
  [0],
  [0, 14],
  [0, 3, 48, 54],
  [0, 14, 51],
  [0],
  [0, 4, 33],
  [0, 5, 56, 67],
  [0, 5, 23],
  [0, 30, 31],
  [0],
  [0, 22, 23],
  [0, 2, 51, 57],
  [0, 2, 42, 48],
  [0],
  [0, 12],
  [0, 3, 43, 49],
  [0, 13],
  [0, 17, 19, 49],
  [0, 19, 21, 35, 42],
  [0, 18, 20, 26, 55, 59, 75, 85, 86, 96, 102],
  [0, 32, 35, 38, 72, 82, 98, 99, 100, 106],
  [0, 22, 24, 27, 48, 54],
  [0, 47, 49],
  [0, 13, 15, 44, 50],
  [0, 2, 30, 36],
  [0, 22, 25, 28, 70, 76],
  [0, 17, 19],
  [0, 15, 17, 29, 43, 44, 45, 63, 74],
  [0, 4, 61, 63, 69],
  [0, 45, 47],
  [0, 16],
  [0],
  [0, 25, 26],
  [0, 12],
  [0, 17, 19],
  [0, 27, 28],
  [0, 20, 23],
  [0, 12, 26, 61, 67],
  [0, 18, 22],
  [0],
  [0, 27, 28],
  [0, 23, 24],
  [0, 27, 28],
  [0, 28, 30],
  [0, 12, 36, 37, 38, 54, 56],
  [0, 10, 39, 46],
  [0, 19, 21],
  [0],
  [0, 12, 30, 41],
  [0, 27, 28],
  [0, 20, 21],
  [0, 12],
  [0, 22, 23],
  [0, 22, 23],
  [0, 28, 30],
  [0, 38, 40, 55, 71, 78],
  [0, 19, 22],
  [0, 14, 16],
  [0, 12, 14],
  [0],
  [0, 48, 53, 62, 71, 82, 87, 98, 106, 114],
  [0, 21, 22],
  [0, 13, 14],
  [0],
  [0],
  [0],
  [0, 23, 24],
  [0, 12, 13],
  [0],
  [0],
  [0],
  [0, 456, 500, 502, 521],
  [0, 17, 18],
  [0],
  [0],
  [0, 12, 25, 36, 40],
  [0, 15, 31, 45, 54],
  [0, 15],
  [0, 3, 36],
  [0, 12, 14],
  [0, 19, 23],
  [0, 27, 28],
  [0, 22],
  [0],
  [0],
  [0, 79],
  [0, 42],
  [0, 11, 22],
  [0, 15],
  [0, 5, 41, 68, 107, 108, 119, 123, 125, 139, 140],
  [0, 22, 35, 55, 76, 77, 80, 86],
  [0, 13, 14, 38, 62, 71, 99, 109, 139, 147, 148],
  [0, 36, 79, 94, 114, 129, 135, 149, 150, 157, 181],
  [0, 26],
  [0, 57, 59, 71, 89, 108, 110, 133, 169, 201, 215],
  [0, 21, 23, 65, 94, 98, 102, 106, 126],
  [0, 4, 44, 62, 107, 110, 136, 165, 171, 173, 204],
  [0, 3, 27, 51, 77, 93, 97, 98, 116, 118, 145, 151],
  [0, 2, 24, 45, 48, 70, 108, 141, 153, 159, 162, 192, 198],
  [0, 2, 44, 46, 67, 115, 150, 156, 162],
  [0],
  [0, 36, 37],
  [0, 6, 34, 37, 43],
  [0, 5, 32, 54, 60],
  [0, 15, 17, 31, 39, 46],
  [0, 20, 22, 27, 54, 77, 88, 92, 93, 101],
  [0, 3, 56],
  [0, 28, 31, 34, 66, 93, 102, 112, 128, 129, 130, 136],
  [0, 16, 18, 23, 75, 76, 83, 91, 92],
  [0],
  [0, 57, 59],
  [0, 11, 20, 98, 104],
  [0, 16, 19, 21, 60, 66],
  [0, 19, 21],
  [0, 19, 21, 26, 66, 70, 71, 93, 94, 101, 107, 121, 125, 139, 146],
  [0, 21, 22],
  [0, 62, 64],
  [0, 10],
  [0, 22, 23, 26, 114, 115, 122, 130, 131],
  [0, 4, 23, 24, 32],
  [0, 7, 30, 101, 107],
  [0, 34, 36, 61, 62],
  [0, 14],
  [0, 11, 15, 16],
  [0, 49, 50],
  [0, 21, 22, 46, 47, 67, 68],
  [0, 2, 36, 55, 56],
  [0, 37, 39, 110, 129, 130, 135],
  [0, 17, 33, 89, 102, 133, 135, 136],
  [0, 19, 21, 39, 68],
  [0, 25, 26],
  [0, 19, 20],
  [0, 26, 30, 55, 56],
  [0, 2, 29, 35],
  [0, 29, 31],
  [0, 14, 18, 43, 44, 52],
  [0, 16, 20, 40],
  [0, 10, 28, 75, 117, 118, 126, 132, 147, 189, 195],
  [0, 4, 20],
  [0, 6, 32, 56, 66, 73, 97, 98, 106],
  [0, 2, 41],
  [0, 24, 25],
  [0, 8, 29, 30, 38, 40, 64, 65, 68, 111, 115, 116, 123, 129, 133, 160, 161, 164, 225, 229, 230, 237, 243, 255, 262, 269, 299, 305, 334],
  [0, 25, 26],
  [0, 14, 18, 30, 69, 73, 74, 82, 116, 122, 129, 131, 165, 212, 218, 223, 239, 243, 245, 259, 260, 290, 319, 320, 329, 364, 370, 376],
  [0],
  [0, 25, 26],
  [0, 27, 29],
  [0, 25, 32, 44, 46, 59, 65, 81, 88],
  [0, 4, 16, 52, 53, 62, 81, 82, 89],
  [0, 12, 19, 36, 68, 69, 78, 102, 117, 123, 131, 132],
  [0, 32, 34, 56, 63, 81, 90],
  [0, 8, 17, 70, 74, 75, 82, 101, 102, 109],
  [0, 3, 45, 51, 94],
  [0, 14, 15],
  [0, 18, 20, 37, 45],
  [0, 13, 32, 34, 53, 55, 73, 91, 110, 111, 127, 146, 147, 167, 174, 175, 186, 195, 203],
  [0, 23, 31, 49, 56],
  [0, 7, 79, 118, 144, 164, 171],
  [0],
  [0, 11, 27],
  [0],
  [0, 19, 64, 68, 69, 87, 89, 118, 119, 125, 168, 172, 173, 179, 188, 198, 200, 206, 217, 233, 242, 261, 272, 274, 290],
  [0, 10, 32, 81, 87, 90],
  [0, 25, 26],
  [0, 28, 30],
  [0, 14],
  [0, 7, 33, 34, 39, 87, 88, 118, 119, 127, 130],
  [0, 11, 57, 58],
  [0, 17, 18],
  [0, 10, 14, 38, 39, 47],
  [0, 10, 12, 22, 44, 45, 50, 83, 87, 88, 96, 103, 109, 115],
  [0, 32, 81, 82, 107, 108, 134, 135, 161, 162, 188, 189, 214, 215, 240, 241, 266, 267, 269, 275, 283, 305, 315, 325, 327, 336, 346, 355, 364, 374, 381, 402, 406],
  [0, 11, 12, 24, 25, 36, 37],
  [0, 4, 25, 26, 34],
  [0, 16, 18, 21, 47, 73, 84, 92, 124, 125, 141, 148, 196, 210, 216, 222, 232, 243, 316],
  [0, 31, 33, 61, 77, 93, 94],
  [0, 21, 24],
  [0, 2, 26],
  [0, 5, 29, 32, 67, 68, 81, 82, 109, 111, 112, 118],
  [0, 19, 21],
  [0, 4, 27, 28, 36, 38, 75],
  [0, 14, 27, 68, 71, 77, 86, 87],
  [0, 10, 12, 20, 39, 41, 69, 77, 94, 131, 135, 136, 143, 149, 155, 161],
  [0, 48, 53, 55, 83, 85, 90, 95, 100, 105, 110],
  [0],
  [0],
  [0, 6, 22],
  [0, 5, 20],
  [0, 18, 224, 287, 310, 333, 376, 409, 452, 485, 548, 571, 604, 637, 670, 733, 766, 779, 802, 803, 829, 830, 838, 861, 894, 917, 950, 973, 1006, 1019, 1042, 1065, 1088, 1131, 1174, 1197, 1220, 1221, 1252, 1253, 1266, 1279, 1297, 1298, 1319, 1320, 1328, 1351, 1384, 1407, 1430, 1453, 1496, 1549, 1582, 1615, 1648, 1661, 1684, 1690]]
def tFL : List (Nat × Nat × Nat × Nat) := [(0, 11, 0, 0), (0, 15, 0, 1), (0, 18, 0, 2), (0, 36, 0, 3), (1, 9, 1, 0), (1, 15, 1, 1), (1, 18, 1, 2), (1, 21, 1, 5), (1, 24, 1, 6), (1, 27, 1, 3), (1, 31, 1, 4), (1, 52, 10, 4), (1, 73, 10, 3), (2, 13, 2, 0), (2, 16, 2, 1), (2, 20, 2, 2), (2, 24, 9, 3), (2, 37, 9, 0), (2, 41, 9, 1), (2, 52, 9, 2), (3, 11, 3, 0), (3, 18, 3, 2), (3, 22, 3, 3), (3, 26, 3, 5), (3, 30, 3, 6), (3, 41, 7, 3), (3, 55, 3, 1), (3, 65, 7, 5), (3, 74, 3, 4), (3, 95, 7, 4), (4, 14, 4, 0), (4, 20, 4, 1), (4, 24, 4, 2), (4, 27, 4, 3), (4, 36, 4, 4), (4, 40, 4, 5), (4, 43, 9, 3), (4, 46, 4, 6), (4, 49, 4, 7), (4, 52, 4, 8), (4, 55, 4, 9), (4, 58, 4, 10), (4, 61, 4, 11), (5, 9, 5, 0), (5, 15, 5, 1), (5, 25, 5, 2), (5, 28, 5, 3), (5, 32, 5, 4), (5, 35, 5, 5), (5, 38, 5, 6), (5, 41, 5, 7), (5, 44, 5, 8), (5, 47, 5, 9), (5, 50, 5, 10), (6, 9, 6, 0), (6, 15, 6, 1), (6, 19, 6, 4), (6, 23, 6, 6), (6, 39, 6, 3), (6, 43, 6, 2), (6, 62, 3, 0), (6, 68, 7, 3), (6, 73, 7, 2), (6, 84, 3, 1), (6, 94, 6, 5), (7, 9, 7, 0), (7, 15, 7, 1), (7, 18, 7, 2), (7, 21, 7, 4), (7, 24, 7, 5), (7, 33, 7, 3), (8, 9, 8, 0), (8, 20, 8, 2), (8, 24, 8, 3), (8, 27, 8, 1), (8, 31, 9, 3), (8, 42, 9, 0), (8, 45, 9, 1), (8, 59, 9, 2), (9, 13, 9, 0), (9, 19, 9, 1), (9, 22, 9, 2), (9, 25, 9, 3), (10, 9, 10, 0), (10, 15, 10, 1), (10, 19, 10, 2), (10, 23, 10, 3), (11, 9, 11, 0), (11, 15, 11, 2), (11, 19, 11, 4), (11, 22, 11, 5), (11, 28, 11, 6), (11, 35, 11, 7), (11, 42, 11, 8), (11, 49, 11, 9), (11, 58, 11, 10), (11, 65, 11, 11), (11, 72, 11, 12), (11, 79, 11, 13), (11, 89, 11, 1), (11, 101, 11, 3), (11, 108, 4, 0), (11, 158, 10, 0), (11, 183, 7, 3), (11, 208, 3, 2), (11, 214, 3, 4), (11, 217, 3, 3), (11, 234, 5, 3), (11, 237, 5, 2), (11, 243, 6, 2), (11, 246, 6, 1), (11, 252, 10, 3), (11, 258, 10, 4), (11, 265, 1, 3), (11, 268, 1, 4), (11, 279, 10, 1), (11, 287, 8, 1), (11, 290, 8, 0), (11, 296, 0, 3), (11, 311, 7, 0), (11, 314, 7, 1), (11, 317, 7, 2), (11, 323, 5, 1), (11, 338, 3, 1), (11, 347, 0, 2), (12, 9, 12, 9), (12, 13, 12, 10), (12, 17, 12, 11), (12, 20, 12, 12), (12, 23, 12, 13), (12, 26, 12, 14), (12, 29, 12, 15), (12, 32, 12, 16), (12, 36, 12, 19), (12, 41, 12, 20), (12, 44, 12, 21), (12, 47, 12, 22), (12, 50, 12, 23), (12, 53, 12, 24), (12, 56, 12, 25), (12, 59, 12, 26), (12, 62, 12, 27), (12, 65, 12, 28), (12, 68, 12, 29), (12, 71, 12, 30), (12, 74, 12, 31), (12, 77, 12, 32), (12, 81, 12, 35), (12, 84, 12, 36), (12, 87, 12, 42), (12, 90, 12, 43), (12, 93, 12, 44), (12, 96, 12, 45), (12, 99, 12, 46), (12, 102, 12, 47), (12, 105, 12, 48), (12, 108, 12, 49), (12, 111, 12, 50), (12, 114, 12, 52), (12, 117, 12, 53), (12, 120, 12, 55), (12, 123, 12, 56), (12, 126, 12, 57), (12, 129, 12, 58), (12, 132, 12, 59), (12, 135, 12, 60), (12, 138, 12, 61), (12, 141, 12, 62), (12, 144, 12, 63), (12, 147, 12, 65), (12, 150, 12, 66), (12, 153, 12, 71), (12, 156, 12, 72), (12, 159, 12, 73), (12, 162, 12, 74), (12, 165, 12, 75), (12, 168, 12, 76), (12, 171, 12, 77), (12, 174, 12, 78), (12, 177, 12, 33), (12, 181, 12, 51), (12, 184, 12, 54), (12, 187, 12, 37), (12, 201, 12, 1), (12, 208, 12, 3), (12, 211, 12, 2), (12, 226, 12, 4), (12, 229, 12, 5), (12, 232, 12, 17), (12, 239, 12, 8), (12, 242, 12, 6), (12, 266, 12, 7), (12, 284, 12, 18), (12, 365, 12, 34), (12, 377, 12, 40), (12, 380, 12, 41), (12, 386, 12, 39), (12, 389, 12, 38), (12, 434, 12, 64), (12, 454, 12, 68), (12, 460, 12, 67), (12, 476, 12, 69), (12, 479, 12, 70)]
def tFL_w : List Cond := tFL.map (fun t => .fieldLink (cnm t.1) t.2.1 (fTb t.2.2.1 t.2.2.2).1 (fTb t.2.2.1 t.2.2.2).2.1 (fTb t.2.2.1 t.2.2.2).2.2.1)
set_option maxRecDepth 100000 in
theorem tFL_in : GoodIn lw_tbl tFL_w := goodIn_r _ [393, 394, 395, 397, 363, 364, 365, 370, 371, 366, 368, 660, 658, 177, 178, 179, 119, 109, 112, 115, 255, 260, 262, 266, 267, 235, 258, 241, 264, 239, 131, 133, 134, 135, 136, 137, 120, 138, 139, 140, 141, 142, 143, 290, 291, 293, 295, 297, 298, 299, 300, 301, 302, 303, 333, 334, 339, 341, 338, 336, 256, 236, 232, 257, 340, 227, 229, 231, 238, 240, 234, 196, 200, 201, 198, 118, 110, 113, 116, 108, 111, 114, 117, 652, 654, 656, 657, 409, 411, 413, 414, 415, 416, 417, 418, 419, 420, 421, 422, 410, 412, 132, 653, 237, 261, 265, 263, 296, 294, 337, 335, 659, 661, 367, 369, 655, 199, 197, 398, 228, 230, 233, 292, 259, 396, 1297, 1298, 1299, 1300, 1301, 1302, 1303, 1304, 1307, 1308, 1309, 1310, 1311, 1312, 1313, 1314, 1315, 1316, 1317, 1318, 1319, 1320, 1323, 1324, 1330, 1331, 1332, 1333, 1334, 1335, 1336, 1337, 1338, 1340, 1341, 1343, 1344, 1345, 1346, 1347, 1348, 1349, 1350, 1351, 1353, 1354, 1359, 1360, 1361, 1362, 1363, 1364, 1365, 1366, 1321, 1339, 1342, 1325, 1289, 1291, 1290, 1292, 1293, 1305, 1296, 1294, 1295, 1306, 1322, 1328, 1329, 1327, 1326, 1352, 1356, 1355, 1357, 1358] (by decide +kernel) (by decide +kernel)
def tML : List (Nat × Nat × Nat) := [(0, 29, 4), (0, 32, 5), (0, 39, 3), (1, 40, 315), (1, 57, 10), (1, 61, 13), (1, 65, 11), (1, 69, 12), (1, 76, 312), (1, 82, 16), (2, 29, 19), (2, 33, 20), (2, 44, 27), (2, 48, 21), (2, 55, 22), (2, 59, 314), (2, 65, 25), (2, 69, 24), (2, 80, 23), (2, 84, 26), (2, 94, 313), (2, 103, 28), (2, 106, 29), (2, 112, 30), (3, 17, 95), (3, 44, 99), (3, 51, 98), (3, 59, 36), (3, 68, 314), (3, 77, 42), (3, 81, 44), (3, 85, 39), (3, 88, 40), (3, 91, 41), (3, 98, 46), (3, 102, 315), (3, 105, 38), (3, 108, 47), (3, 112, 136), (3, 117, 137), (4, 11, 127), (4, 65, 65), (4, 68, 51), (4, 72, 57), (4, 75, 66), (4, 79, 52), (4, 82, 67), (4, 86, 53), (4, 89, 54), (4, 92, 55), (4, 95, 64), (4, 99, 62), (4, 102, 69), (4, 105, 63), (4, 108, 61), (4, 112, 71), (4, 115, 70), (4, 118, 56), (4, 124, 60), (4, 127, 58), (4, 133, 59), (4, 136, 128), (4, 140, 68), (5, 19, 315), (5, 53, 34), (5, 59, 46), (5, 63, 74), (5, 67, 312), (5, 83, 75), (5, 87, 45), (5, 91, 38), (5, 94, 76), (5, 97, 77), (5, 101, 39), (5, 104, 40), (5, 107, 41), (5, 110, 78), (5, 113, 81), (5, 117, 85), (5, 121, 82), (5, 124, 42), (5, 127, 83), (5, 130, 84), (6, 26, 91), (6, 30, 313), (6, 36, 92), (6, 46, 90), (6, 50, 94), (6, 54, 89), (6, 58, 88), (6, 80, 36), (6, 90, 45), (6, 97, 38), (6, 101, 93), (6, 105, 39), (6, 109, 40), (6, 112, 315), (7, 27, 315), (7, 37, 101), (7, 41, 102), (7, 51, 100), (7, 61, 104), (7, 65, 105), (7, 69, 312), (7, 75, 106), (7, 84, 132), (7, 89, 133), (7, 92, 95), (7, 93, 108), (7, 97, 98), (7, 101, 109), (7, 104, 110), (7, 108, 96), (7, 111, 111), (7, 115, 112), (8, 17, 127), (8, 34, 116), (8, 38, 121), (8, 48, 120), (8, 52, 119), (8, 55, 117), (8, 62, 118), (8, 66, 122), (8, 69, 123), (8, 73, 124), (8, 76, 129), (8, 80, 125), (8, 84, 126), (9, 29, 128), (9, 33, 127), (10, 27, 313), (10, 33, 134), (10, 40, 30), (10, 46, 135), (10, 50, 132), (11, 27, 49), (11, 34, 17), (11, 41, 113), (11, 48, 31), (11, 55, 72), (11, 64, 86), (11, 71, 7), (11, 78, 0), (11, 83, 315), (11, 93, 142), (11, 97, 189), (11, 104, 50), (11, 112, 130), (11, 118, 18), (11, 122, 131), (11, 125, 188), (11, 129, 190), (11, 133, 132), (11, 137, 133), (11, 141, 137), (11, 144, 138), (11, 148, 135), (11, 151, 139), (11, 155, 136), (11, 161, 151), (11, 164, 196), (11, 167, 194), (11, 170, 155), (11, 173, 32), (11, 177, 96), (11, 186, 97), (11, 189, 34), (11, 193, 35), (11, 196, 312), (11, 201, 193), (11, 204, 37), (11, 211, 43), (11, 220, 45), (11, 224, 48), (11, 228, 103), (11, 231, 73), (11, 240, 87), (11, 249, 191), (11, 255, 8), (11, 261, 9), (11, 272, 14), (11, 276, 15), (11, 280, 115), (11, 284, 114), (11, 293, 1), (11, 299, 2), (11, 302, 3), (11, 305, 6), (11, 308, 107), (11, 320, 192), (11, 326, 78), (11, 329, 79), (11, 332, 80), (11, 335, 33), (11, 342, 313), (12, 195, 199), (12, 204, 205), (12, 214, 208), (12, 235, 212), (12, 245, 207), (12, 249, 209), (12, 252, 210), (12, 256, 215), (12, 259, 216), (12, 262, 217), (12, 269, 211), (12, 272, 218), (12, 275, 214), (12, 278, 213), (12, 281, 220), (12, 290, 219), (12, 293, 221), (12, 296, 223), (12, 299, 226), (12, 302, 225), (12, 305, 224), (12, 309, 202), (12, 313, 203), (12, 317, 228), (12, 321, 227), (12, 325, 200), (12, 328, 230), (12, 331, 229), (12, 336, 233), (12, 341, 236), (12, 350, 201), (12, 353, 242), (12, 359, 245), (12, 362, 246), (12, 368, 250), (12, 371, 251), (12, 374, 253), (12, 383, 252), (12, 392, 254), (12, 395, 255), (12, 398, 258), (12, 401, 259), (12, 404, 260), (12, 407, 263), (12, 410, 265), (12, 413, 266), (12, 416, 267), (12, 419, 268), (12, 422, 272), (12, 429, 276), (12, 437, 280), (12, 440, 281), (12, 443, 282), (12, 447, 283), (12, 450, 284), (12, 457, 286), (12, 463, 287), (12, 467, 288), (12, 470, 285), (12, 473, 289), (12, 482, 294), (12, 485, 296), (12, 488, 295), (12, 491, 300), (12, 494, 301), (12, 498, 299), (12, 501, 305), (12, 504, 306), (12, 507, 308), (13, 9, 140), (13, 12, 198), (13, 13, 141), (13, 17, 204), (13, 18, 143), (13, 22, 206), (13, 23, 144), (13, 26, 222), (13, 27, 145), (13, 31, 231), (13, 32, 146), (13, 36, 232), (13, 37, 147), (13, 40, 234), (13, 41, 148), (13, 44, 235), (13, 45, 149), (13, 49, 237), (13, 50, 150), (13, 53, 238), (13, 54, 152), (13, 57, 239), (13, 58, 153), (13, 61, 240), (13, 62, 154), (13, 65, 241), (13, 66, 156), (13, 69, 243), (13, 70, 157), (13, 73, 244), (13, 74, 158), (13, 78, 247), (13, 79, 159), (13, 83, 248), (13, 84, 160), (13, 87, 249), (13, 88, 161), (13, 91, 256), (13, 92, 162), (13, 95, 257), (13, 96, 163), (13, 99, 261), (13, 100, 164), (13, 103, 262), (13, 104, 165), (13, 107, 264), (13, 108, 166), (13, 111, 269), (13, 112, 167), (13, 115, 270), (13, 116, 168), (13, 119, 271), (13, 120, 169), (13, 123, 273), (13, 124, 170), (13, 127, 274), (13, 128, 171), (13, 131, 275), (13, 132, 172), (13, 135, 277), (13, 136, 173), (13, 140, 278), (13, 141, 174), (13, 144, 279), (13, 145, 175), (13, 149, 290), (13, 150, 176), (13, 153, 291), (13, 154, 177), (13, 157, 292), (13, 158, 178), (13, 161, 293), (13, 162, 179), (13, 165, 297), (13, 166, 180), (13, 169, 298), (13, 170, 181), (13, 173, 302), (13, 174, 182), (13, 178, 303), (13, 179, 183), (13, 182, 304), (13, 183, 184), (13, 186, 307), (13, 187, 185), (13, 190, 309), (13, 191, 186), (13, 194, 310), (13, 195, 187), (13, 198, 311)]
def tML_w : List Cond := tML.map (fun t => .methodLink (cnm t.1) t.2.1 (mI t.2.2).1)
set_option maxRecDepth 100000 in
theorem tML_in : GoodIn lw_tbl tML_w := goodIn_r _ [1162, 1166, 1178, 1033, 1035, 1039, 1044, 1048, 1043, 1069, 579, 632, 583, 604, 636, 591, 608, 629, 601, 612, 616, 587, 595, 598, 220, 809, 818, 841, 857, 858, 861, 865, 869, 872, 887, 891, 892, 896, 904, 905, 101, 478, 482, 550, 486, 490, 502, 505, 525, 546, 494, 498, 509, 513, 517, 529, 533, 540, 554, 558, 562, 521, 537, 289, 940, 941, 942, 957, 947, 951, 952, 953, 1228, 1231, 1232, 1233, 1242, 1251, 1256, 1260, 1255, 1264, 1268, 971, 978, 979, 991, 994, 1000, 1004, 976, 983, 984, 985, 989, 990, 998, 224, 781, 788, 784, 918, 921, 925, 926, 1187, 1188, 1190, 1191, 1208, 1195, 1198, 1207, 1201, 1204, 195, 1109, 1082, 1113, 1116, 1120, 1124, 1086, 1094, 1098, 1090, 1102, 1105, 573, 572, 688, 693, 740, 705, 709, 95, 171, 190, 213, 285, 329, 359, 389, 408, 456, 464, 471, 567, 575, 648, 677, 681, 684, 689, 701, 714, 718, 723, 736, 741, 745, 746, 761, 769, 777, 797, 805, 813, 823, 833, 837, 853, 883, 900, 914, 936, 967, 836, 1020, 1028, 1057, 1065, 1078, 1128, 1140, 1152, 1157, 1174, 1183, 1217, 1224, 1238, 1247, 1277, 625, 1545, 1532, 1556, 1574, 1560, 1552, 1564, 1570, 1588, 1592, 1578, 1584, 1604, 1608, 1600, 1548, 1596, 1612, 1616, 1620, 1624, 1628, 1631, 1654, 1638, 1642, 1646, 1650, 1667, 1680, 1709, 1706, 1726, 1722, 1757, 1754, 1750, 1760, 1746, 1742, 1775, 1779, 1771, 1791, 1795, 1798, 1806, 1810, 1822, 1844, 1869, 1877, 1865, 1873, 1881, 1885, 1897, 1889, 1861, 1893, 1925, 1917, 1921, 1937, 1940, 1943, 1959, 1963, 1971, 85, 1283, 452, 1528, 460, 1536, 467, 1540, 673, 1634, 697, 1658, 710, 1663, 719, 1671, 728, 1676, 732, 1685, 749, 1689, 753, 1693, 757, 1698, 765, 1702, 793, 1714, 801, 1718, 829, 1730, 845, 1734, 849, 1738, 875, 1763, 879, 1767, 906, 1783, 910, 1787, 932, 1802, 959, 1814, 963, 1818, 1008, 1826, 1012, 1830, 1016, 1835, 1024, 1840, 1052, 1848, 1061, 1853, 1074, 1857, 1132, 1901, 1136, 1905, 1144, 1909, 1148, 1913, 1170, 1929, 1179, 1933, 1209, 1947, 1213, 1951, 1220, 1955, 1234, 1967, 1243, 1975, 1273, 1979] (by decide +kernel) (by decide +kernel)
def tMN : List (Nat × Nat × Nat) := [(0, 22, 189), (0, 26, 194), (1, 86, 194), (2, 72, 196), (2, 76, 197), (2, 100, 195), (3, 33, 189), (3, 37, 191), (3, 48, 194), (5, 79, 194), (6, 76, 193), (6, 118, 195), (7, 54, 196), (7, 57, 197), (7, 81, 194), (10, 37, 195)]
def tMN_w : List Cond := tMN.map (fun t => .methodLinkNest (cnm t.1) t.2.1 (mI t.2.2).1 "WishWays")
set_option maxRecDepth 100000 in
theorem tMN_in : ∀ w ∈ tMN_w, w ∈ lw_tbl := mem_r _ [1156, 1161, 1073, 639, 645, 622, 773, 774, 817, 946, 975, 999, 787, 792, 931, 696] (by decide +kernel)
def tCL : List (Nat × Nat × Nat) := [(3, 9, 7), (4, 9, 9), (7, 10, 7), (8, 15, 9), (9, 14, 9), (11, 13, 10), (11, 25, 4), (11, 32, 2), (11, 39, 8), (11, 46, 3), (11, 53, 5), (11, 62, 6), (11, 69, 1), (11, 76, 0), (13, 7, 11), (13, 10, 12)]
def tCL_w : List Cond := tCL.map (fun t => .classLink (cnm t.1) t.2.1 (cnm t.2.2))
set_option maxRecDepth 100000 in
theorem tCL_in : GoodIn lw_tbl tCL_w := goodIn_r _ [217, 99, 1189, 194, 571, 91, 93, 169, 188, 211, 283, 327, 357, 387, 83, 1281] (by decide +kernel) (by decide +kernel)
def tNA : List (Nat × Nat × Nat) := [(3, 9, 7), (11, 13, 10)]
def tNA_w : List Cond := tNA.map (fun t => .classLink (cnm t.1) t.2.1 (cnm t.2.2))
set_option maxRecDepth 100000 in
theorem tNA_in : GoodIn lw_tbl tNA_w := goodIn_r _ [217, 91] (by decide +kernel) (by decide +kernel)
def tKI : List (Nat × Nat × Int) := [(11, 271, 999999), (12, 35, 114688), (12, 40, 49152), (14, 265, 1431655765), (14, 266, 858993459), (14, 267, 252645135)]
def tKI_w : List Cond := tKI.map (fun t => .constant (cnm t.1) t.2.1 (Int32.ofInt t.2.2))
set_option maxRecDepth 100000 in
theorem tKI_in : GoodIn lw_tbl tKI_w := goodIn_r _ [1056, 1287, 1288, 826, 827, 828] (by decide +kernel) (by decide +kernel)
def tKL : List (Nat × Nat × Int) := [(2, 110, (-1)), (3, 63, (-1)), (6, 88, (-1)), (7, 79, (-1)), (10, 54, (-1)), (12, 193, 511), (12, 199, 7), (12, 218, 48), (12, 220, 57), (12, 222, 97), (12, 224, 122), (12, 288, 3), (12, 334, 2), (12, 339, (-1)), (12, 344, 255), (12, 346, 15), (12, 348, 9), (12, 357, 124), (12, 425, 99), (12, 427, 999), (12, 432, 999999), (15, 314, 6148914691236517205), (15, 316, 3689348814741910323), (15, 318, 1085102592571150095)]
def tKL_w : List Cond := tKL.map (fun t => .constantLong (cnm t.1) t.2.1 (Int64.ofBitVec (BitVec.ofInt 64 t.2.2)))
set_option maxRecDepth 100000 in
theorem tKL_in : GoodIn lw_tbl tKL_w := goodIn_r _ [594, 844, 977, 930, 727, 1645, 1712, 1568, 1569, 1582, 1583, 1544, 1662, 1675, 1683, 1684, 1697, 1713, 1834, 1839, 1852, 619, 620, 621] (by decide +kernel) (by decide +kernel)
def tOI : List (Nat × Nat) := [(0, 3), (1, 3), (2, 3), (3, 3), (4, 3), (5, 3), (6, 3), (7, 3), (8, 3), (9, 1), (10, 3), (11, 1), (12, 1)]
def tOI_w : List Cond := tOI.map (fun t => .methodLink (cnm t.1) t.2 objectInit)
set_option maxRecDepth 100000 in
theorem tOI_in : GoodIn lw_tbl tOI_w := goodIn_r _ [392, 362, 174, 216, 98, 288, 332, 223, 193, 104, 651, 88, 1286] (by decide +kernel) (by decide +kernel)
def tAC : List (Nat × Nat) := [(1, 34), (2, 88), (5, 73), (7, 45)]
def tAC_w : List Cond := tAC.map (fun t => .methodLink (cnm t.1) t.2 arraycopyName)
set_option maxRecDepth 100000 in
theorem tAC_in : GoodIn lw_tbl tAC_w := goodIn_r _ [1032, 626, 958, 822] (by decide +kernel) (by decide +kernel)
def tMx : List (Nat × Nat) := [(4, 130), (9, 7)]
def tMx_w : List Cond := tMx.map (fun t => .methodLink (cnm t.1) t.2 Lib.Math.max.name)
set_option maxRecDepth 100000 in
theorem tMx_in : GoodIn lw_tbl tMx_w := goodIn_r _ [566, 105] (by decide +kernel) (by decide +kernel)
def tMi : List (Nat × Nat) := [(1, 46), (4, 30), (5, 133)]
def tMi_w : List Cond := tMi.map (fun t => .methodLink (cnm t.1) t.2 Lib.Math.min.name)
set_option maxRecDepth 100000 in
theorem tMi_in : GoodIn lw_tbl tMi_w := goodIn_r _ [1034, 475, 1272] (by decide +kernel) (by decide +kernel)
def tCd0 : List Nat := [0, 1, 2, 3, 4, 5, 6, 7, 8, 9, 10, 11, 12, 13, 14, 15, 16, 17, 18, 19]
set_option maxRecDepth 100000 in
theorem tCd0_in : GoodIn lw_tbl (tCd0.map (fun i => .code (mI i).1 (mI i).2.1 (mt i).1 (mI i).2.2.1)) := goodIn_r _ [391, 1143, 1155, 1160, 1165, 1169, 1177, 361, 1023, 1031, 1038, 1047, 1051, 1042, 1060, 1068, 1072, 173, 578, 582] rfl rfl
def tCd1 : List Nat := [20, 21, 22, 23, 24, 25, 26, 27, 28, 29, 30, 31, 32, 33, 34, 35, 36, 37, 38, 39]
set_option maxRecDepth 100000 in
theorem tCd1_in : GoodIn lw_tbl (tCd1.map (fun i => .code (mI i).1 (mI i).2.1 (mt i).1 (mI i).2.2.1)) := goodIn_r _ [635, 607, 638, 603, 631, 611, 615, 586, 590, 597, 600, 215, 772, 1280, 808, 816, 843, 840, 895, 868] rfl rfl
def tCd2 : List Nat := [40, 41, 42, 43, 44, 45, 46, 47, 48, 49, 50, 51, 52, 53, 54, 55, 56, 57, 58, 59]
set_option maxRecDepth 100000 in
theorem tCd2_in : GoodIn lw_tbl (tCd2.map (fun i => .code (mI i).1 (mI i).2.1 (mt i).1 (mI i).2.2.1)) := goodIn_r _ [871, 874, 860, 856, 864, 886, 890, 899, 903, 97, 474, 485, 493, 508, 528, 549, 543, 553, 561, 565] rfl rfl
def tCd3 : List Nat := [60, 61, 62, 63, 64, 65, 66, 67, 68, 69, 70, 71, 72, 73, 74, 75, 76, 77, 78, 79]
set_option maxRecDepth 100000 in
theorem tCd3_in : GoodIn lw_tbl (tCd3.map (fun i => .code (mI i).1 (mI i).2.1 (mt i).1 (mI i).2.2.1)) := goodIn_r _ [557, 520, 501, 516, 497, 481, 489, 504, 539, 512, 536, 532, 287, 939, 945, 950, 956, 1230, 1227, 1241] rfl rfl
def tCd4 : List Nat := [80, 81, 82, 83, 84, 85, 86, 87, 88, 89, 90, 91, 92, 93, 94, 95, 96, 97, 98, 99]
set_option maxRecDepth 100000 in
theorem tCd4_in : GoodIn lw_tbl (tCd4.map (fun i => .code (mI i).1 (mI i).2.1 (mt i).1 (mI i).2.2.1)) := goodIn_r _ [1250, 1254, 1263, 1267, 1271, 1259, 331, 970, 1007, 1003, 993, 974, 982, 988, 997, 222, 780, 800, 821, 812] rfl rfl
def tCd5 : List Nat := [100, 101, 102, 103, 104, 105, 106, 107, 108, 109, 110, 111, 112, 113, 114, 115, 116, 117, 118, 119]
set_option maxRecDepth 100000 in
theorem tCd5_in : GoodIn lw_tbl (tCd5.map (fun i => .code (mI i).1 (mI i).2.1 (mt i).1 (mI i).2.2.1)) := goodIn_r _ [786, 783, 791, 917, 920, 924, 929, 1186, 1194, 1197, 1200, 1203, 1206, 192, 1131, 1081, 1112, 1123, 1127, 1119] rfl rfl
def tCd6 : List Nat := [120, 121, 122, 123, 124, 125, 126, 127, 128, 129, 130, 131, 132, 133, 134, 135, 136, 137, 138, 139]
set_option maxRecDepth 100000 in
theorem tCd6_in : GoodIn lw_tbl (tCd6.map (fun i => .code (mI i).1 (mI i).2.1 (mt i).1 (mI i).2.2.1)) := goodIn_r _ [1115, 1085, 1089, 1097, 1101, 1104, 1108, 103, 524, 1093, 570, 650, 687, 692, 695, 708, 739, 704, 717, 726] rfl rfl
def tCd7 : List Nat := [140, 141, 142, 143, 144, 145, 146, 147, 148, 149, 150, 151, 152, 153, 154, 155, 156, 157, 158, 159]
set_option maxRecDepth 100000 in
theorem tCd7_in : GoodIn lw_tbl (tCd7.map (fun i => .code (mI i).1 (mI i).2.1 (mt i).1 (mI i).2.2.1)) := goodIn_r _ [87, 455, 459, 463, 470, 676, 700, 713, 722, 731, 735, 744, 752, 756, 760, 764, 768, 796, 804, 832] rfl rfl
def tCd8 : List Nat := [160, 161, 162, 163, 164, 165, 166, 167, 168, 169, 170, 171, 172, 173, 174, 175, 176, 177, 178, 179]
set_option maxRecDepth 100000 in
theorem tCd8_in : GoodIn lw_tbl (tCd8.map (fun i => .code (mI i).1 (mI i).2.1 (mt i).1 (mI i).2.2.1)) := goodIn_r _ [848, 852, 878, 882, 909, 913, 935, 962, 966, 1011, 1015, 1019, 1027, 1055, 1064, 1077, 1135, 1139, 1147, 1151] rfl rfl
def tCd9 : List Nat := [180, 181, 182, 183, 184, 185, 186, 187, 188, 189, 190, 191, 192, 193, 194, 195, 196, 197, 198, 199]
set_option maxRecDepth 100000 in
theorem tCd9_in : GoodIn lw_tbl (tCd9.map (fun i => .code (mI i).1 (mI i).2.1 (mt i).1 (mI i).2.2.1)) := goodIn_r _ [1173, 1182, 1212, 1216, 1223, 1237, 1246, 1276, 680, 466, 683, 776, 1219, 835, 748, 624, 641, 647, 1285, 1547] rfl rfl
def tCd10 : List Nat := [200, 201, 202, 203, 204, 205, 206, 207, 208, 209, 210, 211, 212, 213, 214, 215, 216, 217, 218, 219]
set_option maxRecDepth 100000 in
theorem tCd10_in : GoodIn lw_tbl (tCd10.map (fun i => .code (mI i).1 (mI i).2.1 (mt i).1 (mI i).2.2.1)) := goodIn_r _ [1644, 1711, 1630, 1633, 1531, 1535, 1539, 1563, 1559, 1555, 1567, 1581, 1577, 1611, 1607, 1573, 1591, 1595, 1587, 1551] rfl rfl
def tCd11 : List Nat := [220, 221, 222, 223, 224, 225, 226, 227, 228, 229, 230, 231, 232, 233, 234, 235, 236, 237, 238, 239]
set_option maxRecDepth 100000 in
theorem tCd11_in : GoodIn lw_tbl (tCd11.map (fun i => .code (mI i).1 (mI i).2.1 (mt i).1 (mI i).2.2.1)) := goodIn_r _ [1603, 1599, 1543, 1615, 1627, 1623, 1619, 1641, 1657, 1653, 1649, 1637, 1661, 1670, 1666, 1674, 1682, 1679, 1688, 1692] rfl rfl
def tCd12 : List Nat := [240, 241, 242, 243, 244, 245, 246, 247, 248, 249, 250, 251, 252, 253, 254, 255, 256, 257, 258, 259]
set_option maxRecDepth 100000 in
theorem tCd12_in : GoodIn lw_tbl (tCd12.map (fun i => .code (mI i).1 (mI i).2.1 (mt i).1 (mI i).2.2.1)) := goodIn_r _ [1696, 1701, 1708, 1705, 1717, 1729, 1725, 1721, 1733, 1737, 1759, 1756, 1762, 1753, 1749, 1745, 1741, 1766, 1778, 1782] rfl rfl
def tCd13 : List Nat := [260, 261, 262, 263, 264, 265, 266, 267, 268, 269, 270, 271, 272, 273, 274, 275, 276, 277, 278, 279]
set_option maxRecDepth 100000 in
theorem tCd13_in : GoodIn lw_tbl (tCd13.map (fun i => .code (mI i).1 (mI i).2.1 (mt i).1 (mI i).2.2.1)) := goodIn_r _ [1774, 1770, 1786, 1794, 1790, 1797, 1801, 1809, 1813, 1805, 1817, 1821, 1825, 1829, 1833, 1838, 1847, 1843, 1851, 1856] rfl rfl
def tCd14 : List Nat := [280, 281, 282, 283, 284, 285, 286, 287, 288, 289, 290, 291, 292, 293, 294, 295, 296, 297, 298, 299]
set_option maxRecDepth 100000 in
theorem tCd14_in : GoodIn lw_tbl (tCd14.map (fun i => .code (mI i).1 (mI i).2.1 (mt i).1 (mI i).2.2.1)) := goodIn_r _ [1872, 1880, 1868, 1876, 1884, 1864, 1888, 1900, 1892, 1896, 1860, 1904, 1908, 1912, 1928, 1924, 1920, 1916, 1932, 1946] rfl rfl
def tCd15 : List Nat := [300, 301, 302, 303, 304, 305, 306, 307, 308, 309, 310, 311, 312, 313, 314, 315]
set_option maxRecDepth 100000 in
theorem tCd15_in : GoodIn lw_tbl (tCd15.map (fun i => .code (mI i).1 (mI i).2.1 (mt i).1 (mI i).2.2.1)) := goodIn_r _ [1939, 1942, 1936, 1950, 1954, 1962, 1966, 1958, 1974, 1970, 1978, 1982, 825, 618, 593, 226] rfl rfl
def tSt : List Nat := [22, 23, 24, 29, 30, 36, 40, 41, 42, 67, 68, 77, 90, 100, 101, 104, 109, 110, 111, 112, 120, 125, 134, 189, 190, 191, 192, 193, 194, 195, 196, 197, 199, 200, 201, 202, 203, 236, 242, 250, 251, 252, 265, 300, 301, 312, 313, 314, 315]
def tSt_w : List Cond := tSt.map (fun i => .static (mI i).1)
set_option maxRecDepth 100000 in
theorem tSt_in : GoodIn lw_tbl tSt_w := goodIn_r _ [637, 602, 630, 596, 599, 842, 870, 873, 859, 503, 538, 1229, 992, 785, 782, 919, 1196, 1199, 1202, 1205, 1114, 1103, 694, 465, 682, 775, 1218, 834, 747, 623, 640, 646, 1546, 1643, 1710, 1629, 1632, 1681, 1707, 1758, 1755, 1761, 1796, 1938, 1941, 824, 617, 592, 225] (by decide +kernel) (by decide +kernel)
def tIn : List Nat := [0, 1, 2, 3, 4, 5, 6, 7, 8, 9, 10, 11, 12, 13, 14, 15, 16, 17, 18, 19, 20, 21, 25, 26, 27, 28, 31, 32, 33, 34, 35, 37, 38, 39, 43, 44, 45, 46, 47, 48, 49, 50, 51, 52, 53, 54, 55, 56, 57, 58, 59, 60, 61, 62, 63, 64, 65, 66, 69, 70, 71, 72, 73, 74, 75, 76, 78, 79, 80, 81, 82, 83, 84, 85, 86, 87, 88, 89, 91, 92, 93, 94, 95, 96, 97, 98, 99, 102, 103, 105, 106, 107, 108, 113, 114, 115, 116, 117, 118, 119, 121, 122, 123, 124, 126, 127, 128, 129, 130, 131, 132, 133, 135, 136, 137, 138, 139, 140, 141, 142, 143, 144, 145, 146, 147, 148, 149, 150, 151, 152, 153, 154, 155, 156, 157, 158, 159, 160, 161, 162, 163, 164, 165, 166, 167, 168, 169, 170, 171, 172, 173, 174, 175, 176, 177, 178, 179, 180, 181, 182, 183, 184, 185, 186, 187, 188, 198, 204, 205, 206, 207, 208, 209, 210, 211, 212, 213, 214, 215, 216, 217, 218, 219, 220, 221, 222, 223, 224, 225, 226, 227, 228, 229, 230, 231, 232, 233, 234, 235, 237, 238, 239, 240, 241, 243, 244, 245, 246, 247, 248, 249, 253, 254, 255, 256, 257, 258, 259, 260, 261, 262, 263, 264, 266, 267, 268, 269, 270, 271, 272, 273, 274, 275, 276, 277, 278, 279, 280, 281, 282, 283, 284, 285, 286, 287, 288, 289, 290, 291, 292, 293, 294, 295, 296, 297, 298, 299, 302, 303, 304, 305, 306, 307, 308, 309, 310, 311]
def tIn_w : List Cond := tIn.map (fun i => .instanceMethod (mI i).1)
set_option maxRecDepth 100000 in
theorem tIn_in : GoodIn lw_tbl tIn_w := goodIn_r _ [390, 1141, 1153, 1158, 1163, 1167, 1175, 360, 1021, 1029, 1037, 1045, 1049, 1040, 1058, 1066, 1070, 172, 576, 580, 633, 605, 609, 613, 584, 588, 214, 770, 1278, 806, 814, 838, 893, 866, 854, 862, 884, 888, 897, 901, 96, 472, 483, 491, 506, 526, 547, 541, 551, 559, 563, 555, 518, 499, 514, 495, 479, 487, 510, 534, 530, 286, 937, 944, 948, 954, 1225, 1239, 1248, 1252, 1261, 1265, 1269, 1257, 330, 968, 1005, 1001, 972, 980, 986, 995, 221, 778, 798, 819, 810, 789, 915, 922, 927, 1184, 1192, 191, 1129, 1079, 1111, 1122, 1125, 1117, 1083, 1087, 1095, 1099, 1106, 102, 522, 1091, 568, 649, 685, 690, 706, 737, 702, 715, 724, 86, 453, 458, 461, 468, 674, 698, 711, 720, 729, 733, 743, 750, 754, 758, 763, 766, 794, 802, 830, 846, 850, 876, 880, 907, 911, 933, 960, 964, 1009, 1013, 1017, 1025, 1053, 1062, 1075, 1133, 1137, 1145, 1149, 1171, 1180, 1210, 1214, 1221, 1235, 1244, 1274, 679, 1284, 1529, 1534, 1537, 1562, 1558, 1554, 1566, 1580, 1576, 1610, 1606, 1572, 1590, 1594, 1586, 1550, 1602, 1598, 1541, 1614, 1626, 1622, 1618, 1640, 1656, 1652, 1648, 1635, 1659, 1669, 1664, 1672, 1677, 1686, 1690, 1694, 1699, 1703, 1715, 1728, 1724, 1719, 1731, 1735, 1752, 1748, 1744, 1739, 1764, 1777, 1781, 1773, 1768, 1784, 1793, 1788, 1800, 1808, 1812, 1803, 1815, 1819, 1824, 1827, 1831, 1836, 1846, 1841, 1849, 1854, 1871, 1879, 1867, 1875, 1883, 1863, 1887, 1899, 1891, 1895, 1858, 1902, 1906, 1910, 1927, 1923, 1919, 1914, 1930, 1945, 1934, 1948, 1952, 1961, 1965, 1956, 1973, 1968, 1976, 1980] (by decide +kernel) (by decide +kernel)
def tSe : List Nat := [1, 2, 3, 4, 5, 6, 8, 9, 10, 11, 12, 13, 14, 15, 16, 18, 19, 20, 21, 25, 26, 27, 28, 32, 33, 34, 35, 37, 38, 39, 43, 44, 45, 46, 47, 48, 50, 51, 52, 53, 54, 55, 56, 57, 58, 59, 60, 61, 62, 63, 64, 65, 66, 69, 70, 71, 73, 74, 75, 76, 78, 79, 80, 81, 82, 83, 84, 85, 87, 88, 89, 91, 92, 93, 94, 96, 97, 98, 99, 102, 103, 105, 106, 107, 108, 114, 115, 116, 117, 118, 119, 121, 122, 123, 124, 126, 128, 129, 130, 132, 133, 135, 136, 137, 138, 139, 141, 142, 143, 144, 145, 146, 147, 148, 149, 150, 151, 152, 153, 154, 155, 156, 157, 158, 159, 160, 161, 162, 163, 164, 165, 166, 167, 168, 169, 170, 171, 172, 173, 174, 175, 176, 177, 178, 179, 180, 181, 182, 183, 184, 185, 186, 187, 188, 204, 205, 206, 207, 208, 209, 210, 211, 212, 213, 214, 215, 216, 217, 218, 219, 220, 221, 222, 223, 224, 225, 226, 227, 228, 229, 230, 231, 232, 233, 234, 235, 237, 238, 239, 240, 241, 243, 244, 245, 246, 247, 248, 249, 253, 254, 255, 256, 257, 258, 259, 260, 261, 262, 263, 264, 266, 267, 268, 269, 270, 271, 272, 273, 274, 275, 276, 277, 278, 279, 280, 281, 282, 283, 284, 285, 286, 287, 288, 289, 290, 291, 292, 293, 294, 295, 296, 297, 298, 299, 302, 303, 304, 305, 306, 307, 308, 309, 310, 311]
def tSe_w : List Cond := tSe.map (fun i => .selects (mI i).1.cls (mI i).1 (mI i).1)
set_option maxRecDepth 100000 in
theorem tSe_in : GoodIn lw_tbl tSe_w := goodIn_r _ [1142, 1154, 1159, 1164, 1168, 1176, 1022, 1030, 5, 1046, 1050, 1041, 1059, 1067, 1071, 577, 581, 634, 606, 610, 614, 585, 589, 771, 1279, 807, 815, 839, 894, 867, 855, 863, 885, 889, 898, 902, 473, 484, 492, 507, 527, 548, 542, 552, 560, 564, 556, 519, 500, 515, 496, 480, 488, 511, 535, 531, 938, 4, 949, 955, 1226, 1240, 1249, 1253, 1262, 1266, 1270, 1258, 969, 1006, 1002, 973, 981, 987, 996, 779, 799, 820, 811, 790, 916, 923, 928, 1185, 1193, 1130, 1080, 6, 7, 1126, 1118, 1084, 1088, 1096, 1100, 1107, 523, 1092, 569, 686, 691, 707, 738, 703, 716, 725, 454, 0, 462, 469, 675, 699, 712, 721, 730, 734, 2, 751, 755, 759, 3, 767, 795, 803, 831, 847, 851, 877, 881, 908, 912, 934, 961, 965, 1010, 1014, 1018, 1026, 1054, 1063, 1076, 1134, 1138, 1146, 1150, 1172, 1181, 1211, 1215, 1222, 1236, 1245, 1275, 1, 1530, 8, 1538, 12, 11, 10, 13, 16, 15, 23, 22, 14, 18, 19, 17, 9, 21, 20, 1542, 24, 27, 26, 25, 28, 31, 30, 29, 1636, 1660, 32, 1665, 1673, 1678, 1687, 1691, 1695, 1700, 1704, 1716, 34, 33, 1720, 1732, 1736, 37, 36, 35, 1740, 1765, 39, 40, 38, 1769, 1785, 41, 1789, 42, 43, 44, 1804, 1816, 1820, 45, 1828, 1832, 1837, 46, 1842, 1850, 1855, 49, 51, 48, 50, 52, 47, 53, 56, 54, 55, 1859, 1903, 1907, 1911, 59, 58, 57, 1915, 1931, 60, 1935, 1949, 1953, 61, 62, 1957, 63, 1969, 1977, 1981] (by decide +kernel) (by decide +kernel)
def tIz : List Nat := [0, 1, 2, 3, 4, 5, 6, 7, 8, 9, 10, 11, 12, 13, 14, 15, 16, 17, 18, 19, 20, 21, 22, 23, 24, 25, 26, 27, 28, 29, 30, 31, 32, 33, 34, 35, 36, 37, 38, 39, 40, 41, 42, 43, 44, 45, 46, 47, 48, 49, 50, 51, 52, 53, 54, 55, 56, 57, 58, 59, 60, 61, 62, 63, 64, 65, 66, 67, 68, 69, 70, 71, 72, 73, 74, 75, 76, 77, 78, 79, 80, 81, 82, 83, 84, 85, 86, 87, 88, 89, 90, 91, 92, 93, 94, 95, 96, 97, 98, 99, 100, 101, 102, 103, 104, 105, 106, 107, 108, 109, 110, 111, 112, 113, 114, 115, 116, 117, 118, 119, 120, 121, 122, 123, 124, 125, 126, 127, 128, 129, 130, 131, 132, 133, 134, 135, 136, 137, 138, 139, 140, 141, 142, 143, 144, 145, 146, 147, 148, 149, 150, 151, 152, 153, 154, 155, 156, 157, 158, 159, 160, 161, 162, 163, 164, 165, 166, 167, 168, 169, 170, 171, 172, 173, 174, 175, 176, 177, 178, 179, 180, 181, 182, 183, 184, 185, 186, 187, 188, 189, 190, 191, 192, 193, 194, 195, 196, 197, 198, 199, 200, 201, 202, 203, 204, 205, 206, 207, 208, 209, 210, 211, 212, 213, 214, 215, 216, 217, 218, 219, 220, 221, 222, 223, 224, 225, 226, 227, 228, 229, 230, 231, 232, 233, 234, 235, 236, 237, 238, 239, 240, 241, 242, 243, 244, 245, 246, 247, 248, 249, 250, 251, 252, 253, 254, 255, 256, 257, 258, 259, 260, 261, 262, 263, 264, 265, 266, 267, 268, 269, 270, 271, 272, 273, 274, 275, 276, 277, 278, 279, 280, 281, 282, 283, 284, 285, 286, 287, 288, 289, 290, 291, 292, 293, 294, 295, 296, 297, 298, 299, 300, 301, 302, 303, 304, 305, 306, 307, 308, 309, 310, 311, 312, 313, 314, 315]
def tIz_w : List Cond := tIz.map (fun i => .initialized (mI i).1.cls)
set_option maxRecDepth 100000 in
theorem tIz_in : GoodIn lw_tbl tIz_w := goodIn_r _ [77, 77, 77, 77, 77, 77, 77, 76, 76, 76, 76, 76, 76, 76, 76, 76, 76, 69, 69, 69, 69, 69, 69, 69, 69, 69, 69, 69, 69, 69, 69, 71, 71, 71, 71, 71, 71, 71, 71, 71, 71, 71, 71, 71, 71, 71, 71, 71, 71, 66, 66, 66, 66, 66, 66, 66, 66, 66, 66, 66, 66, 66, 66, 66, 66, 66, 66, 66, 66, 66, 66, 66, 74, 74, 74, 74, 74, 74, 74, 74, 74, 74, 74, 74, 74, 74, 75, 75, 75, 75, 75, 75, 75, 75, 75, 72, 72, 72, 72, 72, 72, 72, 72, 72, 72, 72, 72, 72, 72, 72, 72, 72, 72, 70, 70, 70, 70, 70, 70, 70, 70, 70, 70, 70, 70, 70, 70, 67, 67, 67, 67, 79, 79, 79, 79, 79, 79, 79, 79, 79, 65, 65, 65, 65, 65, 65, 65, 65, 65, 65, 65, 65, 65, 65, 65, 65, 65, 65, 65, 65, 65, 65, 65, 65, 65, 65, 65, 65, 65, 65, 65, 65, 65, 65, 65, 65, 65, 65, 65, 65, 65, 65, 65, 65, 65, 65, 65, 65, 65, 65, 65, 65, 65, 65, 65, 65, 65, 65, 78, 78, 78, 78, 78, 78, 78, 78, 78, 78, 78, 78, 78, 78, 78, 78, 78, 78, 78, 78, 78, 78, 78, 78, 78, 78, 78, 78, 78, 78, 78, 78, 78, 78, 78, 78, 78, 78, 78, 78, 78, 78, 78, 78, 78, 78, 78, 78, 78, 78, 78, 78, 78, 78, 78, 78, 78, 78, 78, 78, 78, 78, 78, 78, 78, 78, 78, 78, 78, 78, 78, 78, 78, 78, 78, 78, 78, 78, 78, 78, 78, 78, 78, 78, 78, 78, 78, 78, 78, 78, 78, 78, 78, 78, 78, 78, 78, 78, 78, 78, 78, 78, 78, 78, 78, 78, 78, 78, 78, 78, 78, 78, 78, 78, 82, 80, 73, 73] (by decide +kernel) (by decide +kernel)
def tCt : List Nat := [0, 7, 17, 31, 49, 72, 86, 95, 113, 127, 131, 140, 198]
def tLy : List Nat := [0, 1, 2, 3, 4, 5, 6, 7, 8, 9, 10, 11, 12]
def tLy_w : List Cond := tLy.map (fun i => .instantiable (cnm i) (nFl i))
set_option maxRecDepth 100000 in
theorem tLy_in : GoodIn lw_tbl tLy_w := goodIn_r _ [388, 358, 170, 212, 94, 284, 328, 219, 189, 100, 574, 84, 1282] (by decide +kernel) (by decide +kernel)
def tCi : List Nat := [0, 1, 2, 3, 4, 5, 6, 7, 8, 9, 10, 11, 12]
def tCi_w : List Cond := tCi.map (fun i => .initialized (cnm i))
set_option maxRecDepth 100000 in
theorem tCi_in : GoodIn lw_tbl tCi_w := goodIn_r _ [77, 76, 69, 71, 66, 74, 75, 72, 70, 67, 79, 65, 78] (by decide +kernel) (by decide +kernel)
set_option maxRecDepth 100000 in
theorem inX0 : GoodIn lw_tbl wsX00 := goodIn_r _ [399, 401, 403, 405] (by decide +kernel) (by decide +kernel)
set_option maxRecDepth 100000 in
theorem inX1 : GoodIn lw_tbl wsX10 := goodIn_r _ [372, 374, 376, 378, 380, 382, 384] (by decide +kernel) (by decide +kernel)
set_option maxRecDepth 100000 in
theorem inX2 : GoodIn lw_tbl wsX20 := goodIn_r _ [180, 182, 184] (by decide +kernel) (by decide +kernel)
set_option maxRecDepth 100000 in
theorem inX3 : GoodIn lw_tbl wsX30 := goodIn_r _ [268, 270, 272, 274, 276, 278, 280] (by decide +kernel) (by decide +kernel)
set_option maxRecDepth 100000 in
theorem inX4 : GoodIn lw_tbl wsX40 := goodIn_r _ [144, 146, 148, 150, 152, 154, 156, 158, 160, 162, 164, 166] (by decide +kernel) (by decide +kernel)
set_option maxRecDepth 100000 in
theorem inX5 : GoodIn lw_tbl wsX50 := goodIn_r _ [304, 306, 308, 310, 312, 314, 316, 318, 320, 322, 324] (by decide +kernel) (by decide +kernel)
set_option maxRecDepth 100000 in
theorem inX6 : GoodIn lw_tbl wsX60 := goodIn_r _ [342, 344, 346, 348, 350, 352, 354] (by decide +kernel) (by decide +kernel)
set_option maxRecDepth 100000 in
theorem inX7 : GoodIn lw_tbl wsX70 := goodIn_r _ [242, 244, 246, 248, 250, 252] (by decide +kernel) (by decide +kernel)
set_option maxRecDepth 100000 in
theorem inX8 : GoodIn lw_tbl wsX80 := goodIn_r _ [202, 204, 206, 208] (by decide +kernel) (by decide +kernel)
set_option maxRecDepth 100000 in
theorem inX9 : GoodIn lw_tbl wsX90 := goodIn_r _ [121, 123, 125, 127] (by decide +kernel) (by decide +kernel)
set_option maxRecDepth 100000 in
theorem inX10 : GoodIn lw_tbl wsX100 := goodIn_r _ [662, 664, 666, 668, 670] (by decide +kernel) (by decide +kernel)
set_option maxRecDepth 100000 in
theorem inX11 : GoodIn lw_tbl wsX110 := goodIn_r _ [423, 425, 427, 429, 431, 433, 435, 437, 439, 441, 443, 445, 447, 449] (by decide +kernel) (by decide +kernel)
set_option maxRecDepth 100000 in
theorem inX12 : GoodIn lw_tbl wsX120 := goodIn_r _ [1367, 1369, 1371, 1373, 1375, 1377, 1379, 1381, 1383, 1385, 1387, 1389, 1391, 1393, 1395, 1397, 1399, 1401, 1403, 1405, 1407, 1409, 1411, 1413, 1415, 1417, 1419, 1421, 1423, 1425, 1427, 1429, 1431, 1433, 1435, 1437, 1439, 1441, 1443, 1445, 1447, 1449, 1451, 1453, 1455, 1457, 1459, 1461, 1463, 1465, 1467, 1469, 1471, 1473, 1475, 1477, 1479, 1481, 1483, 1485, 1487, 1489, 1491, 1493, 1495, 1497, 1499, 1501, 1503, 1505, 1507, 1509, 1511, 1513, 1515, 1517, 1519, 1521, 1523] (by decide +kernel) (by decide +kernel)
def tNg : List Cond := [.arrayOver (.object RX7), .arrayOver (.object RX10), .arrayOver (.array .long), .laysStatic "WishWays" "GREATEST" "[I", .laysStatic "WishWays" "SHIFT" "[I", .fieldLinkNest (cnm 4) 121 "WishWays" "GREATEST" "[I" "WishWays"]
set_option maxRecDepth 100000 in
theorem tNg_in : ∀ w ∈ tNg, w ∈ lw_tbl := mem_r _ [218, 92, 176, 545, 643, 544] (by decide +kernel)
def tOd : List Cond := [.arrayClass .int, .arrayClass .long, .arrayClass .byte, .arrayClass .boolean, .instanceMethod objectInit, .static Lib.Math.max.name, .static Lib.Math.min.name, .initialized "java/lang/Math", .native arraycopyName, .static arraycopyName, .initialized "java/lang/System", .fieldLink (cnm 11) 348 "WishWays" "SHIFT" "[I", .fieldLink (cnm 11) 351 "WishWays" "GREATEST" "[I", .classLink (cnm 2) 11 "[[J", .code objectInit ⟨#[0xb1]⟩ 1 none, .code Lib.Math.max.name Lib.Math.max.code 2 (some .int), .code Lib.Math.min.name Lib.Math.min.code 2 (some .int)]
set_option maxRecDepth 100000 in
theorem tOd_in : GoodIn lw_tbl tOd := goodIn_r _ [130, 187, 1526, 1527, 89, 106, 476, 68, 628, 627, 81, 642, 644, 175, 90, 107, 477] (by decide +kernel) (by decide +kernel)
end
section
/-! THE LITTLE MACHINE AND THE JVM: what a state of the one says of the other's heap -/
def cv (v : Vl) : Value := match v with
  | .inl x => .int (Int32.ofInt x)
  | .inr (.inl x) => .long (Int64.ofBitVec x)
  | .inr (.inr (_, r)) => va_rf r
theorem cv_cat (v : Vl) : (cv v).category = cat v := by
  rcases v with x | x | ⟨t, _ | x⟩ <;> rfl
theorem cv_sum (st : List Vl) : ((st.map cv).map fun v => v.category).sum = stW st := by
  unfold stW
  rw [List.map_map]
  congr 1
  exact List.map_congr_left fun v _ => cv_cat v
def aTy : Nat → FieldType := fun t => if t = 13 then .byte else if t = 14 then .int else if t = 15 then .long else if t = 16 then .boolean else if t = 17 then .object RX7 else if t = 18 then .object RX10 else .array .long
def fV (σ : St) (c a k : Nat) : Value := match fKd c k with
  | 0 => .int (Int32.ofInt (gI σ a k))
  | 1 => .int (Int32.ofInt (gI σ a k))
  | 2 => .long (Int64.ofBitVec (gL σ a k))
  | _ => va_rf (gR σ a k)
def aV (σ : St) (t a k : Nat) : Value := if t = 15 then .long (Int64.ofBitVec (gL σ a k)) else if t ≤ 16 then .int (Int32.ofInt (gI σ a k)) else va_rf (gR σ a k)
def rTag (t k : Nat) : Option Nat := if t < 13 then (if 3 ≤ fKd t k then some (fKd t k - 3) else none) else if t = 17 then some 7 else if t = 18 then some 10 else if t = 19 then some 15 else none
/-- the law's first new address, its heap, the classes, their slots, the classes of arrays, the rows that nobody writes, the two static rows -/
abbrev Gc : Type := Nat × Heap × (Nat → ClassId) × (Nat → Nat → Nat) × (Nat → ClassId) × (Nat → Prop) × (Nat → Nat)
def gB (G : Gc) : Nat := G.1
def gH (G : Gc) : Heap := G.2.1
def gC (G : Gc) : Nat → ClassId := G.2.2.1
def gD (G : Gc) : Nat → Nat → Nat := G.2.2.2.1
def gA (G : Gc) : Nat → ClassId := G.2.2.2.2.1
def gZ (G : Gc) : Nat → Prop := G.2.2.2.2.2.1
def gS (G : Gc) : Nat → Nat := G.2.2.2.2.2.2
def Rel (G : Gc) (σ : St) (H : Heap) : Prop :=
  (H.size = nx σ ∧ gB G ≤ nx σ ∧ 0 < gB G) ∧
  (∀ q, q < gB G → H[q]? = (gH G)[q]?) ∧
  (∀ a, tg σ a < 13 → gB G ≤ a ∧ t_OB a (gC G (tg σ a)) (nFl (tg σ a)) (gD G (tg σ a)) H (fV σ (tg σ a) a)) ∧
  (∀ a, 13 ≤ tg σ a → tg σ a < 20 → gB G ≤ a ∧ ln σ a < 2147483648 ∧ H[a]? = some (arrV (gA G (tg σ a)) (ln σ a) (aV σ (tg σ a) a))) ∧
  (∀ a, tg σ a = 20 → a < gB G ∧ gZ G a ∧ ln σ a < 2147483648 ∧ ∃ cell : Cell, (gH G)[a]? = some cell ∧ cell.vm ≠ .unknown ∧ cell.slots.size = ln σ a ∧ ∀ j, j < ln σ a → cell.slots[j]? = some (.int (Int32.ofInt (gI σ a j)))) ∧
  (∀ a k, Rg (gI σ a k)) ∧
  (∀ a k t, rTag (tg σ a) k = some t → ∀ b, gR σ a k = some b → tg σ b = t) ∧
  (∀ i, i < 2 → ∀ q, gR σ 0 (1000 + i) = some q → q = gS G i ∧ tg σ q = 20)
def KN (G : Gc) (U : State) : Prop :=
  (∀ (c : Nat) (q : vw_C), vwCl[c]? = some q → u_Kn U q.1 q.2.1 q.2.2 (gC G c) (gD G c)) ∧
  (∀ t, 13 ≤ t → t < 20 → ArrOfT U (gA G t) (aTy t) ∧ va_RA U (gA G t) (aTy t)) ∧
  (∃ kA : Class, U.vm.classes[gA G 19]? = some kA ∧ kA.kind = .array (gA G 15) (.array .long)) ∧
  (va_AO RX7 U ∧ va_AO RX10 U ∧ (Cond.arrayOver (.array .long)).before #[] U = true) ∧
  (∀ w ∈ tMN_w, va_Nw w U) ∧ va_Nw (.fieldLinkNest (cnm 4) 121 "WishWays" "GREATEST" "[I" "WishWays") U ∧
  (va_Z "WishWays" "SHIFT" "[I" (.ref (gS G 0)) (fun q => gB G ≤ q) U (gH G) ∧ va_Z "WishWays" "GREATEST" "[I" (.ref (gS G 1)) (fun q => gB G ≤ q) U (gH G)) ∧
  (∀ (a : Nat) (cell : Cell), gZ G a → (gH G)[a]? = some cell → U.isArrayOf cell .int)
def OKv (σ : St) (v : Vl) : Prop := match v with
  | .inl x => Rg x
  | .inr (.inl _) => True
  | .inr (.inr (_, none)) => True
  | .inr (.inr (t, some b)) => t ≤ 20 ∧ tg σ b = t
def OKs (σ : St) (ls : Ls) (st : List Vl) : Prop := (∀ v ∈ st, OKv σ v) ∧ ∀ v, some v ∈ ls → OKv σ v
def LR (ls : Ls) (lsJ : Array Slot) (n : Nat) : Prop := lsJ.size = n ∧ lv_wf lsJ ∧ ls.length = n ∧ ∀ (i : Nat) (v : Vl), ls[i]? = some (some v) → lsJ[i]? = some (.val (cv v))
/-- the locals as the kit lists them -/
def enL (ls : Ls) : List (Nat × Value) := (List.range ls.length).filterMap fun i => match ls[i]? with
  | some (some v) => some (i, cv v)
  | _ => none
theorem enL_mem {ls : Ls} {i : Nat} {w : Value} : (i, w) ∈ enL ls ↔ ∃ v, ls[i]? = some (some v) ∧ w = cv v := by
  unfold enL
  rw [List.mem_filterMap]
  constructor
  · rintro ⟨j, hj, h⟩
    split at h
    · rename_i v hv
      cases h
      exact ⟨v, hv, rfl⟩
    · cases h
  · rintro ⟨v, hv, rfl⟩
    refine ⟨i, List.mem_range.mpr ?_, ?_⟩
    · rcases Nat.lt_or_ge i ls.length with q | q
      · exact q
      · rw [List.getElem?_eq_none q] at hv
        cases hv
    · rw [hv]
theorem LR.has {ls : Ls} {lsJ : Array Slot} {n : Nat} (h : LR ls lsJ n) : lv_has lsJ n (enL ls) := by
  refine ⟨h.1, h.2.1, fun q hq => ?_⟩
  obtain ⟨v, hv, e⟩ := enL_mem.mp (show (q.1, q.2) ∈ enL ls from hq)
  rw [e]
  exact h.2.2.2 _ _ hv
theorem LR.of {ls : Ls} {lsJ : Array Slot} {n : Nat} {l : List (Nat × Value)} (h : lv_has lsJ n l) (hl : ls.length = n) (hm : ∀ i v, ls[i]? = some (some v) → (i, cv v) ∈ l) : LR ls lsJ n :=
  ⟨h.1, h.2.1, hl, fun i v hv => h.2.2 (i, cv v) (hm i v hv)⟩
theorem lInv_len (ls : Ls) (i : Nat) : (lInv ls i).length = ls.length := by
  unfold lInv
  cases i with
  | zero => rfl
  | succ j => dsimp only; split <;> simp
theorem lInv_get {ls : Ls} {i j : Nat} {v : Vl} (h : (lInv ls i)[j]? = some (some v)) : ls[j]? = some (some v) ∧ ¬ (j + 1 = i ∧ cat v = 2) := by
  unfold lInv at h
  cases i with
  | zero => exact ⟨h, fun q => by omega⟩
  | succ k =>
    dsimp only at h
    split at h
    · rename_i x hx
      by_cases e : j = k
      · subst e
        rw [List.getElem?_set] at h
        simp at h
      · rw [List.getElem?_set_ne (fun q => e q.symm)] at h
        exact ⟨h, fun q => e (by omega)⟩
    · rename_i hx
      refine ⟨h, fun q => ?_⟩
      have e : j = k := by omega
      subst e
      rcases v with x | x | x
      · simp [cat] at q
      · exact hx x h
      · simp [cat] at q
theorem lSet1_get {ls : Ls} {i j : Nat} {w v : Vl} (h : (lSet1 ls i w)[j]? = some (some v)) : (j = i ∧ v = w) ∨ (j ≠ i ∧ ls[j]? = some (some v) ∧ ¬ (j + 1 = i ∧ cat v = 2)) := by
  unfold lSet1 at h
  by_cases e : j = i
  · subst e
    rw [List.getElem?_set] at h
    simp at h
    exact Or.inl ⟨rfl, h.2.symm⟩
  · rw [List.getElem?_set_ne (fun q => e q.symm)] at h
    exact Or.inr ⟨e, lInv_get h⟩
theorem lSet2_get {ls : Ls} {i j : Nat} {w v : Vl} (h : (lSet2 ls i w)[j]? = some (some v)) : (j = i ∧ v = w) ∨ (j ≠ i ∧ j ≠ i + 1 ∧ ls[j]? = some (some v) ∧ ¬ (j + 1 = i ∧ cat v = 2)) := by
  unfold lSet2 at h
  by_cases e : j = i + 1
  · subst e
    rw [List.getElem?_set] at h
    simp at h
  · rw [List.getElem?_set_ne (fun q => e q.symm)] at h
    by_cases e2 : j = i
    · subst e2
      rw [List.getElem?_set] at h
      simp at h
      exact Or.inl ⟨rfl, h.2.symm⟩
    · rw [List.getElem?_set_ne (fun q => e2 q.symm)] at h
      exact Or.inr ⟨e2, e, lInv_get h⟩
theorem lSet1_len (ls : Ls) (i : Nat) (w : Vl) : (lSet1 ls i w).length = ls.length := by simp [lSet1, lInv_len]
theorem lSet2_len (ls : Ls) (i : Nat) (w : Vl) : (lSet2 ls i w).length = ls.length := by simp [lSet2, lInv_len]
theorem LR.set1 {ls : Ls} {lsJ lsJ' : Array Slot} {n i : Nat} {w : Vl} (h : LR ls lsJ n) (h' : lv_has lsJ' n ((i, cv w) :: (enL ls).filter (fun q => !(q.1 == i) && !(q.1 + 1 == i && q.2.category == 2)))) : LR (lSet1 ls i w) lsJ' n := by
  refine LR.of h' (by rw [lSet1_len]; exact h.2.2.1) fun j v hv => ?_
  rcases lSet1_get hv with ⟨rfl, rfl⟩ | ⟨e, hv, hc⟩
  · exact List.mem_cons_self
  · refine List.mem_cons_of_mem _ (List.mem_filter.mpr ⟨enL_mem.mpr ⟨v, hv, rfl⟩, ?_⟩)
    rw [show (cv v).category = cat v from cv_cat v]
    by_cases e1 : j + 1 = i
    · have : ¬ cat v = 2 := fun q => hc ⟨e1, q⟩
      simp [e, this]
    · simp [e, e1]
theorem LR.set2 {ls : Ls} {lsJ lsJ' : Array Slot} {n i : Nat} {w : Vl} (h : LR ls lsJ n) (h' : lv_has lsJ' n ((i, cv w) :: (enL ls).filter (fun q => !(q.1 == i) && (!(q.1 == i + 1) && !(q.1 + 1 == i && q.2.category == 2))))) : LR (lSet2 ls i w) lsJ' n := by
  refine LR.of h' (by rw [lSet2_len]; exact h.2.2.1) fun j v hv => ?_
  rcases lSet2_get hv with ⟨rfl, rfl⟩ | ⟨e, e2, hv, hc⟩
  · exact List.mem_cons_self
  · refine List.mem_cons_of_mem _ (List.mem_filter.mpr ⟨enL_mem.mpr ⟨v, hv, rfl⟩, ?_⟩)
    rw [show (cv v).category = cat v from cv_cat v]
    by_cases e1 : j + 1 = i
    · have : ¬ cat v = 2 := fun q => hc ⟨e1, q⟩
      simp [e, e2, this]
    · simp [e, e1, e2]
theorem OKs.set1 {σ : St} {ls : Ls} {st : List Vl} {i : Nat} {w : Vl} (h : OKs σ ls (w :: st)) : OKs σ (lSet1 ls i w) st := by
  refine ⟨fun v hv => h.1 v (List.mem_cons_of_mem _ hv), fun v hv => ?_⟩
  obtain ⟨j, hj⟩ := List.getElem?_of_mem hv
  rcases lSet1_get hj with ⟨-, rfl⟩ | ⟨-, hv, -⟩
  · exact h.1 _ List.mem_cons_self
  · exact h.2 v (List.mem_of_getElem? hv)
theorem OKs.set2 {σ : St} {ls : Ls} {st : List Vl} {i : Nat} {w : Vl} (h : OKs σ ls (w :: st)) : OKs σ (lSet2 ls i w) st := by
  refine ⟨fun v hv => h.1 v (List.mem_cons_of_mem _ hv), fun v hv => ?_⟩
  obtain ⟨j, hj⟩ := List.getElem?_of_mem hv
  rcases lSet2_get hj with ⟨-, rfl⟩ | ⟨-, -, hv, -⟩
  · exact h.1 _ List.mem_cons_self
  · exact h.2 v (List.mem_of_getElem? hv)
theorem OKs.push {σ : St} {ls : Ls} {st : List Vl} {v : Vl} (h : OKs σ ls st) (hv : OKv σ v) : OKs σ ls (v :: st) := ⟨fun w hw => by
  rcases List.mem_cons.mp hw with rfl | hw
  · exact hv
  · exact h.1 w hw, h.2⟩
theorem OKs.pop {σ : St} {ls : Ls} {st : List Vl} {v : Vl} (h : OKs σ ls (v :: st)) : OKs σ ls st := ⟨fun w hw => h.1 w (List.mem_cons_of_mem _ hw), h.2⟩
theorem OKs.top {σ : St} {ls : Ls} {st : List Vl} {v : Vl} (h : OKs σ ls (v :: st)) : OKv σ v := h.1 v List.mem_cons_self
theorem OKs.loc {σ : St} {ls : Ls} {st : List Vl} {i : Nat} {v : Vl} (h : OKs σ ls st) (hv : ls[i]? = some (some v)) : OKv σ v := h.2 v (List.mem_of_getElem? hv)
theorem OKv.mono {σ σ' : St} {v : Vl} (h : OKv σ v) (ht : ∀ b, tg σ b ≤ 20 → tg σ' b = tg σ b) : OKv σ' v := by
  rcases v with x | x | ⟨t, _ | b⟩
  · exact h
  · trivial
  · trivial
  · refine ⟨h.1, ?_⟩
    rw [ht b (by rw [h.2]; exact h.1)]
    exact h.2
theorem OKs.mono {σ σ' : St} {ls : Ls} {st : List Vl} (h : OKs σ ls st) (ht : ∀ b, tg σ b ≤ 20 → tg σ' b = tg σ b) : OKs σ' ls st := ⟨fun v hv => (h.1 v hv).mono ht, fun v hv => (h.2 v hv).mono ht⟩
/-! numbers -/
theorem rg_toInt {x : Int} (h : Rg x) : (Int32.ofInt x).toInt = x := by
  rw [Int32.toInt_ofInt]
  obtain ⟨h1, h2⟩ := h
  simp only [Int32.size] 
  rw [Int.bmod_eq_of_le_mul_two] <;> omega
theorem rg_of (x : Int32) : Rg x.toInt := ⟨Int32.le_toInt x, by have := Int32.toInt_lt x; omega⟩
theorem ofInt_toInt (x : Int32) : Int32.ofInt x.toInt = x := Int32.ofInt_toInt x
theorem rg_eq {x y : Int} (hx : Rg x) (hy : Rg y) : Int32.ofInt x = Int32.ofInt y ↔ x = y := by
  rw [← Int32.toInt_inj, rg_toInt hx, rg_toInt hy]
theorem rg_le {x y : Int} (hx : Rg x) (hy : Rg y) : Int32.ofInt x ≤ Int32.ofInt y ↔ x ≤ y := by
  rw [Int32.le_iff_toInt_le, rg_toInt hx, rg_toInt hy]
theorem rg_lt {x y : Int} (hx : Rg x) (hy : Rg y) : Int32.ofInt x < Int32.ofInt y ↔ x < y := by
  rw [Int32.lt_iff_toInt_lt, rg_toInt hx, rg_toInt hy]
theorem rg_0 : Rg 0 := ⟨by decide, by decide⟩
theorem rg_clamp {x : Int} (hx : Rg x) : (Int32.ofInt x).toNatClampNeg = x.toNat := by
  rw [Int32.toNatClampNeg, rg_toInt hx]
theorem rg_inb {x : Int} {n : Nat} (hx : Rg x) (h : 0 ≤ x ∧ x < (n : Int)) : ¬ (Int32.ofInt x < 0 ∨ n ≤ (Int32.ofInt x).toNatClampNeg) := by
  rw [rg_clamp hx, show (0 : Int32) = Int32.ofInt 0 from rfl, rg_lt hx rg_0]
  omega
end
section
theorem rg_idiv {x y : Int} (hx : Rg x) (hy : Rg y) (h : 0 ≤ x ∧ 0 < y) : Int32.ofInt x / Int32.ofInt y = Int32.ofInt (x / y) ∧ Rg (x / y) := by
  obtain ⟨a, rfl⟩ := Int.eq_ofNat_of_zero_le h.1
  obtain ⟨b, rfl⟩ := Int.eq_ofNat_of_zero_le (Int.le_of_lt h.2)
  obtain ⟨-, ha⟩ := hx
  obtain ⟨-, hb⟩ := hy
  have e := pk_div (a := a) (d := b) (by omega) (by omega) (by omega)
  have hq : a / b ≤ a := Nat.div_le_self a b
  refine ⟨?_, ?_⟩
  · rw [← Int.natCast_ediv]
    exact e
  · rw [← Int.natCast_ediv]
    generalize a / b = t at hq
    exact ⟨by omega, by omega⟩
theorem rg_irem {x y : Int} (hx : Rg x) (hy : Rg y) (h : 0 ≤ x ∧ 0 < y) : Int32.ofInt x - Int32.ofInt x / Int32.ofInt y * Int32.ofInt y = Int32.ofInt (x % y) ∧ Rg (x % y) := by
  obtain ⟨a, rfl⟩ := Int.eq_ofNat_of_zero_le h.1
  obtain ⟨b, rfl⟩ := Int.eq_ofNat_of_zero_le (Int.le_of_lt h.2)
  obtain ⟨-, ha⟩ := hx
  obtain ⟨-, hb⟩ := hy
  have e := pk_rem (a := a) (d := b) (by omega) (by omega) (by omega)
  have hq : a % b ≤ a := Nat.mod_le a b
  refine ⟨?_, ?_⟩
  · rw [← Int.natCast_emod]
    exact e
  · rw [← Int.natCast_emod]
    exact ⟨by omega, by omega⟩
theorem lcmp_of (x y : BitVec 64) : lg_cmp (Int64.ofBitVec x) (Int64.ofBitVec y) = Int32.ofInt (lCmp x y) := by
  unfold lg_cmp lCmp
  simp only [gt_iff_lt, Int64.lt_iff_toInt_lt, ← Int64.toInt_inj, Int64.toInt_ofBitVec]
  split
  · rfl
  · split <;> rfl
theorem lcmp_rg (x y : BitVec 64) : Rg (lCmp x y) := by
  unfold lCmp
  split
  · exact ⟨by decide, by decide⟩
  · split
    · exact ⟨by decide, by decide⟩
    · exact ⟨by decide, by decide⟩
theorem i2l_of {x : Int} (h : Rg x) : (Int32.ofInt x).toInt64 = Int64.ofBitVec (BitVec.ofInt 64 x) := by
  rw [← Int64.toInt_inj, Int32.toInt_toInt64, rg_toInt h, Int64.toInt_ofBitVec, BitVec.toInt_ofInt]
  obtain ⟨h1, h2⟩ := h
  rw [Int.bmod_eq_of_le_mul_two] <;> omega
/-! THE MACHINE'S ROWS, each as a row of the JVM -/
def gt : List Cond := lw_tbl.filter goodWord
theorem gt_of {w : Cond} (h : w ∈ lw_tbl ∧ ((w.onTables && w.keeps) = true ∨ ∃ ty, w = .arrayClass ty)) : w ∈ gt := by
  refine List.mem_filter.mpr ⟨h.1, ?_⟩
  rcases h.2 with h | ⟨ty, rfl⟩
  · cases w <;> first | rfl | exact h
  · rfl
theorem gt_good {w : Cond} (h : w ∈ gt) : (w.onTables && w.keeps) = true ∨ ∃ ty, w = .arrayClass ty := good_of_word (List.mem_filter.mp h).2
def Cx (G : Gc) (own : Nat) (p : Program) (s : State) (m : MethodId) (args : Array Value) : Prop := p.tables.exec = Jvm.exec ∧ s.vm.findClass (cnm own) = some m.cls ∧ (∀ w ∈ gt, w.before args s = true) ∧ KN G s
def KW (p : Program) (l : Launch) (e : Env) (R : Room) (s : State) (m : MethodId) (args : Array Value) (below : List Frame) (meth : Method) (c : Code) (Q : State → Prop) (G : Gc) (n0 s0 : Nat) (σ : St) (ls : Ls) (st : List Vl) (pc : Nat) : Prop :=
  ∀ (H : Heap) (locs : List Loc) (lsJ : Array Slot), Rel G σ H → (∀ q ∈ locs, gB G ≤ q.base) → LR ls lsJ c.maxLocals → OKs σ ls st → W p l e R s m args below meth c H locs (nx σ - n0) (sl σ - s0) Q (F0 m pc lsJ (st.map cv))
section KR
variable {p : Program} {l : Launch} {e : Env} {R : Room} {s : State} {m : MethodId} {args : Array Value} {below : List Frame} {meth : Method} {c : Code} {Q : State → Prop} {G : Gc} {n0 s0 own : Nat} {σ : St} {ls : Ls} {st : List Vl} {pc : Nat}

theorem k_loadI (C : Cx G own p s m args) {i : Nat} {x : Int} (hd : decode c.code pc = .ok (.iload i, 2)) (h : ls[i]? = some (some (vI x))) (k : KW p l e R s m args below meth c Q G n0 s0 σ ls (vI x :: st) (pc + 2)) : KW p l e R s m args below meth c Q G n0 s0 σ ls st pc := by
  intro H locs lsJ hR hl hL hO
  exact lv_iload C.1 rfl hd (hL.2.2.2 i _ h) (k H locs lsJ hR hl hL (hO.push (hO.loc h)))

theorem k_loadIn (C : Cx G own p s m args) {i : Fin 4} {x : Int} (hd : decode c.code pc = .ok (.iload_n i, 1)) (h : ls[i.val]? = some (some (vI x))) (k : KW p l e R s m args below meth c Q G n0 s0 σ ls (vI x :: st) (pc + 1)) : KW p l e R s m args below meth c Q G n0 s0 σ ls st pc := by
  intro H locs lsJ hR hl hL hO
  exact lv_iload_n C.1 rfl hd rfl (hL.2.2.2 i.val _ h) (k H locs lsJ hR hl hL (hO.push (hO.loc h)))

theorem k_loadL (C : Cx G own p s m args) {i : Nat} {x : BitVec 64} (hd : decode c.code pc = .ok (.lload i, 2)) (h : ls[i]? = some (some (vL x))) (k : KW p l e R s m args below meth c Q G n0 s0 σ ls (vL x :: st) (pc + 2)) : KW p l e R s m args below meth c Q G n0 s0 σ ls st pc := by
  intro H locs lsJ hR hl hL hO
  exact lv_lload C.1 rfl hd (hL.2.2.2 i _ h) (k H locs lsJ hR hl hL (hO.push (hO.loc h)))

theorem k_loadLn (C : Cx G own p s m args) {i : Fin 4} {x : BitVec 64} (hd : decode c.code pc = .ok (.lload_n i, 1)) (h : ls[i.val]? = some (some (vL x))) (k : KW p l e R s m args below meth c Q G n0 s0 σ ls (vL x :: st) (pc + 1)) : KW p l e R s m args below meth c Q G n0 s0 σ ls st pc := by
  intro H locs lsJ hR hl hL hO
  exact lv_lload_n C.1 rfl hd rfl (hL.2.2.2 i.val _ h) (k H locs lsJ hR hl hL (hO.push (hO.loc h)))

theorem k_loadA (C : Cx G own p s m args) {i t : Nat} {q : Option Nat} (hd : decode c.code pc = .ok (.aload i, 2)) (h : ls[i]? = some (some (vR t q))) (k : KW p l e R s m args below meth c Q G n0 s0 σ ls (vR t q :: st) (pc + 2)) : KW p l e R s m args below meth c Q G n0 s0 σ ls st pc := by
  intro H locs lsJ hR hl hL hO
  have hj := hL.2.2.2 i _ h
  have k := k H locs lsJ hR hl hL (hO.push (hO.loc h))
  cases q with
  | none => exact lv_aloadN C.1 rfl hd hj k
  | some q => exact lv_aload C.1 rfl hd hj k

theorem k_loadAn (C : Cx G own p s m args) {i : Fin 4} {t : Nat} {q : Option Nat} (hd : decode c.code pc = .ok (.aload_n i, 1)) (h : ls[i.val]? = some (some (vR t q))) (k : KW p l e R s m args below meth c Q G n0 s0 σ ls (vR t q :: st) (pc + 1)) : KW p l e R s m args below meth c Q G n0 s0 σ ls st pc := by
  intro H locs lsJ hR hl hL hO
  have hj := hL.2.2.2 i.val _ h
  have k := k H locs lsJ hR hl hL (hO.push (hO.loc h))
  cases q with
  | none => exact lv_aload_nN C.1 rfl hd rfl hj k
  | some q => exact lv_aload_n C.1 rfl hd rfl hj k

theorem k_stoI (C : Cx G own p s m args) {i : Nat} {x : Int} (hd : decode c.code pc = .ok (.istore i, 2)) (h : i < ls.length) (k : KW p l e R s m args below meth c Q G n0 s0 σ (lSet1 ls i (vI x)) st (pc + 2)) : KW p l e R s m args below meth c Q G n0 s0 σ ls (vI x :: st) pc := by
  intro H locs lsJ hR hl hL hO
  refine lv_istore C.1 rfl hd hL.has (by rw [← hL.2.2.1]; exact h) rfl fun lsJ' h' => ?_
  exact k H locs lsJ' hR hl (hL.set1 (w := vI x) h') hO.set1

theorem k_stoIn (C : Cx G own p s m args) {i : Fin 4} {x : Int} (hd : decode c.code pc = .ok (.istore_n i, 1)) (h : i.val < ls.length) (k : KW p l e R s m args below meth c Q G n0 s0 σ (lSet1 ls i.val (vI x)) st (pc + 1)) : KW p l e R s m args below meth c Q G n0 s0 σ ls (vI x :: st) pc := by
  intro H locs lsJ hR hl hL hO
  refine lv_istore_n C.1 rfl hd rfl hL.has (by rw [← hL.2.2.1]; exact h) rfl fun lsJ' h' => ?_
  exact k H locs lsJ' hR hl (hL.set1 (w := vI x) h') hO.set1

theorem k_stoL (C : Cx G own p s m args) {i : Nat} {x : BitVec 64} (hd : decode c.code pc = .ok (.lstore i, 2)) (h : i + 1 < ls.length) (k : KW p l e R s m args below meth c Q G n0 s0 σ (lSet2 ls i (vL x)) st (pc + 2)) : KW p l e R s m args below meth c Q G n0 s0 σ ls (vL x :: st) pc := by
  intro H locs lsJ hR hl hL hO
  refine lv_lstore C.1 rfl hd hL.has (by rw [← hL.2.2.1]; exact h) rfl fun lsJ' h' => ?_
  exact k H locs lsJ' hR hl (hL.set2 (w := vL x) h') hO.set2

theorem k_stoLn (C : Cx G own p s m args) {i : Fin 4} {x : BitVec 64} (hd : decode c.code pc = .ok (.lstore_n i, 1)) (h : i.val + 1 < ls.length) (k : KW p l e R s m args below meth c Q G n0 s0 σ (lSet2 ls i.val (vL x)) st (pc + 1)) : KW p l e R s m args below meth c Q G n0 s0 σ ls (vL x :: st) pc := by
  intro H locs lsJ hR hl hL hO
  refine lv_lstore_n C.1 rfl hd rfl hL.has (by rw [← hL.2.2.1]; exact h) rfl fun lsJ' h' => ?_
  exact k H locs lsJ' hR hl (hL.set2 (w := vL x) h') hO.set2

theorem k_stoA (C : Cx G own p s m args) {i : Nat} {t : Nat} {q : Option Nat} (hd : decode c.code pc = .ok (.astore i, 2)) (h : i < ls.length) (k : KW p l e R s m args below meth c Q G n0 s0 σ (lSet1 ls i (vR t q)) st (pc + 2)) : KW p l e R s m args below meth c Q G n0 s0 σ ls (vR t q :: st) pc := by
  intro H locs lsJ hR hl hL hO
  have hn : i < c.maxLocals := by rw [← hL.2.2.1]; exact h
  cases q with
  | none =>
    refine lv_astoreN C.1 rfl hd hL.has hn rfl fun lsJ' h' => ?_
    exact k H locs lsJ' hR hl (hL.set1 (w := vR t none) h') hO.set1
  | some q =>
    refine lv_astore C.1 rfl hd hL.has hn rfl fun lsJ' h' => ?_
    exact k H locs lsJ' hR hl (hL.set1 (w := vR t (some q)) h') hO.set1

theorem k_stoAn (C : Cx G own p s m args) {i : Fin 4} {t : Nat} {q : Option Nat} (hd : decode c.code pc = .ok (.astore_n i, 1)) (h : i.val < ls.length) (k : KW p l e R s m args below meth c Q G n0 s0 σ (lSet1 ls i.val (vR t q)) st (pc + 1)) : KW p l e R s m args below meth c Q G n0 s0 σ ls (vR t q :: st) pc := by
  intro H locs lsJ hR hl hL hO
  have hn : i.val < c.maxLocals := by rw [← hL.2.2.1]; exact h
  cases q with
  | none =>
    refine lv_astore_nN C.1 rfl hd rfl hL.has hn rfl fun lsJ' h' => ?_
    exact k H locs lsJ' hR hl (hL.set1 (w := vR t none) h') hO.set1
  | some q =>
    refine lv_astore_n C.1 rfl hd rfl hL.has hn rfl fun lsJ' h' => ?_
    exact k H locs lsJ' hR hl (hL.set1 (w := vR t (some q)) h') hO.set1

theorem k_iconst (C : Cx G own p s m args) {n z : Int} (hd : decode c.code pc = .ok (.iconst n, 1)) (h : n = z) (hz : Rg z) (k : KW p l e R s m args below meth c Q G n0 s0 σ ls (vI z :: st) (pc + 1)) : KW p l e R s m args below meth c Q G n0 s0 σ ls st pc := by
  intro H locs lsJ hR hl hL hO
  subst h
  exact lv_iconst C.1 rfl hd rfl (k H locs lsJ hR hl hL (hO.push hz))

theorem k_bipush (C : Cx G own p s m args) {n z : Int} (hd : decode c.code pc = .ok (.bipush n, 2)) (h : (Int8.ofInt n).toInt32 = Int32.ofInt z) (hz : Rg z) (k : KW p l e R s m args below meth c Q G n0 s0 σ ls (vI z :: st) (pc + 2)) : KW p l e R s m args below meth c Q G n0 s0 σ ls st pc := by
  intro H locs lsJ hR hl hL hO
  exact lv_bipush C.1 rfl hd h (k H locs lsJ hR hl hL (hO.push hz))

theorem k_sipush (C : Cx G own p s m args) {n z : Int} (hd : decode c.code pc = .ok (.sipush n, 3)) (h : (Int16.ofInt n).toInt32 = Int32.ofInt z) (hz : Rg z) (k : KW p l e R s m args below meth c Q G n0 s0 σ ls (vI z :: st) (pc + 3)) : KW p l e R s m args below meth c Q G n0 s0 σ ls st pc := by
  intro H locs lsJ hR hl hL hO
  exact lv_sipush C.1 rfl hd h (k H locs lsJ hR hl hL (hO.push hz))

theorem k_ldc (C : Cx G own p s m args) {i : Nat} {z : Int} (hd : decode c.code pc = .ok (.ldc i, 2)) (h : (own, i, z) ∈ tKI) (hz : Rg z) (k : KW p l e R s m args below meth c Q G n0 s0 σ ls (vI z :: st) (pc + 2)) : KW p l e R s m args below meth c Q G n0 s0 σ ls st pc := by
  intro H locs lsJ hR hl hL hO
  exact lv_ldc C.1 rfl C.2.1 (C.2.2.1 _ (gt_of (tKI_in _ (List.mem_map_of_mem h)))) hd (k H locs lsJ hR hl hL (hO.push hz))

theorem k_ldcw (C : Cx G own p s m args) {i : Nat} {z : Int} (hd : decode c.code pc = .ok (.ldc_w i, 3)) (h : (own, i, z) ∈ tKI) (hz : Rg z) (k : KW p l e R s m args below meth c Q G n0 s0 σ ls (vI z :: st) (pc + 3)) : KW p l e R s m args below meth c Q G n0 s0 σ ls st pc := by
  intro H locs lsJ hR hl hL hO
  exact lv_ldcw C.1 rfl C.2.1 (C.2.2.1 _ (gt_of (tKI_in _ (List.mem_map_of_mem h)))) hd (k H locs lsJ hR hl hL (hO.push hz))

theorem k_ldc2 (C : Cx G own p s m args) {i : Nat} {z : Int} (hd : decode c.code pc = .ok (.ldc2_w i, 3)) (h : (own, i, z) ∈ tKL) (k : KW p l e R s m args below meth c Q G n0 s0 σ ls (vL (BitVec.ofInt 64 z) :: st) (pc + 3)) : KW p l e R s m args below meth c Q G n0 s0 σ ls st pc := by
  intro H locs lsJ hR hl hL hO
  exact lv_ldc2 C.1 rfl C.2.1 (C.2.2.1 _ (gt_of (tKL_in _ (List.mem_map_of_mem h)))) hd (k H locs lsJ hR hl hL (hO.push (v := vL _) trivial))

theorem k_lconst (C : Cx G own p s m args) {n : Fin 2} {z : Int} (hd : decode c.code pc = .ok (.lconst n, 1)) (h : Int64.ofNat n.val = Int64.ofBitVec (BitVec.ofInt 64 z)) (k : KW p l e R s m args below meth c Q G n0 s0 σ ls (vL (BitVec.ofInt 64 z) :: st) (pc + 1)) : KW p l e R s m args below meth c Q G n0 s0 σ ls st pc := by
  intro H locs lsJ hR hl hL hO
  exact lv_lconst C.1 rfl hd h (k H locs lsJ hR hl hL (hO.push (v := vL _) trivial))

theorem k_null (C : Cx G own p s m args) {t : Nat} (hd : decode c.code pc = .ok (.aconst_null, 1)) (k : KW p l e R s m args below meth c Q G n0 s0 σ ls (vR t none :: st) (pc + 1)) : KW p l e R s m args below meth c Q G n0 s0 σ ls st pc := by
  intro H locs lsJ hR hl hL hO
  exact lv_null C.1 rfl hd (k H locs lsJ hR hl hL (hO.push (v := vR t none) trivial))

theorem k_iadd (C : Cx G own p s m args) {x y : Int} (hd : decode c.code pc = .ok (.iadd, 1)) (h : Rg (x + y)) (k : KW p l e R s m args below meth c Q G n0 s0 σ ls (vI (x + y) :: st) (pc + 1)) : KW p l e R s m args below meth c Q G n0 s0 σ ls (vI y :: vI x :: st) pc := by
  intro H locs lsJ hR hl hL hO
  refine lv_iadd C.1 rfl hd ?_
  rw [← Int32.ofInt_add]
  exact k H locs lsJ hR hl hL (hO.pop.pop.push h)

theorem k_isub (C : Cx G own p s m args) {x y : Int} (hd : decode c.code pc = .ok (.isub, 1)) (h : Rg (x - y)) (k : KW p l e R s m args below meth c Q G n0 s0 σ ls (vI (x - y) :: st) (pc + 1)) : KW p l e R s m args below meth c Q G n0 s0 σ ls (vI y :: vI x :: st) pc := by
  intro H locs lsJ hR hl hL hO
  refine lv_isub C.1 rfl hd ?_
  rw [← Int32.ofInt_sub]
  exact k H locs lsJ hR hl hL (hO.pop.pop.push h)

theorem k_imul (C : Cx G own p s m args) {x y : Int} (hd : decode c.code pc = .ok (.imul, 1)) (h : Rg (x * y)) (k : KW p l e R s m args below meth c Q G n0 s0 σ ls (vI (x * y) :: st) (pc + 1)) : KW p l e R s m args below meth c Q G n0 s0 σ ls (vI y :: vI x :: st) pc := by
  intro H locs lsJ hR hl hL hO
  refine lv_imul C.1 rfl hd ?_
  rw [← Int32.ofInt_mul]
  exact k H locs lsJ hR hl hL (hO.pop.pop.push h)

theorem k_idiv (C : Cx G own p s m args) {x y : Int} (hd : decode c.code pc = .ok (.idiv, 1)) (h : 0 ≤ x ∧ 0 < y) (k : KW p l e R s m args below meth c Q G n0 s0 σ ls (vI (x / y) :: st) (pc + 1)) : KW p l e R s m args below meth c Q G n0 s0 σ ls (vI y :: vI x :: st) pc := by
  intro H locs lsJ hR hl hL hO
  have hx := hO.pop.top
  have hy := hO.top
  have e := rg_idiv hx hy h
  refine lv_idiv C.1 rfl hd (fun q => by rw [show (0 : Int32) = Int32.ofInt 0 from rfl, rg_eq hy rg_0] at q; omega) ?_
  rw [e.1]
  exact k H locs lsJ hR hl hL (hO.pop.pop.push e.2)

theorem k_irem (C : Cx G own p s m args) {x y : Int} (hd : decode c.code pc = .ok (.irem, 1)) (h : 0 ≤ x ∧ 0 < y) (k : KW p l e R s m args below meth c Q G n0 s0 σ ls (vI (x % y) :: st) (pc + 1)) : KW p l e R s m args below meth c Q G n0 s0 σ ls (vI y :: vI x :: st) pc := by
  intro H locs lsJ hR hl hL hO
  have hx := hO.pop.top
  have hy := hO.top
  have e := rg_irem hx hy h
  refine lv_irem C.1 rfl hd (fun q => by rw [show (0 : Int32) = Int32.ofInt 0 from rfl, rg_eq hy rg_0] at q; omega) ?_
  rw [e.1]
  exact k H locs lsJ hR hl hL (hO.pop.pop.push e.2)

theorem k_ishl (C : Cx G own p s m args) {x y : Int} (hd : decode c.code pc = .ok (.ishl, 1)) (k : KW p l e R s m args below meth c Q G n0 s0 σ ls (vI (iShl x y) :: st) (pc + 1)) : KW p l e R s m args below meth c Q G n0 s0 σ ls (vI y :: vI x :: st) pc := by
  intro H locs lsJ hR hl hL hO
  refine lv_ishl C.1 rfl hd ?_
  rw [← ofInt_toInt (Int32.ofInt x <<< (Int32.ofInt y &&& 31))]
  exact k H locs lsJ hR hl hL (hO.pop.pop.push (rg_of _))

theorem k_ishr (C : Cx G own p s m args) {x y : Int} (hd : decode c.code pc = .ok (.ishr, 1)) (k : KW p l e R s m args below meth c Q G n0 s0 σ ls (vI (iShr x y) :: st) (pc + 1)) : KW p l e R s m args below meth c Q G n0 s0 σ ls (vI y :: vI x :: st) pc := by
  intro H locs lsJ hR hl hL hO
  refine lv_ishr C.1 rfl hd ?_
  rw [← ofInt_toInt (Int32.ofInt x >>> (Int32.ofInt y &&& 31))]
  exact k H locs lsJ hR hl hL (hO.pop.pop.push (rg_of _))

theorem k_iand (C : Cx G own p s m args) {x y : Int} (hd : decode c.code pc = .ok (.iand, 1)) (k : KW p l e R s m args below meth c Q G n0 s0 σ ls (vI (iAnd x y) :: st) (pc + 1)) : KW p l e R s m args below meth c Q G n0 s0 σ ls (vI y :: vI x :: st) pc := by
  intro H locs lsJ hR hl hL hO
  refine lv_iand C.1 rfl hd ?_
  rw [← ofInt_toInt (Int32.ofInt x &&& Int32.ofInt y)]
  exact k H locs lsJ hR hl hL (hO.pop.pop.push (rg_of _))

theorem k_ior (C : Cx G own p s m args) {x y : Int} (hd : decode c.code pc = .ok (.ior, 1)) (k : KW p l e R s m args below meth c Q G n0 s0 σ ls (vI (iOr x y) :: st) (pc + 1)) : KW p l e R s m args below meth c Q G n0 s0 σ ls (vI y :: vI x :: st) pc := by
  intro H locs lsJ hR hl hL hO
  refine lv_ior C.1 rfl hd ?_
  rw [← ofInt_toInt (Int32.ofInt x ||| Int32.ofInt y)]
  exact k H locs lsJ hR hl hL (hO.pop.pop.push (rg_of _))

theorem k_ixor (C : Cx G own p s m args) {x y : Int} (hd : decode c.code pc = .ok (.ixor, 1)) (k : KW p l e R s m args below meth c Q G n0 s0 σ ls (vI (iXor x y) :: st) (pc + 1)) : KW p l e R s m args below meth c Q G n0 s0 σ ls (vI y :: vI x :: st) pc := by
  intro H locs lsJ hR hl hL hO
  refine lv_ixor C.1 rfl hd ?_
  rw [← ofInt_toInt (Int32.ofInt x ^^^ Int32.ofInt y)]
  exact k H locs lsJ hR hl hL (hO.pop.pop.push (rg_of _))

theorem k_iushr (C : Cx G own p s m args) {x y : Int} (hd : decode c.code pc = .ok (.iushr, 1)) (k : KW p l e R s m args below meth c Q G n0 s0 σ ls (vI (iUshr x y) :: st) (pc + 1)) : KW p l e R s m args below meth c Q G n0 s0 σ ls (vI y :: vI x :: st) pc := by
  intro H locs lsJ hR hl hL hO
  refine lv_iushr C.1 rfl hd (ofInt_toInt _).symm ?_
  exact k H locs lsJ hR hl hL (hO.pop.pop.push (rg_of _))

theorem k_ladd (C : Cx G own p s m args) {x y : BitVec 64} (hd : decode c.code pc = .ok (.ladd, 1)) (k : KW p l e R s m args below meth c Q G n0 s0 σ ls (vL (x + y) :: st) (pc + 1)) : KW p l e R s m args below meth c Q G n0 s0 σ ls (vL y :: vL x :: st) pc := by
  intro H locs lsJ hR hl hL hO
  refine lv_ladd C.1 rfl hd ?_
  rw [← Int64.ofBitVec_add]
  exact k H locs lsJ hR hl hL (hO.pop.pop.push (v := vL _) trivial)

theorem k_lsub (C : Cx G own p s m args) {x y : BitVec 64} (hd : decode c.code pc = .ok (.lsub, 1)) (k : KW p l e R s m args below meth c Q G n0 s0 σ ls (vL (x - y) :: st) (pc + 1)) : KW p l e R s m args below meth c Q G n0 s0 σ ls (vL y :: vL x :: st) pc := by
  intro H locs lsJ hR hl hL hO
  refine lv_lsub C.1 rfl hd ?_
  rw [← Int64.ofBitVec_sub]
  exact k H locs lsJ hR hl hL (hO.pop.pop.push (v := vL _) trivial)

theorem k_land (C : Cx G own p s m args) {x y : BitVec 64} (hd : decode c.code pc = .ok (.land, 1)) (k : KW p l e R s m args below meth c Q G n0 s0 σ ls (vL (x &&& y) :: st) (pc + 1)) : KW p l e R s m args below meth c Q G n0 s0 σ ls (vL y :: vL x :: st) pc := by
  intro H locs lsJ hR hl hL hO
  refine lv_land C.1 rfl hd ?_
  rw [← Int64.ofBitVec_and]
  exact k H locs lsJ hR hl hL (hO.pop.pop.push (v := vL _) trivial)

theorem k_lor (C : Cx G own p s m args) {x y : BitVec 64} (hd : decode c.code pc = .ok (.lor, 1)) (k : KW p l e R s m args below meth c Q G n0 s0 σ ls (vL (x ||| y) :: st) (pc + 1)) : KW p l e R s m args below meth c Q G n0 s0 σ ls (vL y :: vL x :: st) pc := by
  intro H locs lsJ hR hl hL hO
  refine lv_lor C.1 rfl hd ?_
  rw [← Int64.ofBitVec_or]
  exact k H locs lsJ hR hl hL (hO.pop.pop.push (v := vL _) trivial)

theorem k_lxor (C : Cx G own p s m args) {x y : BitVec 64} (hd : decode c.code pc = .ok (.lxor, 1)) (k : KW p l e R s m args below meth c Q G n0 s0 σ ls (vL (x ^^^ y) :: st) (pc + 1)) : KW p l e R s m args below meth c Q G n0 s0 σ ls (vL y :: vL x :: st) pc := by
  intro H locs lsJ hR hl hL hO
  refine lv_lxor C.1 rfl hd ?_
  rw [← Int64.ofBitVec_xor]
  exact k H locs lsJ hR hl hL (hO.pop.pop.push (v := vL _) trivial)

theorem k_lneg (C : Cx G own p s m args) {x : BitVec 64} (hd : decode c.code pc = .ok (.lneg, 1)) (k : KW p l e R s m args below meth c Q G n0 s0 σ ls (vL (-x) :: st) (pc + 1)) : KW p l e R s m args below meth c Q G n0 s0 σ ls (vL x :: st) pc := by
  intro H locs lsJ hR hl hL hO
  refine lv_lneg C.1 rfl hd ?_
  rw [← Int64.ofBitVec_neg]
  exact k H locs lsJ hR hl hL (hO.pop.push (v := vL _) trivial)

theorem k_lshl (C : Cx G own p s m args) {x : BitVec 64} {y : Int} (hd : decode c.code pc = .ok (.lshl, 1)) (k : KW p l e R s m args below meth c Q G n0 s0 σ ls (vL (lShl x y) :: st) (pc + 1)) : KW p l e R s m args below meth c Q G n0 s0 σ ls (vI y :: vL x :: st) pc := by
  intro H locs lsJ hR hl hL hO
  refine lv_lshl C.1 rfl hd (Int64.ofBitVec_toBitVec _).symm ?_
  exact k H locs lsJ hR hl hL (hO.pop.pop.push (v := vL _) trivial)

theorem k_lshr (C : Cx G own p s m args) {x : BitVec 64} {y : Int} (hd : decode c.code pc = .ok (.lshr, 1)) (k : KW p l e R s m args below meth c Q G n0 s0 σ ls (vL (lShr x y) :: st) (pc + 1)) : KW p l e R s m args below meth c Q G n0 s0 σ ls (vI y :: vL x :: st) pc := by
  intro H locs lsJ hR hl hL hO
  refine lv_lshr C.1 rfl hd (Int64.ofBitVec_toBitVec _).symm ?_
  exact k H locs lsJ hR hl hL (hO.pop.pop.push (v := vL _) trivial)

theorem k_lushr (C : Cx G own p s m args) {x : BitVec 64} {y : Int} (hd : decode c.code pc = .ok (.lushr, 1)) (k : KW p l e R s m args below meth c Q G n0 s0 σ ls (vL (lUshr x y) :: st) (pc + 1)) : KW p l e R s m args below meth c Q G n0 s0 σ ls (vI y :: vL x :: st) pc := by
  intro H locs lsJ hR hl hL hO
  refine lv_lushr C.1 rfl hd (Int64.ofBitVec_toBitVec _).symm ?_
  exact k H locs lsJ hR hl hL (hO.pop.pop.push (v := vL _) trivial)

theorem k_lcmp (C : Cx G own p s m args) {x y : BitVec 64} (hd : decode c.code pc = .ok (.lcmp, 1)) (k : KW p l e R s m args below meth c Q G n0 s0 σ ls (vI (lCmp x y) :: st) (pc + 1)) : KW p l e R s m args below meth c Q G n0 s0 σ ls (vL y :: vL x :: st) pc := by
  intro H locs lsJ hR hl hL hO
  refine W.lcmp C.1 rfl hd ?_
  rw [lcmp_of]
  exact k H locs lsJ hR hl hL (hO.pop.pop.push (lcmp_rg x y))

theorem k_i2l (C : Cx G own p s m args) {x : Int} (hd : decode c.code pc = .ok (.i2l, 1)) (k : KW p l e R s m args below meth c Q G n0 s0 σ ls (vL (BitVec.ofInt 64 x) :: st) (pc + 1)) : KW p l e R s m args below meth c Q G n0 s0 σ ls (vI x :: st) pc := by
  intro H locs lsJ hR hl hL hO
  exact lv_i2l C.1 rfl hd (i2l_of hO.top) (k H locs lsJ hR hl hL (hO.pop.push (v := vL _) trivial))

theorem k_l2i (C : Cx G own p s m args) {x : BitVec 64} (hd : decode c.code pc = .ok (.l2i, 1)) (k : KW p l e R s m args below meth c Q G n0 s0 σ ls (vI (l2i x) :: st) (pc + 1)) : KW p l e R s m args below meth c Q G n0 s0 σ ls (vL x :: st) pc := by
  intro H locs lsJ hR hl hL hO
  exact lv_l2i C.1 rfl hd (ofInt_toInt _).symm (k H locs lsJ hR hl hL (hO.pop.push (v := vI _) (rg_of _)))

theorem k_i2b (C : Cx G own p s m args) {x : Int} (hd : decode c.code pc = .ok (.i2b, 1)) (k : KW p l e R s m args below meth c Q G n0 s0 σ ls (vI (i2b x) :: st) (pc + 1)) : KW p l e R s m args below meth c Q G n0 s0 σ ls (vI x :: st) pc := by
  intro H locs lsJ hR hl hL hO
  exact lv_i2b C.1 rfl hd (ofInt_toInt _).symm (k H locs lsJ hR hl hL (hO.pop.push (v := vI _) (rg_of _)))

theorem k_iinc (C : Cx G own p s m args) {i : Nat} {x z : Int} (hd : decode c.code pc = .ok (.iinc i z, 3)) (h : ls[i]? = some (some (vI x))) (hr : Rg (x + z)) (k : KW p l e R s m args below meth c Q G n0 s0 σ (lSet1 ls i (vI (x + z))) st (pc + 3)) : KW p l e R s m args below meth c Q G n0 s0 σ ls st pc := by
  intro H locs lsJ hR hl hL hO
  obtain ⟨j, hj⟩ := List.getElem?_of_mem (enL_mem.mpr ⟨_, h, rfl⟩)
  have hi : i < ls.length := by
    rcases Nat.lt_or_ge i ls.length with q | q
    · exact q
    · rw [List.getElem?_eq_none q] at h; cases h
  refine lv_iinc C.1 rfl hd hL.has hj (Int32.ofInt_add x z).symm (by rw [← hL.2.2.1]; exact hi) rfl fun lsJ' h' => ?_
  exact k H locs lsJ' hR hl (hL.set1 (w := vI (x + z)) h') (OKs.set1 (hO.push hr))

theorem k_dup (C : Cx G own p s m args) {v : Vl} (hd : decode c.code pc = .ok (.dup, 1)) (h : cat v = 1) (k : KW p l e R s m args below meth c Q G n0 s0 σ ls (v :: v :: st) (pc + 1)) : KW p l e R s m args below meth c Q G n0 s0 σ ls (v :: st) pc := by
  intro H locs lsJ hR hl hL hO
  exact lv_dup C.1 rfl hd ((cv_cat v).trans h) (k H locs lsJ hR hl hL (hO.push hO.top))

theorem k_dup2 (C : Cx G own p s m args) {v w : Vl} (hd : decode c.code pc = .ok (.dup2, 1)) (h : cat v = 1) (h2 : cat w = 1) (k : KW p l e R s m args below meth c Q G n0 s0 σ ls (v :: w :: v :: w :: st) (pc + 1)) : KW p l e R s m args below meth c Q G n0 s0 σ ls (v :: w :: st) pc := by
  intro H locs lsJ hR hl hL hO
  exact lv_dup2_11 C.1 rfl hd ((cv_cat v).trans h) ((cv_cat w).trans h2) (k H locs lsJ hR hl hL ((hO.push hO.pop.top).push hO.top))

theorem k_pop (C : Cx G own p s m args) {v : Vl} (hd : decode c.code pc = .ok (.pop, 1)) (h : cat v = 1) (k : KW p l e R s m args below meth c Q G n0 s0 σ ls st (pc + 1)) : KW p l e R s m args below meth c Q G n0 s0 σ ls (v :: st) pc := by
  intro H locs lsJ hR hl hL hO
  exact lv_pop C.1 rfl hd ((cv_cat v).trans h) (k H locs lsJ hR hl hL hO.pop)

theorem k_goto (C : Cx G own p s m args) {o : Int} {t : Nat} (hd : decode c.code pc = .ok (.goto o, 3)) (h : (pc : Int) + o = t) (k : KW p l e R s m args below meth c Q G n0 s0 σ ls st t) : KW p l e R s m args below meth c Q G n0 s0 σ ls st pc := by
  intro H locs lsJ hR hl hL hO
  exact lv_goto C.1 rfl hd h (k H locs lsJ hR hl hL hO)

theorem k_icmp_eq (C : Cx G own p s m args) {x y o : Int} {t : Nat} (hd : decode c.code pc = .ok (.if_icmp .eq o, 3)) (h : (pc : Int) + o = t) (kt : x = y → KW p l e R s m args below meth c Q G n0 s0 σ ls st t) (kf : ¬ (x = y) → KW p l e R s m args below meth c Q G n0 s0 σ ls st (pc + 3)) : KW p l e R s m args below meth c Q G n0 s0 σ ls (vI y :: vI x :: st) pc := by
  intro H locs lsJ hR hl hL hO
  have hx := hO.pop.top
  have hy := hO.top
  have e := rg_eq hx hy
  exact lv_icmp_eq C.1 rfl hd h (fun q => kt (e.mp q) H locs lsJ hR hl hL hO.pop.pop) (fun q => kf (fun z => q (e.mpr z)) H locs lsJ hR hl hL hO.pop.pop)

theorem k_if_eq (C : Cx G own p s m args) {x o : Int} {t : Nat} (hd : decode c.code pc = .ok (.ifCond .eq o, 3)) (h : (pc : Int) + o = t) (kt : x = 0 → KW p l e R s m args below meth c Q G n0 s0 σ ls st t) (kf : ¬ (x = 0) → KW p l e R s m args below meth c Q G n0 s0 σ ls st (pc + 3)) : KW p l e R s m args below meth c Q G n0 s0 σ ls (vI x :: st) pc := by
  intro H locs lsJ hR hl hL hO
  have hx := hO.top
  have e := rg_eq hx rg_0
  exact lv_if_eq C.1 rfl hd h (fun q => kt (e.mp q) H locs lsJ hR hl hL hO.pop) (fun q => kf (fun z => q (e.mpr z)) H locs lsJ hR hl hL hO.pop)

theorem k_icmp_ne (C : Cx G own p s m args) {x y o : Int} {t : Nat} (hd : decode c.code pc = .ok (.if_icmp .ne o, 3)) (h : (pc : Int) + o = t) (kt : ¬ x = y → KW p l e R s m args below meth c Q G n0 s0 σ ls st t) (kf : ¬ (¬ x = y) → KW p l e R s m args below meth c Q G n0 s0 σ ls st (pc + 3)) : KW p l e R s m args below meth c Q G n0 s0 σ ls (vI y :: vI x :: st) pc := by
  intro H locs lsJ hR hl hL hO
  have hx := hO.pop.top
  have hy := hO.top
  have e := not_congr (rg_eq hx hy)
  exact lv_icmp_ne C.1 rfl hd h (fun q => kt (e.mp q) H locs lsJ hR hl hL hO.pop.pop) (fun q => kf (fun z => (e.mpr z) q) H locs lsJ hR hl hL hO.pop.pop)

theorem k_if_ne (C : Cx G own p s m args) {x o : Int} {t : Nat} (hd : decode c.code pc = .ok (.ifCond .ne o, 3)) (h : (pc : Int) + o = t) (kt : ¬ x = 0 → KW p l e R s m args below meth c Q G n0 s0 σ ls st t) (kf : ¬ (¬ x = 0) → KW p l e R s m args below meth c Q G n0 s0 σ ls st (pc + 3)) : KW p l e R s m args below meth c Q G n0 s0 σ ls (vI x :: st) pc := by
  intro H locs lsJ hR hl hL hO
  have hx := hO.top
  have e := not_congr (rg_eq hx rg_0)
  exact lv_if_ne C.1 rfl hd h (fun q => kt (e.mp q) H locs lsJ hR hl hL hO.pop) (fun q => kf (fun z => (e.mpr z) q) H locs lsJ hR hl hL hO.pop)

theorem k_icmp_lt (C : Cx G own p s m args) {x y o : Int} {t : Nat} (hd : decode c.code pc = .ok (.if_icmp .lt o, 3)) (h : (pc : Int) + o = t) (kt : x < y → KW p l e R s m args below meth c Q G n0 s0 σ ls st t) (kf : ¬ (x < y) → KW p l e R s m args below meth c Q G n0 s0 σ ls st (pc + 3)) : KW p l e R s m args below meth c Q G n0 s0 σ ls (vI y :: vI x :: st) pc := by
  intro H locs lsJ hR hl hL hO
  have hx := hO.pop.top
  have hy := hO.top
  have e := rg_lt hx hy
  exact lv_icmp_lt C.1 rfl hd h (fun q => kt (e.mp q) H locs lsJ hR hl hL hO.pop.pop) (fun q => kf (fun z => q (e.mpr z)) H locs lsJ hR hl hL hO.pop.pop)

theorem k_if_lt (C : Cx G own p s m args) {x o : Int} {t : Nat} (hd : decode c.code pc = .ok (.ifCond .lt o, 3)) (h : (pc : Int) + o = t) (kt : x < 0 → KW p l e R s m args below meth c Q G n0 s0 σ ls st t) (kf : ¬ (x < 0) → KW p l e R s m args below meth c Q G n0 s0 σ ls st (pc + 3)) : KW p l e R s m args below meth c Q G n0 s0 σ ls (vI x :: st) pc := by
  intro H locs lsJ hR hl hL hO
  have hx := hO.top
  have e := rg_lt hx rg_0
  exact lv_if_lt C.1 rfl hd h (fun q => kt (e.mp q) H locs lsJ hR hl hL hO.pop) (fun q => kf (fun z => q (e.mpr z)) H locs lsJ hR hl hL hO.pop)

theorem k_icmp_ge (C : Cx G own p s m args) {x y o : Int} {t : Nat} (hd : decode c.code pc = .ok (.if_icmp .ge o, 3)) (h : (pc : Int) + o = t) (kt : y ≤ x → KW p l e R s m args below meth c Q G n0 s0 σ ls st t) (kf : ¬ (y ≤ x) → KW p l e R s m args below meth c Q G n0 s0 σ ls st (pc + 3)) : KW p l e R s m args below meth c Q G n0 s0 σ ls (vI y :: vI x :: st) pc := by
  intro H locs lsJ hR hl hL hO
  have hx := hO.pop.top
  have hy := hO.top
  have e := rg_le hy hx
  exact lv_icmp_ge C.1 rfl hd h (fun q => kt (e.mp q) H locs lsJ hR hl hL hO.pop.pop) (fun q => kf (fun z => q (e.mpr z)) H locs lsJ hR hl hL hO.pop.pop)

theorem k_if_ge (C : Cx G own p s m args) {x o : Int} {t : Nat} (hd : decode c.code pc = .ok (.ifCond .ge o, 3)) (h : (pc : Int) + o = t) (kt : 0 ≤ x → KW p l e R s m args below meth c Q G n0 s0 σ ls st t) (kf : ¬ (0 ≤ x) → KW p l e R s m args below meth c Q G n0 s0 σ ls st (pc + 3)) : KW p l e R s m args below meth c Q G n0 s0 σ ls (vI x :: st) pc := by
  intro H locs lsJ hR hl hL hO
  have hx := hO.top
  have e := rg_le rg_0 hx
  exact lv_if_ge C.1 rfl hd h (fun q => kt (e.mp q) H locs lsJ hR hl hL hO.pop) (fun q => kf (fun z => q (e.mpr z)) H locs lsJ hR hl hL hO.pop)

theorem k_icmp_gt (C : Cx G own p s m args) {x y o : Int} {t : Nat} (hd : decode c.code pc = .ok (.if_icmp .gt o, 3)) (h : (pc : Int) + o = t) (kt : y < x → KW p l e R s m args below meth c Q G n0 s0 σ ls st t) (kf : ¬ (y < x) → KW p l e R s m args below meth c Q G n0 s0 σ ls st (pc + 3)) : KW p l e R s m args below meth c Q G n0 s0 σ ls (vI y :: vI x :: st) pc := by
  intro H locs lsJ hR hl hL hO
  have hx := hO.pop.top
  have hy := hO.top
  have e := rg_lt hy hx
  exact lv_icmp_gt C.1 rfl hd h (fun q => kt (e.mp q) H locs lsJ hR hl hL hO.pop.pop) (fun q => kf (fun z => q (e.mpr z)) H locs lsJ hR hl hL hO.pop.pop)

theorem k_if_gt (C : Cx G own p s m args) {x o : Int} {t : Nat} (hd : decode c.code pc = .ok (.ifCond .gt o, 3)) (h : (pc : Int) + o = t) (kt : 0 < x → KW p l e R s m args below meth c Q G n0 s0 σ ls st t) (kf : ¬ (0 < x) → KW p l e R s m args below meth c Q G n0 s0 σ ls st (pc + 3)) : KW p l e R s m args below meth c Q G n0 s0 σ ls (vI x :: st) pc := by
  intro H locs lsJ hR hl hL hO
  have hx := hO.top
  have e := rg_lt rg_0 hx
  exact lv_if_gt C.1 rfl hd h (fun q => kt (e.mp q) H locs lsJ hR hl hL hO.pop) (fun q => kf (fun z => q (e.mpr z)) H locs lsJ hR hl hL hO.pop)

theorem k_icmp_le (C : Cx G own p s m args) {x y o : Int} {t : Nat} (hd : decode c.code pc = .ok (.if_icmp .le o, 3)) (h : (pc : Int) + o = t) (kt : x ≤ y → KW p l e R s m args below meth c Q G n0 s0 σ ls st t) (kf : ¬ (x ≤ y) → KW p l e R s m args below meth c Q G n0 s0 σ ls st (pc + 3)) : KW p l e R s m args below meth c Q G n0 s0 σ ls (vI y :: vI x :: st) pc := by
  intro H locs lsJ hR hl hL hO
  have hx := hO.pop.top
  have hy := hO.top
  have e := rg_le hx hy
  exact lv_icmp_le C.1 rfl hd h (fun q => kt (e.mp q) H locs lsJ hR hl hL hO.pop.pop) (fun q => kf (fun z => q (e.mpr z)) H locs lsJ hR hl hL hO.pop.pop)

theorem k_if_le (C : Cx G own p s m args) {x o : Int} {t : Nat} (hd : decode c.code pc = .ok (.ifCond .le o, 3)) (h : (pc : Int) + o = t) (kt : x ≤ 0 → KW p l e R s m args below meth c Q G n0 s0 σ ls st t) (kf : ¬ (x ≤ 0) → KW p l e R s m args below meth c Q G n0 s0 σ ls st (pc + 3)) : KW p l e R s m args below meth c Q G n0 s0 σ ls (vI x :: st) pc := by
  intro H locs lsJ hR hl hL hO
  have hx := hO.top
  have e := rg_le hx rg_0
  exact lv_if_le C.1 rfl hd h (fun q => kt (e.mp q) H locs lsJ hR hl hL hO.pop) (fun q => kf (fun z => q (e.mpr z)) H locs lsJ hR hl hL hO.pop)

theorem k_ifnull (C : Cx G own p s m args) {o : Int} {t u : Nat} {q : Option Nat} (hd : decode c.code pc = .ok (.ifnull o, 3)) (h : (pc : Int) + o = t) (kt : q = none → KW p l e R s m args below meth c Q G n0 s0 σ ls st t) (kf : ∀ a, q = some a → KW p l e R s m args below meth c Q G n0 s0 σ ls st (pc + 3)) : KW p l e R s m args below meth c Q G n0 s0 σ ls (vR u q :: st) pc := by
  intro H locs lsJ hR hl hL hO
  cases q with
  | none => exact lv_ifnullN C.1 rfl hd h (kt rfl H locs lsJ hR hl hL hO.pop)
  | some a => exact lv_ifnull C.1 rfl hd (kf a rfl H locs lsJ hR hl hL hO.pop)
theorem k_ifnonnull (C : Cx G own p s m args) {o : Int} {t u : Nat} {q : Option Nat} (hd : decode c.code pc = .ok (.ifnonnull o, 3)) (h : (pc : Int) + o = t) (kt : ∀ a, q = some a → KW p l e R s m args below meth c Q G n0 s0 σ ls st t) (kf : q = none → KW p l e R s m args below meth c Q G n0 s0 σ ls st (pc + 3)) : KW p l e R s m args below meth c Q G n0 s0 σ ls (vR u q :: st) pc := by
  intro H locs lsJ hR hl hL hO
  cases q with
  | none => exact lv_ifnonnullN C.1 rfl hd (kf rfl H locs lsJ hR hl hL hO.pop)
  | some a => exact lv_ifnonnull C.1 rfl hd h (kt a rfl H locs lsJ hR hl hL hO.pop)
theorem k_swIn (C : Cx G own p s m args) {dflt lo hi o x : Int} {offs : Array Int} {len t : Nat} (hd : decode c.code pc = .ok (.tableswitch dflt lo hi offs, len)) (h1 : lo ≤ x) (h2 : x ≤ hi) (ho : offs[(x - lo).toNat]? = some o) (h : (pc : Int) + o = t) (k : KW p l e R s m args below meth c Q G n0 s0 σ ls st t) : KW p l e R s m args below meth c Q G n0 s0 σ ls (vI x :: st) pc := by
  intro H locs lsJ hR hl hL hO
  have e := rg_toInt hO.top
  exact lv_tableIn C.1 rfl hd (by rw [e]; omega) (by rw [e]; omega) (by rw [e]; exact ho) h (k H locs lsJ hR hl hL hO.pop)
theorem k_swOut (C : Cx G own p s m args) {dflt lo hi x : Int} {offs : Array Int} {len t : Nat} (hd : decode c.code pc = .ok (.tableswitch dflt lo hi offs, len)) (h1 : x < lo ∨ hi < x) (h : (pc : Int) + dflt = t) (k : KW p l e R s m args below meth c Q G n0 s0 σ ls st t) : KW p l e R s m args below meth c Q G n0 s0 σ ls (vI x :: st) pc := by
  intro H locs lsJ hR hl hL hO
  have e := rg_toInt hO.top
  exact lv_tableOut C.1 rfl hd (by rw [e]; exact h1) h (k H locs lsJ hR hl hL hO.pop)
end KR
end
section
/-! classes by their numbers -/
theorem cl_at : ∀ c, c < 13 → vwCl[c]? = some (cnm c, fTb c, nFl c) := by
  intro c h
  rcases (by omega : c = 0 ∨ c = 1 ∨ c = 2 ∨ c = 3 ∨ c = 4 ∨ c = 5 ∨ c = 6 ∨ c = 7 ∨ c = 8 ∨ c = 9 ∨ c = 10 ∨ c = 11 ∨ c = 12) with rfl | rfl | rfl | rfl | rfl | rfl | rfl | rfl | rfl | rfl | rfl | rfl | rfl <;> rfl
theorem cl_ws : ∀ c, c < 13 → ∀ w ∈ u_ws (cnm c) (fTb c) (nFl c), w ∈ gt := by
  intro c h
  rcases (by omega : c = 0 ∨ c = 1 ∨ c = 2 ∨ c = 3 ∨ c = 4 ∨ c = 5 ∨ c = 6 ∨ c = 7 ∨ c = 8 ∨ c = 9 ∨ c = 10 ∨ c = 11 ∨ c = 12) with rfl | rfl | rfl | rfl | rfl | rfl | rfl | rfl | rfl | rfl | rfl | rfl | rfl
  · exact fun w h => gt_of (inX0 w h)
  · exact fun w h => gt_of (inX1 w h)
  · exact fun w h => gt_of (inX2 w h)
  · exact fun w h => gt_of (inX3 w h)
  · exact fun w h => gt_of (inX4 w h)
  · exact fun w h => gt_of (inX5 w h)
  · exact fun w h => gt_of (inX6 w h)
  · exact fun w h => gt_of (inX7 w h)
  · exact fun w h => gt_of (inX8 w h)
  · exact fun w h => gt_of (inX9 w h)
  · exact fun w h => gt_of (inX10 w h)
  · exact fun w h => gt_of (inX11 w h)
  · exact fun w h => gt_of (inX12 w h)
theorem cl_ty : ∀ c, c < 13 → ∀ k, k < nFl c → parseFieldDescriptor (fTb c k).2.2.1 = some (fTy c k) := by
  intro c h
  rcases (by omega : c = 0 ∨ c = 1 ∨ c = 2 ∨ c = 3 ∨ c = 4 ∨ c = 5 ∨ c = 6 ∨ c = 7 ∨ c = 8 ∨ c = 9 ∨ c = 10 ∨ c = 11 ∨ c = 12) with rfl | rfl | rfl | rfl | rfl | rfl | rfl | rfl | rfl | rfl | rfl | rfl | rfl
  · exact tyX0_ok
  · exact tyX1_ok
  · exact tyX2_ok
  · exact tyX3_ok
  · exact tyX4_ok
  · exact tyX5_ok
  · exact tyX6_ok
  · exact tyX7_ok
  · exact tyX8_ok
  · exact tyX9_ok
  · exact tyX10_ok
  · exact tyX11_ok
  · exact tyX12_ok
theorem cl_nm : ∀ c, c < 13 → ∀ a, a < nFl c → ∀ b, b < nFl c → a ≠ b → (fTb c a).2.1 ≠ (fTb c b).2.1 := by
  intro c h
  rcases (by omega : c = 0 ∨ c = 1 ∨ c = 2 ∨ c = 3 ∨ c = 4 ∨ c = 5 ∨ c = 6 ∨ c = 7 ∨ c = 8 ∨ c = 9 ∨ c = 10 ∨ c = 11 ∨ c = 12) with rfl | rfl | rfl | rfl | rfl | rfl | rfl | rfl | rfl | rfl | rfl | rfl | rfl
  · exact nmX0
  · exact nmX1
  · exact nmX2
  · exact nmX3
  · exact nmX4
  · exact nmX5
  · exact nmX6
  · exact nmX7
  · exact nmX8
  · exact nmX9
  · exact nmX10
  · exact nmX11
  · exact nmX12
/-- a field's kind is its type's -/
def kdTy (k : Nat) (ty : FieldType) : Bool := match k, ty with
  | 0, .int => true
  | 1, .boolean => true
  | 2, .long => true
  | _ + 3, .object _ => true
  | _ + 3, .array _ => true
  | _, _ => false
theorem kd_ty : ∀ c, c < 13 → ∀ k, k < nFl c → kdTy (fKd c k) (fTy c k) = true := by decide +kernel
theorem KN.K {G : Gc} {U : State} (h : KN G U) : va_K (gC G, gD G) vwCl [] U := ⟨h.1, fun k q h => by simp at h⟩
theorem Rel.at {G : Gc} {σ σ' : St} {H H' : Heap} {a : Nat} (h : Rel G σ H) (htg : tg σ' = tg σ) (hln : ln σ' = ln σ) (hnx : nx σ' = nx σ) (hI : ∀ b, b ≠ a → gI σ' b = gI σ b) (hL : ∀ b, b ≠ a → gL σ' b = gL σ b) (hRf : ∀ b, b ≠ a → gR σ' b = gR σ b) (ha : gB G ≤ a)
    (hz : H'.size = H.size) (ho : ∀ q, q ≠ a → H'[q]? = H[q]?) (hobj : tg σ a < 13 → t_OB a (gC G (tg σ a)) (nFl (tg σ a)) (gD G (tg σ a)) H' (fV σ' (tg σ a) a)) (harr : 13 ≤ tg σ a → tg σ a < 20 → H'[a]? = some (arrV (gA G (tg σ a)) (ln σ a) (aV σ' (tg σ a) a)))
    (hrg : ∀ j, Rg (gI σ' a j)) (hrt : ∀ k t, rTag (tg σ a) k = some t → ∀ b, gR σ' a k = some b → tg σ b = t) : Rel G σ' H' := by
  obtain ⟨⟨h1, h2, h3⟩, h4, h5, h6, h7, h8, h9, h10⟩ := h
  refine ⟨⟨by rw [hz, hnx]; exact h1, by rw [hnx]; exact h2, h3⟩, fun q hq => by rw [ho q (by omega)]; exact h4 q hq, ?_, ?_, ?_, ?_, ?_, ?_⟩
  · intro b hb
    rw [htg] at hb ⊢
    by_cases e : b = a
    · subst e
      exact ⟨ha, hobj hb⟩
    · refine ⟨(h5 b hb).1, ((h5 b hb).2.kept (ho b e)).to fun k _ => ?_⟩
      simp only [fV, hI b e, hL b e, hRf b e]
  · intro b hb hb2
    rw [htg] at hb hb2 ⊢
    rw [hln]
    by_cases e : b = a
    · subst e
      exact ⟨ha, (h6 b hb hb2).2.1, harr hb hb2⟩
    · refine ⟨(h6 b hb hb2).1, (h6 b hb hb2).2.1, ?_⟩
      rw [ho b e, (h6 b hb hb2).2.2]
      congr 2
      funext k
      simp only [aV, hI b e, hL b e, hRf b e]
  · intro b hb
    rw [htg] at hb
    have hh := h7 b hb
    have e : b ≠ a := fun q => by subst q; omega
    rw [hln, hI b e]
    exact hh
  · intro b k
    by_cases e : b = a
    · subst e
      exact hrg k
    · rw [hI b e]
      exact h8 b k
  · intro b k t hb q hq
    rw [htg] at hb ⊢
    by_cases e : b = a
    · subst e
      exact hrt k t hb q hq
    · rw [hRf b e] at hq
      exact h9 b k t hb q hq
  · intro i hi q hq
    have e : (0 : Nat) ≠ a := by omega
    rw [hRf 0 e] at hq
    rw [htg]
    exact h10 i hi q hq
theorem up2_ne {α : Type} {f : Nat → Nat → α} {a k b : Nat} {v : α} (h : b ≠ a) : up2 f a k v b = f b := by
  funext j
  simp [up2, h]
theorem up1_ne {α : Type} {f : Nat → α} {a b : Nat} {v : α} (h : b ≠ a) : up1 f a v b = f b := by simp [up1, h]
theorem up2_at {α : Type} {f : Nat → Nat → α} {a k : Nat} {v : α} : up2 f a k v a k = v := by simp [up2]
theorem up2_oth {α : Type} {f : Nat → Nat → α} {a k j : Nat} {v : α} (h : j ≠ k) : up2 f a k v a j = f a j := by simp [up2, h]
theorem up1_at {α : Type} {f : Nat → α} {a : Nat} {v : α} : up1 f a v a = v := by simp [up1]
theorem rTag_kd {c k : Nat} (hc : c < 13) {t : Nat} (h : rTag c k = some t) : fKd c k = t + 3 := by
  unfold rTag at h
  rw [if_pos hc] at h
  split at h
  · cases h
    omega
  · cases h
theorem Rel.setI {G : Gc} {σ : St} {H H' : Heap} {a k : Nat} {v : Int} (h : Rel G σ H) (hv : Rg v) (ha : gB G ≤ a) (hz : H'.size = H.size) (ho : ∀ q, q ≠ a → H'[q]? = H[q]?) (hobj : tg σ a < 13 → t_OB a (gC G (tg σ a)) (nFl (tg σ a)) (gD G (tg σ a)) H' (fV (wI σ a k v) (tg σ a) a)) (harr : 13 ≤ tg σ a → tg σ a < 20 → H'[a]? = some (arrV (gA G (tg σ a)) (ln σ a) (aV (wI σ a k v) (tg σ a) a))) : Rel G (wI σ a k v) H' :=
  h.at rfl rfl rfl (fun b e => up2_ne e) (fun b e => rfl) (fun b e => rfl) ha hz ho hobj harr (fun j => by
    by_cases e : j = k
    · subst e; show Rg (up2 _ _ _ _ _ _); rw [up2_at]; exact hv
    · show Rg (up2 _ _ _ _ _ _); rw [up2_oth e]; exact h.2.2.2.2.2.1 a j) (fun k t hk b hb => h.2.2.2.2.2.2.1 a k t hk b hb)
theorem Rel.setL {G : Gc} {σ : St} {H H' : Heap} {a k : Nat} {v : BitVec 64} (h : Rel G σ H) (ha : gB G ≤ a) (hz : H'.size = H.size) (ho : ∀ q, q ≠ a → H'[q]? = H[q]?) (hobj : tg σ a < 13 → t_OB a (gC G (tg σ a)) (nFl (tg σ a)) (gD G (tg σ a)) H' (fV (wL σ a k v) (tg σ a) a)) (harr : 13 ≤ tg σ a → tg σ a < 20 → H'[a]? = some (arrV (gA G (tg σ a)) (ln σ a) (aV (wL σ a k v) (tg σ a) a))) : Rel G (wL σ a k v) H' :=
  h.at rfl rfl rfl (fun b e => rfl) (fun b e => up2_ne e) (fun b e => rfl) ha hz ho hobj harr (fun j => h.2.2.2.2.2.1 a j) (fun k t hk b hb => h.2.2.2.2.2.2.1 a k t hk b hb)
theorem Rel.setR {G : Gc} {σ : St} {H H' : Heap} {a k : Nat} {v : Option Nat} (h : Rel G σ H) (hv : ∀ t, rTag (tg σ a) k = some t → ∀ b, v = some b → tg σ b = t) (ha : gB G ≤ a) (hz : H'.size = H.size) (ho : ∀ q, q ≠ a → H'[q]? = H[q]?) (hobj : tg σ a < 13 → t_OB a (gC G (tg σ a)) (nFl (tg σ a)) (gD G (tg σ a)) H' (fV (wR σ a k v) (tg σ a) a)) (harr : 13 ≤ tg σ a → tg σ a < 20 → H'[a]? = some (arrV (gA G (tg σ a)) (ln σ a) (aV (wR σ a k v) (tg σ a) a))) : Rel G (wR σ a k v) H' :=
  h.at rfl rfl rfl (fun b e => rfl) (fun b e => rfl) (fun b e => up2_ne e) ha hz ho hobj harr (fun j => h.2.2.2.2.2.1 a j) (fun j t hk b hb => by
    by_cases e : j = k
    · subst e
      have hb : up2 (gR σ) a j v a j = some b := hb
      rw [up2_at] at hb
      exact hv t hk b hb
    · have hb : up2 (gR σ) a k v a j = some b := hb
      rw [up2_oth e] at hb
      exact h.2.2.2.2.2.2.1 a j t hk b hb)
section KH
variable {p : Program} {l : Launch} {e : Env} {R : Room} {s : State} {m : MethodId} {args : Array Value} {below : List Frame} {meth : Method} {c : Code} {Q : State → Prop} {G : Gc} {n0 s0 own : Nat} {σ : St} {ls : Ls} {st : List Vl} {pc : Nat}

/-- a field is read -/
theorem k_get (C : Cx G own p s m args) {i a b q : Nat} {v : Vl} (hd : decode c.code pc = .ok (.getfield i, 3)) (hl : (own, i, a, b) ∈ tFL) (ha : a < 13) (hb : b < nFl a) (hv : ∀ H, Rel G σ H → tg σ q = a → cv v = fV σ a q b ∧ OKv σ v) (k : KW p l e R s m args below meth c Q G n0 s0 σ ls (v :: st) (pc + 3)) : KW p l e R s m args below meth c Q G n0 s0 σ ls (vR a (some q) :: st) pc := by
  intro H locs lsJ hR hlo hL hO
  have htq : tg σ q = a := hO.top.2
  obtain ⟨e1, e2⟩ := hv H hR htq
  obtain ⟨hbq, cell, q1, q2, q3, q4⟩ := hR.2.2.1 q (by rw [htq]; exact ha)
  rw [htq] at q2 q4
  obtain ⟨hS, hfc, kC, hkC, hkind⟩ := C.2.2.2.1 a _ (cl_at a ha)
  obtain ⟨cf, kf, fi, f, hi, hsl⟩ := hS b hb
  refine W.getf C.1 rfl C.2.1 (C.2.2.1 _ (gt_of (tFL_in _ (List.mem_map_of_mem hl)))) hi (u_facts hfc hkC (u_lays C.2.2.1 (cl_ws a ha) hb) hi).1 q1 (by rw [q3]; exact fun h => by cases h) (v := cv v) ?_ rfl rfl hd ?_
  · rw [hsl, q4 b hb, e1]
  · exact k H locs lsJ hR hlo hL (hO.pop.push e2)
/-- a field is written: how the heap goes -/
theorem k_put (C : Cx G own p s m args) {i a b q : Nat} {v : Vl} {σ' : St} (hd : decode c.code pc = .ok (.putfield i, 3)) (hl : (own, i, a, b) ∈ tFL) (ha : a < 13) (hb : b < nFl a) (hfin : (fTb a b).2.2.2 = false ∨ ((fTb a b).2.2.2 = true ∧ meth.name = "<init>" ∧ (fTb a b).1 = cnm own)) (hn : narrow (fTy a b) (cv v) = cv v) (hfit : fits (fTy a b) (cv v) = true)
    (hnx : nx σ' = nx σ) (hsl' : sl σ' = sl σ) (hO' : OKs σ ls (v :: vR a (some q) :: st) → OKs σ' ls st)
    (hR' : ∀ H H', Rel G σ H → OKs σ ls (v :: vR a (some q) :: st) → tg σ q = a → gB G ≤ q → H'.size = H.size → (∀ x, x ≠ q → H'[x]? = H[x]?) → t_OB q (gC G a) (nFl a) (gD G a) H' (updV (fV σ a q) b (cv v)) → Rel G σ' H') (k : KW p l e R s m args below meth c Q G n0 s0 σ' ls st (pc + 3)) : KW p l e R s m args below meth c Q G n0 s0 σ ls (v :: vR a (some q) :: st) pc := by
  intro H locs lsJ hR hlo hL hO
  have htq : tg σ q = a := hO.pop.top.2
  obtain ⟨hbq, cell, q1, q2, q3, q4⟩ := hR.2.2.1 q (by rw [htq]; exact ha)
  rw [htq] at q2 q4
  have hap := va_apart (own := cnm own) C.2.2.1 (cl_ws a ha) (fTy a) (cl_ty a ha) (cl_nm a ha) C.2.2.2.K (cl_at a ha)
  obtain ⟨hS, hfc, kC, hkC, hkind⟩ := C.2.2.2.1 a _ (cl_at a ha)
  obtain ⟨cf, kf, fi, f, hi, hsl⟩ := hS b hb
  have hlay := C.2.2.1 _ (cl_ws a ha _ (u_in_lay hb))
  have hst := (u_facts hfc hkC (u_lays C.2.2.1 (cl_ws a ha) hb) hi).1
  have hlink := C.2.2.1 _ (gt_of (tFL_in _ (List.mem_map_of_mem hl)))
  have fin : ∀ H' : Heap, H'[q]? = some (cell.setSlot f.slot (cv v)) → H'.size = H.size → (∀ x, x ≠ q → H'[x]? = H[x]?) → W p l e R s m args below meth c H' (locs ++ [⟨q, f.slot⟩]) (nx σ - n0) (sl σ - s0) Q (F0 m (pc + 3) lsJ (st.map cv)) := by
    intro H' e1 e2 e3
    rw [hsl] at e1
    rw [← hnx, ← hsl']
    refine k H' _ lsJ (hR' H H' hR hO htq hbq e2 e3 ⟨_, e1, q2, q3, t_set q4 hap hb (cv v)⟩) (fun x hx => ?_) hL (hO' hO)
    rcases List.mem_append.mp hx with hx | hx
    · exact hlo x hx
    · rw [List.mem_singleton.mp hx]
      exact hbq
  rcases hfin with hfin | ⟨hfin, hin, hdecl⟩
  · unfold u_lay at hlay
    rw [if_neg (by rw [hfin]; decide)] at hlay
    have h6 := u_store hfc hkC hkind hlay hi (cl_ty a ha b hb) hn hfit
    exact W.putK C.1 rfl (f := f) ⟨C.2.1, hlink, ⟨_, _, _, hi⟩, hst⟩ (by rw [q2]; exact h6) q1 q3 (by rw [hsl]; exact k2_hasslot (q4 b hb)) rfl rfl hd fin
  · unfold u_lay at hlay
    rw [if_pos hfin] at hlay
    have hcf : m.cls = cf := by
      obtain ⟨_, _, c', _, _, _, -, -, hf', -, -, -, hown2, -⟩ := Cond.laysFinal_spec hlay
      have e1 : c' = cf := by have := hi.symm.trans hf'; simp at this; exact this.1.symm
      rw [hdecl] at hown2
      rw [← e1]; exact Option.some.inj (C.2.1.symm.trans hown2)
    have h6 := u_fits hfc hkC hkind (Or.inr hlay) hi (cl_ty a ha b hb) hn hfit
    exact W.putFinK C.1 rfl C.2.1 hlink hi hst hcf hin (by rw [q2]; exact h6) q1 q3 (by rw [hsl]; exact k2_hasslot (q4 b hb)) rfl rfl hd fin
end KH
end
section
theorem nar_b {v : Int} (hv : -128 ≤ v ∧ v ≤ 127) : narrow .byte (.int (Int32.ofInt v)) = .int (Int32.ofInt v) := by
  rw [narrow_byte]
  congr 1
  rw [← Int32.toInt_inj, Int8.toInt_toInt32, Int32.toInt_toInt8, rg_toInt ⟨by omega, by omega⟩]
  rw [Int.bmod_eq_of_le_mul_two] <;> omega
theorem nar_z {v : Int} (hv : 0 ≤ v ∧ v ≤ 1) : narrow .boolean (.int (Int32.ofInt v)) = .int (Int32.ofInt v) := by
  rcases (by omega : v = 0 ∨ v = 1) with rfl | rfl <;> rfl
/-! the heap's rows, one by one -/
theorem kd_le : ∀ c, c < 13 → ∀ k, k < nFl c → fKd c k ≤ 22 := by decide +kernel
theorem ty_0 {ty : FieldType} (h : kdTy 0 ty = true) : ty = .int := by cases ty <;> first | rfl | cases h
theorem ty_1 {ty : FieldType} (h : kdTy 1 ty = true) : ty = .boolean := by cases ty <;> first | rfl | cases h
theorem ty_2 {ty : FieldType} (h : kdTy 2 ty = true) : ty = .long := by cases ty <;> first | rfl | cases h
theorem ty_3 {k : Nat} {ty : FieldType} (h : kdTy (k + 3) ty = true) : (∃ n, ty = .object n) ∨ ∃ t, ty = .array t := by
  cases ty <;> first | exact Or.inl ⟨_, rfl⟩ | exact Or.inr ⟨_, rfl⟩ | cases h
section KI
variable {p : Program} {l : Launch} {e : Env} {R : Room} {s : State} {m : MethodId} {args : Array Value} {below : List Frame} {meth : Method} {c : Code} {Q : State → Prop} {G : Gc} {n0 s0 own : Nat} {σ : St} {ls : Ls} {st : List Vl} {pc : Nat}

theorem k_getI (C : Cx G own p s m args) {i a b q : Nat} (hd : decode c.code pc = .ok (.getfield i, 3)) (hl : (own, i, a, b) ∈ tFL) (ha : a < 13) (hb : b < nFl a) (hk : fKd a b ≤ 1) (k : KW p l e R s m args below meth c Q G n0 s0 σ ls (vI (gI σ q b) :: st) (pc + 3)) : KW p l e R s m args below meth c Q G n0 s0 σ ls (vR a (some q) :: st) pc := by
  refine k_get (v := vI (gI σ q b)) C hd hl ha hb (fun H hR ht => ⟨?_, hR.2.2.2.2.2.1 q b⟩) k
  unfold fV
  rcases (by omega : fKd a b = 0 ∨ fKd a b = 1) with e | e <;> rw [e] <;> rfl
theorem k_getL (C : Cx G own p s m args) {i a b q : Nat} (hd : decode c.code pc = .ok (.getfield i, 3)) (hl : (own, i, a, b) ∈ tFL) (ha : a < 13) (hb : b < nFl a) (hk : fKd a b = 2) (k : KW p l e R s m args below meth c Q G n0 s0 σ ls (vL (gL σ q b) :: st) (pc + 3)) : KW p l e R s m args below meth c Q G n0 s0 σ ls (vR a (some q) :: st) pc := by
  refine k_get (v := vL (gL σ q b)) C hd hl ha hb (fun H hR ht => ⟨?_, trivial⟩) k
  unfold fV
  rw [hk]
  rfl
theorem k_getR (C : Cx G own p s m args) {i a b t q : Nat} (hd : decode c.code pc = .ok (.getfield i, 3)) (hl : (own, i, a, b) ∈ tFL) (ha : a < 13) (hb : b < nFl a) (hk : fKd a b = t + 3) (k : KW p l e R s m args below meth c Q G n0 s0 σ ls (vR t (gR σ q b) :: st) (pc + 3)) : KW p l e R s m args below meth c Q G n0 s0 σ ls (vR a (some q) :: st) pc := by
  refine k_get (v := vR t (gR σ q b)) C hd hl ha hb (fun H hR ht => ⟨?_, ?_⟩) k
  · unfold fV
    rw [hk]
    rfl
  · cases e : gR σ q b with
    | none => trivial
    | some x =>
      have := kd_le a ha b hb
      refine ⟨by omega, hR.2.2.2.2.2.2.1 q b t ?_ x e⟩
      rw [ht]
      unfold rTag
      rw [if_pos ha, if_pos (by omega), hk]
      rfl
theorem fV_oth {c a k j : Nat} {σ' : St} (hI : gI σ' a j = gI σ a j) (hL : gL σ' a j = gL σ a j) (hR : gR σ' a j = gR σ a j) {v : Value} (h : j ≠ k) : updV (fV σ c a) k v j = fV σ' c a j := by
  simp only [updV, if_neg h, fV, hI, hL, hR]
theorem k_putI (C : Cx G own p s m args) {i a b q x : Nat} {v : Int} (hd : decode c.code pc = .ok (.putfield i, 3)) (hl : (own, i, a, b) ∈ tFL) (ha : a < 13) (hb : b < nFl a) (hfin : (fTb a b).2.2.2 = false ∨ ((fTb a b).2.2.2 = true ∧ meth.name = "<init>" ∧ (fTb a b).1 = cnm own)) (hk : fKd a b = x) (hx : x = 0 ∨ (x = 1 ∧ 0 ≤ v ∧ v ≤ 1)) (k : KW p l e R s m args below meth c Q G n0 s0 (wI σ q b v) ls st (pc + 3)) : KW p l e R s m args below meth c Q G n0 s0 σ ls (vI v :: vR a (some q) :: st) pc := by
  have hty := kd_ty a ha b hb
  have hn : narrow (fTy a b) (cv (vI v)) = cv (vI v) ∧ fits (fTy a b) (cv (vI v)) = true := by
    rcases hx with rfl | ⟨rfl, h0, h1⟩
    · rw [hk] at hty
      rw [ty_0 hty]
      exact ⟨rfl, rfl⟩
    · rw [hk] at hty
      rw [ty_1 hty]
      rcases (by omega : v = 0 ∨ v = 1) with rfl | rfl <;> exact ⟨rfl, rfl⟩
  refine k_put (σ' := wI σ q b v) C hd hl ha hb hfin hn.1 hn.2 rfl rfl (fun hO => hO.pop.pop.mono fun _ _ => rfl) (fun H H' hR hO ht hq hz ho hT => ?_) k
  refine hR.setI hO.top hq hz ho (fun _ => ?_) (fun h => by omega)
  rw [ht]
  refine hT.to fun j _ => ?_
  by_cases e : j = b
  · subst e
    have hk2 : fKd a j ≤ 1 := by omega
    unfold updV fV
    rw [if_pos rfl]
    show _ = match fKd a j with | 0 => Value.int (Int32.ofInt (up2 (gI σ) q j v q j)) | 1 => Value.int (Int32.ofInt (up2 (gI σ) q j v q j)) | 2 => _ | _ => _
    rw [up2_at]
    rcases (by omega : fKd a j = 0 ∨ fKd a j = 1) with e | e <;> rw [e] <;> rfl
  · exact fV_oth (σ := σ) (σ' := wI σ q b v) (up2_oth e) rfl rfl e
theorem k_putL (C : Cx G own p s m args) {i a b q : Nat} {v : BitVec 64} (hd : decode c.code pc = .ok (.putfield i, 3)) (hl : (own, i, a, b) ∈ tFL) (ha : a < 13) (hb : b < nFl a) (hfin : (fTb a b).2.2.2 = false ∨ ((fTb a b).2.2.2 = true ∧ meth.name = "<init>" ∧ (fTb a b).1 = cnm own)) (hk : fKd a b = 2) (k : KW p l e R s m args below meth c Q G n0 s0 (wL σ q b v) ls st (pc + 3)) : KW p l e R s m args below meth c Q G n0 s0 σ ls (vL v :: vR a (some q) :: st) pc := by
  have hty := kd_ty a ha b hb
  rw [hk] at hty
  refine k_put (σ' := wL σ q b v) C hd hl ha hb hfin (by rw [ty_2 hty]; rfl) (by rw [ty_2 hty]; rfl) rfl rfl (fun hO => hO.pop.pop.mono fun _ _ => rfl) (fun H H' hR hO ht hq hz ho hT => ?_) k
  refine hR.setL hq hz ho (fun _ => ?_) (fun h => by omega)
  rw [ht]
  refine hT.to fun j _ => ?_
  by_cases e : j = b
  · subst e
    unfold updV fV
    rw [if_pos rfl, hk]
    show _ = Value.long (Int64.ofBitVec (up2 (gL σ) q j v q j))
    rw [up2_at]
    rfl
  · exact fV_oth (σ := σ) (σ' := wL σ q b v) rfl (up2_oth e) rfl e
theorem k_putR (C : Cx G own p s m args) {i a b q t : Nat} {v : Option Nat} (hd : decode c.code pc = .ok (.putfield i, 3)) (hl : (own, i, a, b) ∈ tFL) (ha : a < 13) (hb : b < nFl a) (hfin : (fTb a b).2.2.2 = false ∨ ((fTb a b).2.2.2 = true ∧ meth.name = "<init>" ∧ (fTb a b).1 = cnm own)) (hk : fKd a b = t + 3) (k : KW p l e R s m args below meth c Q G n0 s0 (wR σ q b v) ls st (pc + 3)) : KW p l e R s m args below meth c Q G n0 s0 σ ls (vR t v :: vR a (some q) :: st) pc := by
  have hty := kd_ty a ha b hb
  rw [hk] at hty
  have hn : narrow (fTy a b) (cv (vR t v)) = cv (vR t v) ∧ fits (fTy a b) (cv (vR t v)) = true := by
    rcases ty_3 hty with ⟨n, e⟩ | ⟨n, e⟩ <;> rw [e] <;> cases v <;> exact ⟨rfl, rfl⟩
  refine k_put (σ' := wR σ q b v) C hd hl ha hb hfin hn.1 hn.2 rfl rfl (fun hO => hO.pop.pop.mono fun _ _ => rfl) (fun H H' hR hO ht hq hz ho hT => ?_) k
  refine hR.setR (fun u hu x hx => ?_) hq hz ho (fun _ => ?_) (fun h => by omega)
  · rw [ht] at hu
    have := rTag_kd ha hu
    subst hx
    rw [hO.top.2]
    omega
  · rw [ht]
    refine hT.to fun j _ => ?_
    by_cases e : j = b
    · subst e
      unfold updV fV
      rw [if_pos rfl, hk]
      show _ = va_rf (up2 (gR σ) q j v q j)
      rw [up2_at]
      rfl
    · exact fV_oth (σ := σ) (σ' := wR σ q b v) rfl rfl (up2_oth e) e
theorem k_iald (C : Cx G own p s m args) {q : Nat} {i : Int} (hd : decode c.code pc = .ok (.iaload, 1)) (hi : 0 ≤ i ∧ i < (ln σ q : Int)) (k : KW p l e R s m args below meth c Q G n0 s0 σ ls (vI (gI σ q i.toNat) :: st) (pc + 1)) : KW p l e R s m args below meth c Q G n0 s0 σ ls (vI i :: vR 14 (some q) :: st) pc := by
  intro H locs lsJ hR hlo hL hO
  have ht : tg σ q = 14 := hO.pop.top.2
  obtain ⟨hb, hn, hc⟩ := hR.2.2.2.1 q (by omega) (by omega)
  rw [ht] at hc
  refine W.iald C.1 rfl hc ((C.2.2.2.2.1 14 (by omega) (by omega)).1 _ _) (fun h => by cases h) (by rw [arrV_size]; exact rg_inb hO.top hi) (v := cv (vI (gI σ q i.toNat))) ?_ rfl rfl hd (k H locs lsJ hR hlo hL (hO.pop.pop.push (v := vI (gI σ q i.toNat)) (hR.2.2.2.2.2.1 q i.toNat)))
  rw [rg_clamp hO.top, arrV_read _ _ (by omega)]
  rfl
theorem k_lald (C : Cx G own p s m args) {q : Nat} {i : Int} (hd : decode c.code pc = .ok (.laload, 1)) (hi : 0 ≤ i ∧ i < (ln σ q : Int)) (k : KW p l e R s m args below meth c Q G n0 s0 σ ls (vL (gL σ q i.toNat) :: st) (pc + 1)) : KW p l e R s m args below meth c Q G n0 s0 σ ls (vI i :: vR 15 (some q) :: st) pc := by
  intro H locs lsJ hR hlo hL hO
  have ht : tg σ q = 15 := hO.pop.top.2
  obtain ⟨hb, hn, hc⟩ := hR.2.2.2.1 q (by omega) (by omega)
  rw [ht] at hc
  refine W.lald C.1 rfl hc ((C.2.2.2.2.1 15 (by omega) (by omega)).1 _ _) (fun h => by cases h) (by rw [arrV_size]; exact rg_inb hO.top hi) (v := cv (vL (gL σ q i.toNat))) ?_ rfl rfl hd (k H locs lsJ hR hlo hL (hO.pop.pop.push (v := vL (gL σ q i.toNat)) (trivial)))
  rw [rg_clamp hO.top, arrV_read _ _ (by omega)]
  rfl
theorem k_bald (C : Cx G own p s m args) {q : Nat} {i : Int} (hd : decode c.code pc = .ok (.baload, 1)) (hi : 0 ≤ i ∧ i < (ln σ q : Int)) (k : KW p l e R s m args below meth c Q G n0 s0 σ ls (vI (gI σ q i.toNat) :: st) (pc + 1)) : KW p l e R s m args below meth c Q G n0 s0 σ ls (vI i :: vR 13 (some q) :: st) pc := by
  intro H locs lsJ hR hlo hL hO
  have ht : tg σ q = 13 := hO.pop.top.2
  obtain ⟨hb, hn, hc⟩ := hR.2.2.2.1 q (by omega) (by omega)
  rw [ht] at hc
  refine W.bald C.1 rfl hc ((C.2.2.2.2.1 13 (by omega) (by omega)).1 _ _) (fun h => by cases h) (by rw [arrV_size]; exact rg_inb hO.top hi) (v := cv (vI (gI σ q i.toNat))) ?_ rfl rfl hd (k H locs lsJ hR hlo hL (hO.pop.pop.push (v := vI (gI σ q i.toNat)) (hR.2.2.2.2.2.1 q i.toNat)))
  rw [rg_clamp hO.top, arrV_read _ _ (by omega)]
  rfl
theorem k_zald (C : Cx G own p s m args) {q : Nat} {i : Int} (hd : decode c.code pc = .ok (.baload, 1)) (hi : 0 ≤ i ∧ i < (ln σ q : Int)) (k : KW p l e R s m args below meth c Q G n0 s0 σ ls (vI (gI σ q i.toNat) :: st) (pc + 1)) : KW p l e R s m args below meth c Q G n0 s0 σ ls (vI i :: vR 16 (some q) :: st) pc := by
  intro H locs lsJ hR hlo hL hO
  have ht : tg σ q = 16 := hO.pop.top.2
  obtain ⟨hb, hn, hc⟩ := hR.2.2.2.1 q (by omega) (by omega)
  rw [ht] at hc
  refine W.zald C.1 rfl hc ((C.2.2.2.2.1 16 (by omega) (by omega)).1 _ _) (fun h => by cases h) (by rw [arrV_size]; exact rg_inb hO.top hi) (v := cv (vI (gI σ q i.toNat))) ?_ rfl rfl hd (k H locs lsJ hR hlo hL (hO.pop.pop.push (v := vI (gI σ q i.toNat)) (hR.2.2.2.2.2.1 q i.toNat)))
  rw [rg_clamp hO.top, arrV_read _ _ (by omega)]
  rfl
theorem k_fald (C : Cx G own p s m args) {q : Nat} {i : Int} (hd : decode c.code pc = .ok (.iaload, 1)) (hi : 0 ≤ i ∧ i < (ln σ q : Int)) (k : KW p l e R s m args below meth c Q G n0 s0 σ ls (vI (gI σ q i.toNat) :: st) (pc + 1)) : KW p l e R s m args below meth c Q G n0 s0 σ ls (vI i :: vR 20 (some q) :: st) pc := by
  intro H locs lsJ hR hlo hL hO
  have ht : tg σ q = 20 := hO.pop.top.2
  obtain ⟨hb, hz, hn, cell, h1, h2, h3, h4⟩ := hR.2.2.2.2.1 q ht
  have hc : H[q]? = some cell := by rw [hR.2.1 q hb]; exact h1
  refine W.iald C.1 rfl hc (C.2.2.2.2.2.2.2.2.2.2 q cell hz h1) h2 (by rw [h3]; exact rg_inb hO.top hi) (v := cv (vI (gI σ q i.toNat))) ?_ rfl rfl hd (k H locs lsJ hR hlo hL (hO.pop.pop.push (v := vI _) (hR.2.2.2.2.2.1 q i.toNat)))
  rw [rg_clamp hO.top, h4 _ (by omega)]
  rfl
theorem k_aald (C : Cx G own p s m args) {q a t : Nat} {i : Int} (hd : decode c.code pc = .ok (.aaload, 1)) (hat : (a, t) ∈ [(17, 7), (18, 10), (19, 15)]) (hi : 0 ≤ i ∧ i < (ln σ q : Int)) (k : KW p l e R s m args below meth c Q G n0 s0 σ ls (vR t (gR σ q i.toNat) :: st) (pc + 1)) : KW p l e R s m args below meth c Q G n0 s0 σ ls (vI i :: vR a (some q) :: st) pc := by
  intro H locs lsJ hR hlo hL hO
  have ht : tg σ q = a := hO.pop.top.2
  have ha : 17 ≤ a ∧ a < 20 ∧ t ≤ 20 ∧ rTag a i.toNat = some t ∧ (aTy a).isReference = true := by
    simp at hat
    rcases hat with ⟨rfl, rfl⟩ | ⟨rfl, rfl⟩ | ⟨rfl, rfl⟩ <;> exact ⟨by decide, by decide, by decide, rfl, rfl⟩
  obtain ⟨hb, hn, hc⟩ := hR.2.2.2.1 q (by omega) (by omega)
  rw [ht] at hc
  refine W.aald C.1 rfl hc ((C.2.2.2.2.1 a (by omega) (by omega)).1 _ _) ha.2.2.2.2 (fun h => by cases h) (by rw [arrV_size]; exact rg_inb hO.top hi) (v := cv (vR t (gR σ q i.toNat))) ?_ rfl rfl hd (k H locs lsJ hR hlo hL (hO.pop.pop.push (v := vR t _) ?_))
  · rw [rg_clamp hO.top, arrV_read _ _ (by omega)]
    unfold aV
    rw [if_neg (by omega), if_neg (by omega)]
    rfl
  · cases e : gR σ q i.toNat with
    | none => trivial
    | some x => exact ⟨ha.2.2.1, hR.2.2.2.2.2.2.1 q i.toNat t (by rw [ht]; exact ha.2.2.2.1) x e⟩
theorem k_alen (C : Cx G own p s m args) {q t : Nat} (hd : decode c.code pc = .ok (.arraylength, 1)) (ht : 13 ≤ t ∧ t ≤ 20) (hn : (ln σ q : Int) < 2147483648) (k : KW p l e R s m args below meth c Q G n0 s0 σ ls (vI (ln σ q) :: st) (pc + 1)) : KW p l e R s m args below meth c Q G n0 s0 σ ls (vR t (some q) :: st) pc := by
  intro H locs lsJ hR hlo hL hO
  have h : tg σ q = t := hO.top.2
  have k := k H locs lsJ hR hlo hL (hO.pop.push (v := vI (ln σ q)) ⟨by omega, by omega⟩)
  rcases (by omega : t < 20 ∨ t = 20) with h20 | h20
  · obtain ⟨hb, -, hc⟩ := hR.2.2.2.1 q (by omega) (by omega)
    rw [h] at hc
    exact W.alen C.1 rfl hc ((C.2.2.2.2.1 t (by omega) (by omega)).1 _ _) (by rw [arrV_size]; rfl) rfl rfl hd k
  · obtain ⟨hb, hz, -, cell, h1, h2, h3, h4⟩ := hR.2.2.2.2.1 q (by omega)
    have hc : H[q]? = some cell := by rw [hR.2.1 q hb]; exact h1
    exact W.alen C.1 rfl hc (C.2.2.2.2.2.2.2.2.2.2 q cell hz h1) (by rw [h3]; rfl) rfl rfl hd k
theorem k_iast (C : Cx G own p s m args) {q : Nat} {i : Int} {v : Int} (hd : decode c.code pc = .ok (.iastore, 1)) (hi : 0 ≤ i ∧ i < (ln σ q : Int))  (k : KW p l e R s m args below meth c Q G n0 s0 (wI σ q i.toNat v) ls st (pc + 1)) : KW p l e R s m args below meth c Q G n0 s0 σ ls (vI v :: vI i :: vR 14 (some q) :: st) pc := by
  intro H locs lsJ hR hlo hL hO
  have ht : tg σ q = 14 := hO.pop.pop.top.2
  obtain ⟨hb, hn, hc⟩ := hR.2.2.2.1 q (by omega) (by omega)
  rw [ht] at hc
  refine W.iast C.1 rfl hc ((C.2.2.2.2.1 14 (by omega) (by omega)).1 _ _) (fun h => by cases h) (by rw [arrV_size]; exact rg_inb hO.pop.top hi) rfl rfl hd fun H' e1 e2 e3 => ?_
  rw [rg_clamp hO.pop.top, arrV_store] at e1
  refine k H' _ lsJ (hR.setI (hO.top) hb e2 e3 (fun h => by omega) (fun _ _ => ?_)) (fun x hx => ?_) hL (hO.pop.pop.pop.mono fun _ _ => rfl)
  · rw [e1, ht]
    congr 2
    funext j
    unfold updV aV
    by_cases e : j = i.toNat
    · subst e
      rw [if_pos rfl]
      simp [wI, gI, up2]
    · rw [if_neg e]
      show _ = _
      simp [wI, gI, gL, gR, up2, e]
  · rcases List.mem_append.mp hx with hx | hx
    · exact hlo x hx
    · rw [List.mem_singleton.mp hx]
      exact hb
theorem k_last (C : Cx G own p s m args) {q : Nat} {i : Int} {v : BitVec 64} (hd : decode c.code pc = .ok (.lastore, 1)) (hi : 0 ≤ i ∧ i < (ln σ q : Int))  (k : KW p l e R s m args below meth c Q G n0 s0 (wL σ q i.toNat v) ls st (pc + 1)) : KW p l e R s m args below meth c Q G n0 s0 σ ls (vL v :: vI i :: vR 15 (some q) :: st) pc := by
  intro H locs lsJ hR hlo hL hO
  have ht : tg σ q = 15 := hO.pop.pop.top.2
  obtain ⟨hb, hn, hc⟩ := hR.2.2.2.1 q (by omega) (by omega)
  rw [ht] at hc
  refine W.last C.1 rfl hc ((C.2.2.2.2.1 15 (by omega) (by omega)).1 _ _) (fun h => by cases h) (by rw [arrV_size]; exact rg_inb hO.pop.top hi) rfl rfl hd fun H' e1 e2 e3 => ?_
  rw [rg_clamp hO.pop.top, arrV_store] at e1
  refine k H' _ lsJ (hR.setL hb e2 e3 (fun h => by omega) (fun _ _ => ?_)) (fun x hx => ?_) hL (hO.pop.pop.pop.mono fun _ _ => rfl)
  · rw [e1, ht]
    congr 2
    funext j
    unfold updV aV
    by_cases e : j = i.toNat
    · subst e
      rw [if_pos rfl]
      simp [wL, gL, up2]
    · rw [if_neg e]
      show _ = _
      simp [wL, gI, gL, gR, up2, e]
  · rcases List.mem_append.mp hx with hx | hx
    · exact hlo x hx
    · rw [List.mem_singleton.mp hx]
      exact hb
theorem k_bast (C : Cx G own p s m args) {q : Nat} {i : Int} {v : Int} (hd : decode c.code pc = .ok (.bastore, 1)) (hi : 0 ≤ i ∧ i < (ln σ q : Int)) (hv : -128 ≤ v ∧ v ≤ 127) (k : KW p l e R s m args below meth c Q G n0 s0 (wI σ q i.toNat v) ls st (pc + 1)) : KW p l e R s m args below meth c Q G n0 s0 σ ls (vI v :: vI i :: vR 13 (some q) :: st) pc := by
  intro H locs lsJ hR hlo hL hO
  have ht : tg σ q = 13 := hO.pop.pop.top.2
  obtain ⟨hb, hn, hc⟩ := hR.2.2.2.1 q (by omega) (by omega)
  rw [ht] at hc
  refine W.bast C.1 rfl hc ((C.2.2.2.2.1 13 (by omega) (by omega)).1 _ _) (fun h => by cases h) (by rw [arrV_size]; exact rg_inb hO.pop.top hi) rfl rfl hd fun H' e1 e2 e3 => ?_
  rw [rg_clamp hO.pop.top, arrV_store, nar_b hv] at e1
  refine k H' _ lsJ (hR.setI (hO.top) hb e2 e3 (fun h => by omega) (fun _ _ => ?_)) (fun x hx => ?_) hL (hO.pop.pop.pop.mono fun _ _ => rfl)
  · rw [e1, ht]
    congr 2
    funext j
    unfold updV aV
    by_cases e : j = i.toNat
    · subst e
      rw [if_pos rfl]
      simp [wI, gI, up2]
    · rw [if_neg e]
      show _ = _
      simp [wI, gI, gL, gR, up2, e]
  · rcases List.mem_append.mp hx with hx | hx
    · exact hlo x hx
    · rw [List.mem_singleton.mp hx]
      exact hb
theorem k_zast (C : Cx G own p s m args) {q : Nat} {i : Int} {v : Int} (hd : decode c.code pc = .ok (.bastore, 1)) (hi : 0 ≤ i ∧ i < (ln σ q : Int)) (hv : 0 ≤ v ∧ v ≤ 1) (k : KW p l e R s m args below meth c Q G n0 s0 (wI σ q i.toNat v) ls st (pc + 1)) : KW p l e R s m args below meth c Q G n0 s0 σ ls (vI v :: vI i :: vR 16 (some q) :: st) pc := by
  intro H locs lsJ hR hlo hL hO
  have ht : tg σ q = 16 := hO.pop.pop.top.2
  obtain ⟨hb, hn, hc⟩ := hR.2.2.2.1 q (by omega) (by omega)
  rw [ht] at hc
  refine W.zast C.1 rfl hc ((C.2.2.2.2.1 16 (by omega) (by omega)).1 _ _) (fun h => by cases h) (by rw [arrV_size]; exact rg_inb hO.pop.top hi) rfl rfl hd fun H' e1 e2 e3 => ?_
  rw [rg_clamp hO.pop.top, arrV_store, nar_z hv] at e1
  refine k H' _ lsJ (hR.setI (hO.top) hb e2 e3 (fun h => by omega) (fun _ _ => ?_)) (fun x hx => ?_) hL (hO.pop.pop.pop.mono fun _ _ => rfl)
  · rw [e1, ht]
    congr 2
    funext j
    unfold updV aV
    by_cases e : j = i.toNat
    · subst e
      rw [if_pos rfl]
      simp [wI, gI, up2]
    · rw [if_neg e]
      show _ = _
      simp [wI, gI, gL, gR, up2, e]
  · rcases List.mem_append.mp hx with hx | hx
    · exact hlo x hx
    · rw [List.mem_singleton.mp hx]
      exact hb
end KI
end
section
/-! what is made -/
theorem rTag_lt {c k t : Nat} (h : rTag c k = some t) : t < 20 := by
  unfold rTag at h
  split at h
  · rename_i hc
    split at h
    · cases h
      by_cases hk : k < nFl c
      · have := kd_le c hc k hk
        omega
      · have e : fKd c k = 0 := by
          unfold fKd
          have hl : (fKdL.getD c []).length ≤ k := by
            have : ∀ c, c < 13 → (fKdL.getD c []).length = nFl c := by decide +kernel
            rw [this c hc]; omega
          rw [List.getD_eq_getElem?_getD, List.getElem?_eq_none hl]
          rfl
        omega
    · cases h
  · repeat' split at h
    all_goals first | (cases h; decide) | cases h
theorem Rel.lt {G : Gc} {σ : St} {H : Heap} (h : Rel G σ H) {b : Nat} (hb : tg σ b ≤ 20) : b < nx σ := by
  rw [← h.1.1]
  rcases (by omega : tg σ b < 13 ∨ (13 ≤ tg σ b ∧ tg σ b < 20) ∨ tg σ b = 20) with q | q | q
  · obtain ⟨-, cell, q1, -⟩ := h.2.2.1 b q
    exact (Array.getElem?_eq_some_iff.mp q1).1
  · exact (Array.getElem?_eq_some_iff.mp (h.2.2.2.1 b q.1 q.2).2.2).1
  · have := (h.2.2.2.2.1 b q).1
    have := h.1.1
    have := h.1.2.1
    omega
theorem Rel.mk' {G : Gc} {σ : St} {H H' : Heap} (h : Rel G σ H) {t n z : Nat} (ht : t < 20) (hz : H'.size = H.size + 1) (ho : ∀ q, q < H.size → H'[q]? = H[q]?) (hobj : t < 13 → t_OB (nx σ) (gC G t) (nFl t) (gD G t) H' (fV (mk σ t n z) t (nx σ))) (harr : 13 ≤ t → n < 2147483648 ∧ H'[nx σ]? = some (arrV (gA G t) n (aV (mk σ t n z) t (nx σ)))) : Rel G (mk σ t n z) H' := by
  have hlt := fun {b : Nat} (hb : tg σ b ≤ 20) => h.lt hb
  obtain ⟨⟨h1, h2, h3⟩, h4, h5, h6, h7, h8, h9, h10⟩ := h
  have et : ∀ b, b ≠ nx σ → tg (mk σ t n z) b = tg σ b := fun b e => up1_ne e
  have el : ∀ b, b ≠ nx σ → ln (mk σ t n z) b = ln σ b := fun b e => up1_ne e
  have eI : ∀ b, b ≠ nx σ → gI (mk σ t n z) b = gI σ b := fun b e => up1_ne e
  have eL : ∀ b, b ≠ nx σ → gL (mk σ t n z) b = gL σ b := fun b e => up1_ne e
  have eR : ∀ b, b ≠ nx σ → gR (mk σ t n z) b = gR σ b := fun b e => up1_ne e
  have e0 : tg (mk σ t n z) (nx σ) = t := up1_at
  have e1 : ln (mk σ t n z) (nx σ) = n := up1_at
  have e2 : gI (mk σ t n z) (nx σ) = fun _ => 0 := up1_at
  have e3 : gR (mk σ t n z) (nx σ) = fun _ => none := up1_at
  have en : nx (mk σ t n z) = nx σ + 1 := rfl
  refine ⟨⟨by rw [hz, h1, en], by rw [en]; omega, h3⟩, fun q hq => by rw [ho q (by omega)]; exact h4 q hq, ?_, ?_, ?_, ?_, ?_, ?_⟩
  · intro b hb
    by_cases e : b = nx σ
    · subst e
      rw [e0] at hb ⊢
      exact ⟨h2, hobj hb⟩
    · rw [et b e] at hb ⊢
      refine ⟨(h5 b hb).1, ((h5 b hb).2.kept (ho b ?_)).to fun k _ => ?_⟩
      · rw [h1]; exact hlt (by omega)
      · simp only [fV, eI b e, eL b e, eR b e]
  · intro b hb hb2
    by_cases e : b = nx σ
    · subst e
      rw [e0] at hb hb2 ⊢
      rw [e1]
      exact ⟨h2, harr hb⟩
    · rw [et b e] at hb hb2 ⊢
      rw [el b e]
      refine ⟨(h6 b hb hb2).1, (h6 b hb hb2).2.1, ?_⟩
      rw [ho b (by rw [h1]; exact hlt (by omega)), (h6 b hb hb2).2.2]
      congr 2
      funext k
      simp only [aV, eI b e, eL b e, eR b e]
  · intro b hb
    by_cases e : b = nx σ
    · subst e
      rw [e0] at hb
      omega
    · rw [et b e] at hb
      rw [el b e, eI b e]
      exact h7 b hb
  · intro b k
    by_cases e : b = nx σ
    · subst e
      rw [e2]
      exact rg_0
    · rw [eI b e]
      exact h8 b k
  · intro b k u hb q hq
    by_cases e : b = nx σ
    · subst e
      rw [e3] at hq
      cases hq
    · rw [et b e] at hb
      rw [eR b e] at hq
      have := h9 b k u hb q hq
      have hu := rTag_lt hb
      rw [et q (fun x => by have := hlt (b := q) (by omega); omega)]
      exact this
  · intro i hi q hq
    rw [eR 0 (by omega)] at hq
    obtain ⟨a1, a2⟩ := h10 i hi q hq
    refine ⟨a1, ?_⟩
    rw [et q (fun x => by have := hlt (b := q) (by omega); omega)]
    exact a2
theorem OKs.mk' {G : Gc} {σ : St} {H : Heap} (h : Rel G σ H) {ls : Ls} {st : List Vl} {t n z : Nat} (hO : OKs σ ls st) : OKs (mk σ t n z) ls st := hO.mono fun b hb => up1_ne (fun e => by have := h.lt hb; omega)
theorem fV_new {σ : St} {t n z : Nat} (ht : t < 13) (k : Nat) (hk : k < nFl t) : defaultValue (fTy t k) = fV (mk σ t n z) t (nx σ) k := by
  have hty := kd_ty t ht k hk
  have e2 : gI (mk σ t n z) (nx σ) = fun _ => 0 := up1_at
  have e3 : gR (mk σ t n z) (nx σ) = fun _ => none := up1_at
  have e4 : gL (mk σ t n z) (nx σ) = fun _ => 0 := up1_at
  unfold fV
  rw [e2, e3, e4]
  rcases (show fKd t k = 0 ∨ fKd t k = 1 ∨ fKd t k = 2 ∨ ∃ j, fKd t k = j + 3 from by
    match fKd t k with
    | 0 => exact Or.inl rfl
    | 1 => exact Or.inr (Or.inl rfl)
    | 2 => exact Or.inr (Or.inr (Or.inl rfl))
    | j + 3 => exact Or.inr (Or.inr (Or.inr ⟨j, rfl⟩))) with e | e | e | ⟨j, e⟩
  · rw [e] at hty ⊢; rw [ty_0 hty]; rfl
  · rw [e] at hty ⊢; rw [ty_1 hty]; rfl
  · rw [e] at hty ⊢; rw [ty_2 hty]; rfl
  · rw [e] at hty ⊢
    rcases ty_3 hty with ⟨_, q⟩ | ⟨_, q⟩ <;> rw [q] <;> rfl
  
section KJ
variable {p : Program} {l : Launch} {e : Env} {R : Room} {s : State} {m : MethodId} {args : Array Value} {below : List Frame} {meth : Method} {c : Code} {Q : State → Prop} {G : Gc} {n0 s0 own : Nat} {σ : St} {ls : Ls} {st : List Vl} {pc : Nat}

theorem k_newa (C : Cx G own p s m args) {at_ : ArrayType} {t : Nat} {n : Int} (hd : decode c.code pc = .ok (.newarray at_, 2)) (ht : (at_ = .byte ∧ t = 13) ∨ (at_ = .int ∧ t = 14) ∨ (at_ = .long ∧ t = 15) ∨ (at_ = .boolean ∧ t = 16)) (hn : 0 ≤ n ∧ n ≤ 1000000) (hn0 : n0 ≤ nx σ) (hs0 : s0 ≤ sl σ) (hc : nx σ - n0 + 1 ≤ R.cells) (hs : sl σ - s0 + n.toNat ≤ R.slots)
    (k : KW p l e R s m args below meth c Q G n0 s0 (mk σ t n.toNat n.toNat) ls (vR t (some (nx σ)) :: st) (pc + 2)) : KW p l e R s m args below meth c Q G n0 s0 σ ls (vI n :: st) pc := by
  intro H locs lsJ hR hlo hL hO
  have hty : newarray.typeOf at_ = aTy t ∧ 13 ≤ t ∧ t < 17 := by
    rcases ht with ⟨rfl, rfl⟩ | ⟨rfl, rfl⟩ | ⟨rfl, rfl⟩ | ⟨rfl, rfl⟩ <;> exact ⟨rfl, by decide, by decide⟩
  have harr : (Cond.arrayClass (newarray.typeOf at_)).before args s = true := by
    refine C.2.2.1 _ (gt_of (tOd_in _ ?_))
    rcases ht with ⟨rfl, rfl⟩ | ⟨rfl, rfl⟩ | ⟨rfl, rfl⟩ | ⟨rfl, rfl⟩ <;> simp [tOd, newarray.typeOf]
  have hra := (C.2.2.2.2.1 t (by omega) (by omega)).2
  refine W.newa C.1 rfl harr rfl hd rfl (by rw [show (0 : Int32) = Int32.ofInt 0 from rfl, rg_lt hO.top rg_0]; omega) ?_ hc (by rw [rg_clamp hO.top]; exact hs) fun cA kA comp g1 g2 g3 => ?_
  · rw [rg_clamp hO.top]
    have : componentBytes (newarray.typeOf at_) ≤ 8 := by
      rcases ht with ⟨rfl, -⟩ | ⟨rfl, -⟩ | ⟨rfl, -⟩ | ⟨rfl, -⟩ <;> decide
    calc n.toNat * _ ≤ 1000000 * 8 := Nat.mul_le_mul (by omega) this
      _ ≤ _ := by decide
  · have hcA : cA = gA G t := by
      rw [hty.1] at g1
      rcases ht with ⟨rfl, rfl⟩ | ⟨rfl, rfl⟩ | ⟨rfl, rfl⟩ | ⟨rfl, rfl⟩ <;> exact Option.some.inj (g1.symm.trans hra)
    subst hcA
    rw [rg_clamp hO.top, hR.1.1, hty.1, arrV_new]
    have := k (H.push (arrV (gA G t) n.toNat fun _ => defaultValue (aTy t))) locs lsJ (hR.mk' (by omega) (by simp) (fun q hq => by rw [Array.getElem?_push, if_neg (by omega)]) (fun h => by omega) (fun _ => ⟨by omega, ?_⟩)) hlo hL ((hO.pop.mk' hR).push ⟨by omega, up1_at⟩)
    · rw [show nx (mk σ t n.toNat n.toNat) - n0 = nx σ - n0 + 1 by show nx σ + 1 - n0 = _; omega, show sl (mk σ t n.toNat n.toNat) - s0 = sl σ - s0 + n.toNat by show sl σ + n.toNat - s0 = _; omega] at this
      exact this
    · rw [← hR.1.1]
      simp only [Array.getElem?_push, if_pos]
      congr 2
      funext j
      have e2 : gI (mk σ t n.toNat n.toNat) (nx σ) = fun _ => 0 := up1_at
      have e4 : gL (mk σ t n.toNat n.toNat) (nx σ) = fun _ => 0 := up1_at
      unfold aV
      rw [hR.1.1, e2, e4]
      rcases ht with ⟨rfl, rfl⟩ | ⟨rfl, rfl⟩ | ⟨rfl, rfl⟩ | ⟨rfl, rfl⟩ <;> rfl
theorem k_anew (C : Cx G own p s m args) {i t u : Nat} {n : Int} (hd : decode c.code pc = .ok (.anewarray i, 3)) (hl : (own, i, u) ∈ tNA) (ht : (u = 7 ∧ t = 17) ∨ (u = 10 ∧ t = 18)) (hn : 0 ≤ n ∧ n ≤ 1000000) (hn0 : n0 ≤ nx σ) (hs0 : s0 ≤ sl σ) (hc : nx σ - n0 + 1 ≤ R.cells) (hs : sl σ - s0 + n.toNat ≤ R.slots)
    (k : KW p l e R s m args below meth c Q G n0 s0 (mk σ t n.toNat n.toNat) ls (vR t (some (nx σ)) :: st) (pc + 3)) : KW p l e R s m args below meth c Q G n0 s0 σ ls (vI n :: st) pc := by
  intro H locs lsJ hR hlo hL hO
  have hty : aTy t = .object (cnm u) ∧ 17 ≤ t ∧ t < 19 := by
    rcases ht with ⟨rfl, rfl⟩ | ⟨rfl, rfl⟩ <;> exact ⟨rfl, by decide, by decide⟩
  have hov : (Cond.arrayOver (.object (cnm u))).before args s = true := by
    rcases ht with ⟨rfl, rfl⟩ | ⟨rfl, rfl⟩
    · exact C.2.2.2.2.2.2.1.1.use
    · exact C.2.2.2.2.2.2.1.2.1.use
  have hra := (C.2.2.2.2.1 t (by omega) (by omega)).2
  refine W.anew C.1 rfl C.2.1 (C.2.2.1 _ (gt_of (tNA_in _ (List.mem_map_of_mem hl)))) hov rfl hd rfl (by rw [show (0 : Int32) = Int32.ofInt 0 from rfl, rg_lt hO.top rg_0]; omega) ?_ hc (by rw [rg_clamp hO.top]; exact hs) fun cA kA comp g1 g2 g3 g4 => ?_
  · rw [rg_clamp hO.top]
    omega
  · have hcA : cA = gA G t := by
      rw [hty.1] at hra
      obtain ⟨_, _, _, _, _, g⟩ := hra
      exact Option.some.inj (g1.symm.trans g)
    subst hcA
    rw [rg_clamp hO.top, hR.1.1, arrV_new]
    have := k (H.push (arrV (gA G t) n.toNat fun _ => .null)) locs lsJ (hR.mk' (by omega) (by simp) (fun q hq => by rw [Array.getElem?_push, if_neg (by omega)]) (fun h => by omega) (fun _ => ⟨by omega, ?_⟩)) hlo hL ((hO.pop.mk' hR).push ⟨by omega, up1_at⟩)
    · rw [show nx (mk σ t n.toNat n.toNat) - n0 = nx σ - n0 + 1 by show nx σ + 1 - n0 = _; omega, show sl (mk σ t n.toNat n.toNat) - s0 = sl σ - s0 + n.toNat by show sl σ + n.toNat - s0 = _; omega] at this
      exact this
    · rw [← hR.1.1]
      simp only [Array.getElem?_push, if_pos]
      congr 2
      funext j
      have e2 : gR (mk σ t n.toNat n.toNat) (nx σ) = fun _ => none := up1_at
      unfold aV
      rw [hR.1.1, e2, if_neg (by omega), if_neg (by omega)]
      rfl
theorem k_new (C : Cx G own p s m args) {i t : Nat} (hd : decode c.code pc = .ok (.new i, 3)) (hl : (own, i, t) ∈ tCL) (ht : t < 13) (hn0 : n0 ≤ nx σ) (hs0 : s0 ≤ sl σ) (hc : nx σ - n0 + 1 ≤ R.cells) (hs : sl σ - s0 + nFl t ≤ R.slots)
    (k : KW p l e R s m args below meth c Q G n0 s0 (mk σ t 0 (nFl t)) ls (vR t (some (nx σ)) :: st) (pc + 3)) : KW p l e R s m args below meth c Q G n0 s0 σ ls st pc := by
  intro H locs lsJ hR hlo hL hO
  have hKn := C.2.2.2.1 t _ (cl_at t ht)
  have hin : t ∈ tLy := by
    have : ∀ t, t < 13 → t ∈ tLy := by decide +kernel
    exact this t ht
  have hin2 : t ∈ tCi := by
    have : ∀ t, t < 13 → t ∈ tCi := by decide +kernel
    exact this t ht
  refine W.newcK C.1 rfl C.2.1 (C.2.2.1 _ (gt_of (tCL_in _ (List.mem_map_of_mem hl)))) (C.2.2.1 _ (gt_of (tLy_in _ (List.mem_map_of_mem hin)))) (C.2.2.1 _ (gt_of (tCi_in _ (List.mem_map_of_mem hin2)))) rfl hd hc hs hKn.2.1 hR.1.1 fun H1 kC hkC e1 z1 o1 => ?_
  have := k H1 locs lsJ (hR.mk' (n := 0) (z := nFl t) (by omega) (by rw [z1, hR.1.1]) (fun q hq => o1 q (by rw [← hR.1.1]; exact hq)) (fun _ => (u_born (fTy t) C.2.2.1 (cl_ws t ht) hKn hkC e1 (cl_ty t ht)).to (fun j hj => fV_new ht j hj)) (fun h => by omega)) hlo hL ((hO.mk' hR).push ⟨by omega, up1_at⟩)
  rw [show nx (mk σ t 0 (nFl t)) - n0 = nx σ - n0 + 1 by show nx σ + 1 - n0 = _; omega, show sl (mk σ t 0 (nFl t)) - s0 = sl σ - s0 + nFl t by show sl σ + nFl t - s0 = _; omega] at this
  exact this
theorem k_oinit (C : Cx G own p s m args) {i u q : Nat} (hd : decode c.code pc = .ok (.invokespecial i, 3)) (hl : (own, i) ∈ tOI) (hw : stW st ≤ 8) (hf : 1 ≤ R.frames) (hlo : 20 ≤ R.locals) (k : KW p l e R s m args below meth c Q G n0 s0 σ ls st (pc + 3)) : KW p l e R s m args below meth c Q G n0 s0 σ ls (vR u (some q) :: st) pc := by
  intro H locs lsJ hR hl2 hL hO
  refine W.objInit C.1 rfl C.2.1 (C.2.2.1 _ (gt_of (tOI_in _ (List.mem_map_of_mem hl)))) (C.2.2.1 _ (gt_of (tOd_in _ ?_))) (C.2.2.1 _ (gt_of (tOd_in _ ?_))) rfl hL.1 rfl hd hf ?_ (k H locs lsJ hR hl2 hL hO.pop)
  · simp [tOd]
  · simp [tOd]
  · have := cv_sum st
    show 2 * 0 + _ + 12 ≤ _
    omega
theorem k_gets (C : Cx G own p s m args) {i a q : Nat} {nm : String} (hd : decode c.code pc = .ok (.getstatic i, 3)) (ha : (a = 0 ∧ nm = "SHIFT") ∨ (a = 1 ∧ nm = "GREATEST")) (hl : (Cond.fieldLink (cnm own) i "WishWays" nm "[I").before args s = true) (hq : stA σ a = some q) (k : KW p l e R s m args below meth c Q G n0 s0 σ ls (vR 20 (some q) :: st) (pc + 3)) : KW p l e R s m args below meth c Q G n0 s0 σ ls st pc := by
  intro H locs lsJ hR hlo hL hO
  obtain ⟨e1, e2⟩ := hR.2.2.2.2.2.2.2 a (by omega) q hq
  have hz : va_Z "WishWays" nm "[I" (.ref q) (fun x => gB G ≤ x) s (gH G) := by
    rcases ha with ⟨rfl, rfl⟩ | ⟨rfl, rfl⟩
    · rw [e1]; exact C.2.2.2.2.2.2.2.2.2.1.1
    · rw [e1]; exact C.2.2.2.2.2.2.2.2.2.1.2
  obtain ⟨cf, kf, fi, f, a1, cell, h1, h2, h3, h4, h5, h6, h7, h8⟩ := hz
  refine W.gets C.1 rfl C.2.1 hl h1 h2 h3 h4 (by rw [hR.2.1 a1 (by simpa using h8)]; exact h5) (fun hh => by rw [hh] at h6; cases h6) h7 rfl hd (k H locs lsJ hR hlo hL (hO.push ⟨by omega, e2⟩))
end KJ
end
section
theorem as_self {s : State} {c : ClassId} {k : Class} (h : s.vm.classes[c]? = some k) : s.vm.assignable c c = true := by
  show Vm.assignableAux s.vm (255 + 1) c c = true
  rw [Vm.assignableAux]
  simp only [BEq.rfl, Bool.true_or]
section KC
variable {p : Program} {l : Launch} {e : Env} {R : Room} {s : State} {m : MethodId} {args : Array Value} {below : List Frame} {meth : Method} {c : Code} {Q : State → Prop} {G : Gc} {n0 s0 own : Nat} {σ : St} {ls : Ls} {st : List Vl} {pc : Nat}
theorem k_cpyI (C : Cx G own p s m args) {i d q : Nat} {n dp sp : Int} (hd : decode c.code pc = .ok (.invokestatic i, 3)) (hl : (own, i) ∈ tAC) (hh : 0 ≤ n ∧ 0 ≤ dp ∧ 0 ≤ sp ∧ sp + n ≤ (ln σ q : Int) ∧ dp + n ≤ (ln σ d : Int)) (hw : stW st ≤ 8) (hf : 1 ≤ R.frames) (hlo : 40 ≤ R.locals)
    (k : KW p l e R s m args below meth c Q G n0 s0 (aI σ d (cpyF (gI σ q) (gI σ d) sp.toNat dp.toNat n.toNat)) ls st (pc + 3)) : KW p l e R s m args below meth c Q G n0 s0 σ ls (vI n :: vI dp :: vR 14 (some d) :: vI sp :: vR 14 (some q) :: st) pc := by
  intro H locs lsJ hR hl2 hL hO
  have hrn := hO.top
  have hrd := hO.pop.top
  have hrs := hO.pop.pop.pop.top
  have htd : tg σ d = 14 := hO.pop.pop.top.2
  have htq : tg σ q = 14 := hO.pop.pop.pop.pop.top.2
  obtain ⟨hbd, hnd, hcd⟩ := hR.2.2.2.1 d (by omega) (by omega)
  obtain ⟨hbq, hnq, hcq⟩ := hR.2.2.2.1 q (by omega) (by omega)
  rw [htd] at hcd
  rw [htq] at hcq
  have nn : ∀ z : Int, Rg z → 0 ≤ z → ¬ Int32.ofInt z < 0 := fun z hz h0 => by
    rw [show (0 : Int32) = Int32.ofInt 0 from rfl, rg_lt hz rg_0]
    omega
  have hA := (C.2.2.2.2.1 14 (by omega) (by omega)).1
  intro T hT X
  obtain ⟨-, k0, hk0, cm0, hkk0⟩ := hA (ln σ q) (aV σ 14 q)
  obtain ⟨-, k1, hk1, cm1, hkk1⟩ := hA (ln σ d) (aV σ 14 d)
  obtain ⟨vm', X', step⟩ := X.arraycopy C.1 C.2.1 (C.2.2.1 _ (gt_of (tAC_in _ (List.mem_map_of_mem hl)))) (C.2.2.1 _ (gt_of (tOd_in _ (by simp [tOd])))) (C.2.2.1 _ (gt_of (tOd_in _ (by simp [tOd])))) (C.2.2.1 _ (gt_of (tOd_in _ (by simp [tOd])))) (src := q) (dst := d) (cs := arrV (gA G 14) (ln σ q) (aV σ 14 q)) (cd := arrV (gA G 14) (ln σ d) (aV σ 14 d)) (srcPos := Int32.ofInt sp) (destPos := Int32.ofInt dp) (n := Int32.ofInt n) (by rw [hT]; exact hcq) (by rw [hT]; exact hcd)
    (fun _ h => by cases h) (fun _ h => by cases h) (fun h => by cases h) (fun h => by cases h) hk0 hk1 hkk0 hkk1 (by simp [aTy, refKind]) (nn sp hrs hh.2.2.1) (nn dp hrd hh.2.1) (nn n hrn hh.1)
    (by rw [rg_toInt hrs, rg_toInt hrn, arrV_size]; omega)
    (by rw [rg_toInt hrd, rg_toInt hrn, arrV_size]; omega)
    (fun vm₁ _ j hj => by
      rw [rg_clamp hrn] at hj
      have e : (arrV (gA G 14) (ln σ q) (aV σ 14 q)).slots.getD ((Int32.ofInt sp).toNatClampNeg + j) .null = Value.int (Int32.ofInt (gI σ q (sp.toNat + j))) := by
        rw [Array.getD_eq_getD_getElem?, rg_clamp hrs, arrV_read _ _ (by omega)]
        rfl
      refine ⟨?_, ?_⟩
      · rw [e]
        rfl
      · rw [e]
        exact trivial)
    (g := F0 m pc lsJ (List.map cv (vI n :: vI dp :: vR 14 (some d) :: vI sp :: vR 14 (some q) :: st))) rfl hL.1 (rest := st.map cv) rfl hd hf (by
      have := cv_sum st
      show 2 * 0 + _ + (nativeFrameWords "java/lang/System" "arraycopy" 5 + 11) ≤ _
      have : nativeFrameWords "java/lang/System" "arraycopy" 5 = 7 := by decide +kernel
      omega)
  have e1 : copied (arrV (gA G 14) (ln σ q) (aV σ 14 q)) (arrV (gA G 14) (ln σ d) (aV σ 14 d)) (Int32.ofInt sp) (Int32.ofInt dp) (Int32.ofInt n) = arrV (gA G 14) (ln σ d) (aV (aI σ d (cpyF (gI σ q) (gI σ d) sp.toNat dp.toNat n.toNat)) 14 d) := by
    unfold copied
    rw [rg_clamp hrs, rg_clamp hrd, rg_clamp hrn]
    rw [show aV σ 14 q = (fun j => Value.int (Int32.ofInt (gI σ q j))) from rfl, show aV σ 14 d = (fun j => Value.int (Int32.ofInt (gI σ d j))) from rfl]
    rw [va_copied (fun z => Value.int (Int32.ofInt z)) (gA G 14) (gA G 14) (gI σ q) (gI σ d) (by omega)]
    congr 1
    funext j
    show _ = Value.int (Int32.ofInt (up1 (gI σ) d (cpyF (gI σ q) (gI σ d) sp.toNat dp.toNat n.toNat) d j))
    rw [up1_at]
    rfl
  rw [e1] at X' step
  have hdl : d < H.size := (Array.getElem?_eq_some_iff.mp hcd).1
  generalize hnew : arrV (gA G 14) (ln σ d) (aV (aI σ d (cpyF (gI σ q) (gI σ d) sp.toNat dp.toNat n.toNat)) 14 d) = new at X' step
  have hheap : ((T.setVm vm').setCell d new).heap = H.setIfInBounds d new := by rw [← hT]; rfl
  have oq : ∀ x : Nat, x ≠ d → (H.setIfInBounds d new)[x]? = H[x]? := fun x hx => by simp [Array.getElem?_setIfInBounds, Ne.symm hx]
  obtain ⟨t, a1, b1⟩ := k (H.setIfInBounds d new) _ lsJ (hR.at (σ' := aI σ d (cpyF (gI σ q) (gI σ d) sp.toNat dp.toNat n.toNat)) rfl rfl rfl (fun b e => up1_ne e) (fun b e => rfl) (fun b e => rfl) hbd (by simp) oq (fun h => by omega) (fun _ _ => by rw [htd, hnew]; simp [Array.getElem?_setIfInBounds, hdl]) (fun j => by
      show Rg (up1 (gI σ) d (cpyF (gI σ q) (gI σ d) sp.toNat dp.toNat n.toNat) d j)
      rw [up1_at]
      unfold cpyF
      split
      · exact hR.2.2.2.2.2.1 q _
      · exact hR.2.2.2.2.2.1 d _) (fun j t hk b hb => hR.2.2.2.2.2.2.1 d j t hk b hb)) (fun x hx => by
      rcases List.mem_append.mp hx with h | h
      · exact hl2 x h
      · obtain ⟨z, -, hz⟩ := List.mem_map.mp h
        rw [← hz]
        exact hbd) hL (hO.pop.pop.pop.pop.pop.mono fun _ _ => rfl) _ hheap X'
  exact ⟨t, step t a1, b1⟩
theorem k_cpyL (C : Cx G own p s m args) {i d q : Nat} {n dp sp : Int} (hd : decode c.code pc = .ok (.invokestatic i, 3)) (hl : (own, i) ∈ tAC) (hh : 0 ≤ n ∧ 0 ≤ dp ∧ 0 ≤ sp ∧ sp + n ≤ (ln σ q : Int) ∧ dp + n ≤ (ln σ d : Int)) (hw : stW st ≤ 8) (hf : 1 ≤ R.frames) (hlo : 40 ≤ R.locals)
    (k : KW p l e R s m args below meth c Q G n0 s0 (aL σ d (cpyF (gL σ q) (gL σ d) sp.toNat dp.toNat n.toNat)) ls st (pc + 3)) : KW p l e R s m args below meth c Q G n0 s0 σ ls (vI n :: vI dp :: vR 15 (some d) :: vI sp :: vR 15 (some q) :: st) pc := by
  intro H locs lsJ hR hl2 hL hO
  have hrn := hO.top
  have hrd := hO.pop.top
  have hrs := hO.pop.pop.pop.top
  have htd : tg σ d = 15 := hO.pop.pop.top.2
  have htq : tg σ q = 15 := hO.pop.pop.pop.pop.top.2
  obtain ⟨hbd, hnd, hcd⟩ := hR.2.2.2.1 d (by omega) (by omega)
  obtain ⟨hbq, hnq, hcq⟩ := hR.2.2.2.1 q (by omega) (by omega)
  rw [htd] at hcd
  rw [htq] at hcq
  have nn : ∀ z : Int, Rg z → 0 ≤ z → ¬ Int32.ofInt z < 0 := fun z hz h0 => by
    rw [show (0 : Int32) = Int32.ofInt 0 from rfl, rg_lt hz rg_0]
    omega
  have hA := (C.2.2.2.2.1 15 (by omega) (by omega)).1
  intro T hT X
  obtain ⟨-, k0, hk0, cm0, hkk0⟩ := hA (ln σ q) (aV σ 15 q)
  obtain ⟨-, k1, hk1, cm1, hkk1⟩ := hA (ln σ d) (aV σ 15 d)
  obtain ⟨vm', X', step⟩ := X.arraycopy C.1 C.2.1 (C.2.2.1 _ (gt_of (tAC_in _ (List.mem_map_of_mem hl)))) (C.2.2.1 _ (gt_of (tOd_in _ (by simp [tOd])))) (C.2.2.1 _ (gt_of (tOd_in _ (by simp [tOd])))) (C.2.2.1 _ (gt_of (tOd_in _ (by simp [tOd])))) (src := q) (dst := d) (cs := arrV (gA G 15) (ln σ q) (aV σ 15 q)) (cd := arrV (gA G 15) (ln σ d) (aV σ 15 d)) (srcPos := Int32.ofInt sp) (destPos := Int32.ofInt dp) (n := Int32.ofInt n) (by rw [hT]; exact hcq) (by rw [hT]; exact hcd)
    (fun _ h => by cases h) (fun _ h => by cases h) (fun h => by cases h) (fun h => by cases h) hk0 hk1 hkk0 hkk1 (by simp [aTy, refKind]) (nn sp hrs hh.2.2.1) (nn dp hrd hh.2.1) (nn n hrn hh.1)
    (by rw [rg_toInt hrs, rg_toInt hrn, arrV_size]; omega)
    (by rw [rg_toInt hrd, rg_toInt hrn, arrV_size]; omega)
    (fun vm₁ _ j hj => by
      rw [rg_clamp hrn] at hj
      have e : (arrV (gA G 15) (ln σ q) (aV σ 15 q)).slots.getD ((Int32.ofInt sp).toNatClampNeg + j) .null = Value.long (Int64.ofBitVec (gL σ q (sp.toNat + j))) := by
        rw [Array.getD_eq_getD_getElem?, rg_clamp hrs, arrV_read _ _ (by omega)]
        rfl
      refine ⟨?_, ?_⟩
      · rw [e]
        rfl
      · rw [e]
        exact trivial)
    (g := F0 m pc lsJ (List.map cv (vI n :: vI dp :: vR 15 (some d) :: vI sp :: vR 15 (some q) :: st))) rfl hL.1 (rest := st.map cv) rfl hd hf (by
      have := cv_sum st
      show 2 * 0 + _ + (nativeFrameWords "java/lang/System" "arraycopy" 5 + 11) ≤ _
      have : nativeFrameWords "java/lang/System" "arraycopy" 5 = 7 := by decide +kernel
      omega)
  have e1 : copied (arrV (gA G 15) (ln σ q) (aV σ 15 q)) (arrV (gA G 15) (ln σ d) (aV σ 15 d)) (Int32.ofInt sp) (Int32.ofInt dp) (Int32.ofInt n) = arrV (gA G 15) (ln σ d) (aV (aL σ d (cpyF (gL σ q) (gL σ d) sp.toNat dp.toNat n.toNat)) 15 d) := by
    unfold copied
    rw [rg_clamp hrs, rg_clamp hrd, rg_clamp hrn]
    rw [show aV σ 15 q = (fun j => Value.long (Int64.ofBitVec (gL σ q j))) from rfl, show aV σ 15 d = (fun j => Value.long (Int64.ofBitVec (gL σ d j))) from rfl]
    rw [va_copied (fun z => Value.long (Int64.ofBitVec z)) (gA G 15) (gA G 15) (gL σ q) (gL σ d) (by omega)]
    congr 1
    funext j
    show _ = Value.long (Int64.ofBitVec (up1 (gL σ) d (cpyF (gL σ q) (gL σ d) sp.toNat dp.toNat n.toNat) d j))
    rw [up1_at]
    rfl
  rw [e1] at X' step
  have hdl : d < H.size := (Array.getElem?_eq_some_iff.mp hcd).1
  generalize hnew : arrV (gA G 15) (ln σ d) (aV (aL σ d (cpyF (gL σ q) (gL σ d) sp.toNat dp.toNat n.toNat)) 15 d) = new at X' step
  have hheap : ((T.setVm vm').setCell d new).heap = H.setIfInBounds d new := by rw [← hT]; rfl
  have oq : ∀ x : Nat, x ≠ d → (H.setIfInBounds d new)[x]? = H[x]? := fun x hx => by simp [Array.getElem?_setIfInBounds, Ne.symm hx]
  obtain ⟨t, a1, b1⟩ := k (H.setIfInBounds d new) _ lsJ (hR.at (σ' := aL σ d (cpyF (gL σ q) (gL σ d) sp.toNat dp.toNat n.toNat)) rfl rfl rfl (fun b e => rfl) (fun b e => up1_ne e) (fun b e => rfl) hbd (by simp) oq (fun h => by omega) (fun _ _ => by rw [htd, hnew]; simp [Array.getElem?_setIfInBounds, hdl]) (fun j => hR.2.2.2.2.2.1 d j) (fun j t hk b hb => hR.2.2.2.2.2.2.1 d j t hk b hb)) (fun x hx => by
      rcases List.mem_append.mp hx with h | h
      · exact hl2 x h
      · obtain ⟨z, -, hz⟩ := List.mem_map.mp h
        rw [← hz]
        exact hbd) hL (hO.pop.pop.pop.pop.pop.mono fun _ _ => rfl) _ hheap X'
  exact ⟨t, step t a1, b1⟩
theorem k_aast (C : Cx G own p s m args) {q v a u : Nat} {i : Int} (hd : decode c.code pc = .ok (.aastore, 1)) (hat : (a, u) ∈ [(17, 7), (18, 10), (19, 15)]) (hi : 0 ≤ i ∧ i < (ln σ q : Int)) (k : KW p l e R s m args below meth c Q G n0 s0 (wR σ q i.toNat (some v)) ls st (pc + 1)) : KW p l e R s m args below meth c Q G n0 s0 σ ls (vR u (some v) :: vI i :: vR a (some q) :: st) pc := by
  intro H locs lsJ hR hlo hL hO
  have ht : tg σ q = a := hO.pop.pop.top.2
  have hu : tg σ v = u := hO.top.2
  have hri := hO.pop.top
  have ha : 17 ≤ a ∧ a < 20 ∧ rTag a i.toNat = some u ∧ (aTy a).isReference = true := by
    simp at hat
    rcases hat with ⟨rfl, rfl⟩ | ⟨rfl, rfl⟩ | ⟨rfl, rfl⟩ <;> exact ⟨by decide, by decide, rfl, rfl⟩
  obtain ⟨hb, hn, hc⟩ := hR.2.2.2.1 q (by omega) (by omega)
  rw [ht] at hc
  have fin : ∀ H' : Heap, H'[q]? = some ((arrV (gA G a) (ln σ q) (aV σ a q)).setSlot (Int32.ofInt i).toNatClampNeg (.ref v)) → H'.size = H.size → (∀ x, x ≠ q → H'[x]? = H[x]?) → W p l e R s m args below meth c H' (locs ++ [⟨q, (Int32.ofInt i).toNatClampNeg⟩]) (nx σ - n0) (sl σ - s0) Q (F0 m (pc + 1) lsJ (st.map cv)) := by
    intro H' e1 e2 e3
    rw [rg_clamp hri, arrV_store] at e1
    refine k H' _ lsJ (hR.setR (fun t' ht' b hb' => ?_) hb e2 e3 (fun h => by omega) (fun _ _ => ?_)) (fun x hx => ?_) hL (hO.pop.pop.pop.mono fun _ _ => rfl)
    · cases hb'
      rw [ht, ha.2.2.1] at ht'
      cases ht'
      exact hu
    · rw [e1, ht]
      congr 2
      funext j
      unfold updV aV
      rw [if_neg (by omega : ¬ a = 15), if_neg (by omega : ¬ a ≤ 16)]
      by_cases e : j = i.toNat
      · subst e
        rw [if_pos rfl, if_neg (by omega), if_neg (by omega)]
        show _ = va_rf (up2 (gR σ) q i.toNat (some v) q i.toNat)
        rw [up2_at]
        rfl
      · rw [if_neg e, if_neg (by omega), if_neg (by omega)]
        show _ = va_rf (up2 (gR σ) q i.toNat (some v) q j)
        rw [up2_oth e]
    · rcases List.mem_append.mp hx with hx | hx
      · exact hlo x hx
      · rw [List.mem_singleton.mp hx]
        exact hb
  have hin : ¬ Int32.ofInt i < 0 ∧ (Int32.ofInt i).toNatClampNeg < (arrV (gA G a) (ln σ q) (aV σ a q)).slots.size := by
    have := rg_inb hri hi
    rw [arrV_size]
    exact ⟨fun h => this (Or.inl h), Nat.not_le.mp fun h => this (Or.inr h)⟩
  simp at hat
  rcases hat with ⟨rfl, rfl⟩ | ⟨rfl, rfl⟩ | ⟨rfl, rfl⟩
  · have hcls := (C.2.2.2.1 7 _ (cl_at 7 (by decide))).2
    obtain ⟨kA, comp, k1, k2, k3, -⟩ := (C.2.2.2.2.1 17 (by omega) (by omega)).2
    have hcomp : comp = gC G 7 := Option.some.inj (k3.symm.trans hcls.1)
    subst hcomp
    obtain ⟨kC, hkC, -⟩ := hcls.2
    obtain ⟨hbv, cell, g1, g2, g3, -⟩ := hR.2.2.1 v (by omega)
    rw [hu] at g2
    exact W.aast C.1 rfl hc (fun q h => by cases h) (fun h => by cases h) k1 k2 rfl hkC hin g1 (fun q h => by rw [g3] at h; cases h) (by rw [g2]; exact hkC) (by rw [g2]; exact va_assign hcls) rfl rfl hd fin
  · have hcls := (C.2.2.2.1 10 _ (cl_at 10 (by decide))).2
    obtain ⟨kA, comp, k1, k2, k3, -⟩ := (C.2.2.2.2.1 18 (by omega) (by omega)).2
    have hcomp : comp = gC G 10 := Option.some.inj (k3.symm.trans hcls.1)
    subst hcomp
    obtain ⟨kC, hkC, -⟩ := hcls.2
    obtain ⟨hbv, cell, g1, g2, g3, -⟩ := hR.2.2.1 v (by omega)
    rw [hu] at g2
    exact W.aast C.1 rfl hc (fun q h => by cases h) (fun h => by cases h) k1 k2 rfl hkC hin g1 (fun q h => by rw [g3] at h; cases h) (by rw [g2]; exact hkC) (by rw [g2]; exact va_assign hcls) rfl rfl hd fin
  · obtain ⟨kA, k1, k2⟩ := C.2.2.2.2.2.1
    obtain ⟨hbv, hnv, g1⟩ := hR.2.2.2.1 v (by omega) (by omega)
    rw [hu] at g1
    obtain ⟨-, kJ, hkJ, cmJ, hkkJ⟩ := (C.2.2.2.2.1 15 (by omega) (by omega)).1 (ln σ v) (aV σ 15 v)
    have hkJ : s.vm.classes[gA G 15]? = some kJ := hkJ
    exact W.aast C.1 rfl hc (fun q h => by cases h) (fun h => by cases h) k1 k2 rfl hkJ hin g1 (fun q h => by cases h) hkJ (as_self hkJ) rfl rfl hd fin
end KC
end
section
theorem ao_moved {u U : State} (hvm : u.vm.Alike U.vm) {t : FieldType} (h : (Cond.arrayOver (.array t)).before #[] u = true) : (Cond.arrayOver (.array t)).before #[] U = true := by
  obtain ⟨comp, c, k, h1, h2, h3, h4, h5⟩ : ∃ comp c k, u.vm.findClass (FieldType.array t).toString = some comp ∧ (u.vm.classes.findIdx? fun (x : Class) => match x.kind with | .array component _ => component == comp | _ => false) = some c ∧ u.vm.classes[c]? = some k ∧ k.kind = .array comp (.array t) ∧ u.vm.findClass ("[" ++ (FieldType.array t).toString) = some c := by
    simp only [Cond.before, Cond.holds, Cond.value, beq_iff_eq] at h
    cases hc : u.vm.findClass (FieldType.array t).toString with
    | none => simp [hc] at h
    | some comp =>
      simp only [hc, Option.bind_some, Option.bind_eq_some_iff, Option.map_eq_some_iff] at h
      obtain ⟨c, hi, k, hk, hb⟩ := h
      obtain ⟨hlt, hp, -⟩ := Array.findIdx?_eq_some_iff_getElem.mp hi
      have hkk : u.vm.classes[c] = k := (Array.getElem?_eq_some_iff.mp hk).2
      rw [hkk] at hp
      cases hkind : k.kind with
      | array component ty =>
        rw [hkind] at hp hb
        simp at hp hb
        refine ⟨comp, c, k, rfl, hi, hk, ?_, hb.2⟩
        rw [hkind, hp, hb.1]
      | _ => rw [hkind] at hp; simp at hp
  obtain ⟨k', hk', he⟩ := hvm.2.2 _ _ h3
  have hi : (U.vm.classes.findIdx? fun (x : Class) => match x.kind with | .array component _ => component == comp | _ => false) = some c := by
    have e3 : U.vm.bare = u.vm.bare := by first | exact hvm.bare_eq | exact hvm.bare_eq.symm
    have e := va_idx_bare U.vm comp
    rw [e3] at e
    exact (e.symm.trans (va_idx_bare u.vm comp)).trans h2
  have hkind : k'.kind = .array comp (.array t) := by rw [he]; exact h4
  have f1 : U.vm.findClass (FieldType.array t).toString = some comp := by rw [hvm.findClass]; exact h1
  have f2 : U.vm.findClass ("[" ++ (FieldType.array t).toString) = some c := by rw [hvm.findClass]; exact h5
  unfold Cond.before Cond.holds
  simp only [Cond.value]
  rw [f1, Option.bind_some]
  refine (congrArg (fun o : Option Nat => (o.bind (fun c => (U.vm.classes[c]?).map fun (k : Class) => match k.kind with | .array _ ty => decide (ty = FieldType.array t) && decide (U.vm.findClass ("[" ++ (FieldType.array t).toString) = some c) | _ => false) == some true)) hi).trans ?_
  simp [hk', hkind, f2]
/-! calls and ends -/
def mPn (i : Nat) : Nat := [0, 2, 1, 1, 2, 1, 1, 0, 2, 2, 5, 1, 2, 2, 4, 0, 1, 0, 1, 2, 0, 1, 4, 3, 2, 2, 3, 1, 1, 2, 2, 0, 2, 1, 0, 1, 2, 3, 1, 2, 1, 1, 2, 2, 2, 1, 2, 3, 2, 0, 2, 0, 0, 1, 0, 0, 2, 0, 1, 1, 0, 3, 1, 1, 2, 0, 0, 1, 1, 0, 0, 0, 1, 0, 3, 1, 2, 2, 2, 2, 0, 1, 1, 2, 1, 1, 1, 1, 3, 3, 2, 0, 0, 1, 1, 0, 3, 0, 1, 1, 2, 2, 2, 0, 1, 2, 4, 2, 2, 1, 3, 3, 3, 0, 1, 1, 4, 3, 3, 1, 1, 1, 1, 2, 2, 1, 2, 1, 3, 3, 0, 3, 1, 2, 2, 2, 1, 2, 2, 2, 0, 5, 1, 1, 1, 3, 2, 3, 2, 5, 1, 2, 2, 2, 2, 1, 5, 2, 0, 3, 1, 2, 1, 2, 1, 2, 0, 1, 1, 1, 3, 3, 1, 4, 0, 2, 1, 2, 1, 1, 1, 3, 4, 2, 2, 2, 0, 1, 1, 2, 1, 1, 1, 2, 2, 1, 2, 3, 0, 3, 1, 1, 2, 3, 5, 1, 1, 2, 0, 0, 0, 0, 3, 1, 0, 1, 0, 1, 1, 0, 1, 0, 1, 1, 4, 2, 1, 1, 3, 3, 2, 3, 2, 3, 3, 2, 1, 5, 1, 2, 2, 2, 2, 5, 2, 1, 0, 0, 3, 1, 2, 2, 2, 2, 2, 2, 2, 1, 1, 3, 2, 2, 1, 2, 2, 1, 3, 0, 2, 0, 1, 1, 1, 1, 3, 3, 1, 1, 4, 0, 3, 2, 3, 3, 2, 2, 1, 2, 1, 1, 2, 1, 2, 1, 2, 2, 1, 1, 1, 2, 1, 1, 3, 4, 2, 0, 2, 2, 0, 2, 0, 1, 1, 1, 2, 2, 1].getD i 0
set_option maxRecDepth 100000 in
theorem m_par : ∀ i, i < 317 → (mI i).1.cls ≠ "java/lang/invoke/MethodHandle" ∧ (mI i).1.cls ≠ "java/lang/invoke/VarHandle" ∧ (parseMethodDescriptor (mI i).1.desc).map (fun d => d.parameters.length) = some (mPn i) := by decide +kernel
set_option maxRecDepth 100000 in
theorem m_plain : ∀ i, i < 317 → Jvm.plainName (mI i).1.cls = true := by decide +kernel
def wsM (i : Nat) : List Cond := Cond.code (mI i).1 (mI i).2.1 (mt i).1 (mI i).2.2.1 :: gt
def rmD (d mc ms : Nat) : Room := { frames := d + 2, cells := mc, slots := ms, locals := 64 * (d + 2) }
def Pcm (G : Gc) (σ : St) (as : List Vl) : Array Value → State → Prop := fun v U => v = (as.map cv).toArray ∧ Rel G σ U.heap ∧ KN G U ∧ U.heap.size = nx σ
def Qcm (G : Gc) (σ' : St) (r : List Vl) : Array Value → State → Outcome → State → Prop := fun _ _ o t => (∃ v : Option Value, o = .returned v ∧ v.toList = r.map cv) ∧ Rel G σ' t.heap ∧ ∀ v ∈ r, OKv σ' v
def MetI (G : Gc) (l : Launch) (d i : Nat) (σ : St) (as : List Vl) (σ' : St) (r : List Vl) : Prop := Met l (mI i).1 (wsM i) (rmD d (nx σ' - nx σ) (sl σ' - sl σ)) (Pcm G σ as) (Qcm G σ' r) (nx σ' - nx σ) (sl σ' - sl σ) (fun q => gB G ≤ q)
theorem KN.moved {G : Gc} {s U : State} (hW : s.WarmedH U.vm) (h : KN G s) : KN G U := by
  obtain ⟨h1, h2, ⟨kA, h3, h3'⟩, ⟨h4, h5, h6⟩, h7, h8, ⟨h9, h10⟩, h11⟩ := h
  have al := hW.alike
  refine ⟨fun c q hq => u_Kn_moved al (h1 c q hq), fun t a b => ⟨arrOfT_moved al (h2 t a b).1, (h2 t a b).2.moved al⟩, ?_, ⟨h4.moved al, h5.moved al, ao_moved al h6⟩, fun w hw => ?_, va_Nw.warmF hW h8, ⟨h9.moved al, h10.moved al⟩, fun a cell ha hc => State.isArrayOf_alike al (h11 a cell ha hc)⟩
  · obtain ⟨k', hk', he⟩ := al.2.2 _ _ h3
    exact ⟨k', hk', by rw [he]; exact h3'⟩
  · obtain ⟨x, hx, rfl⟩ := List.mem_map.mp hw
    exact va_Nw.warmM hW (h7 _ hw)
theorem KN.same {G : Gc} {s U : State} (e : s.vm = U.vm) (h : KN G s) : KN G U := by
  obtain ⟨h1, h2, ⟨kA, h3, h3'⟩, ⟨h4, h5, h6⟩, h7, h8, ⟨h9, h10⟩, h11⟩ := h
  have al : s.vm.Alike U.vm := e ▸ Vm.Alike.refl s.vm
  refine ⟨fun c q hq => u_Kn_moved al (h1 c q hq), fun t a b => ⟨arrOfT_moved al (h2 t a b).1, (h2 t a b).2.moved al⟩, ?_, ⟨h4.moved al, h5.moved al, ao_moved al h6⟩, fun w hw => ?_, va_Nw.same rfl e h8, ⟨h9.moved al, h10.moved al⟩, fun a cell ha hc => State.isArrayOf_alike al (h11 a cell ha hc)⟩
  · obtain ⟨k', hk', he⟩ := al.2.2 _ _ h3
    exact ⟨k', hk', by rw [he]; exact h3'⟩
  · obtain ⟨x, hx, rfl⟩ := List.mem_map.mp hw
    exact va_Nw.same rfl e (h7 _ hw)
theorem Pcm_blind {G : Gc} {σ : St} {as : List Vl} : FrameBlind (Pcm G σ as) := fun a U g mk h => ⟨h.1, h.2.1, KN.same (s := U) (U := U.calling g mk a) rfl h.2.2.1, h.2.2.2⟩
theorem code_in {i : Nat} (h : i < 316) : Cond.code (mI i).1 (mI i).2.1 (mt i).1 (mI i).2.2.1 ∈ gt := by
  obtain ⟨q, j, hq, hj, rfl⟩ : ∃ q j, q < 16 ∧ j < 20 ∧ i = 20 * q + j := ⟨i / 20, i % 20, by omega, by omega, by omega⟩
  rcases (by omega : q = 0 ∨ q = 1 ∨ q = 2 ∨ q = 3 ∨ q = 4 ∨ q = 5 ∨ q = 6 ∨ q = 7 ∨ q = 8 ∨ q = 9 ∨ q = 10 ∨ q = 11 ∨ q = 12 ∨ q = 13 ∨ q = 14 ∨ q = 15) with rfl | rfl | rfl | rfl | rfl | rfl | rfl | rfl | rfl | rfl | rfl | rfl | rfl | rfl | rfl | rfl
  · exact gt_of (tCd0_in _ (List.mem_map_of_mem ((by decide : ∀ j, j < 20 → 20 * 0 + j ∈ tCd0) j (by omega))))
  · exact gt_of (tCd1_in _ (List.mem_map_of_mem ((by decide : ∀ j, j < 20 → 20 * 1 + j ∈ tCd1) j (by omega))))
  · exact gt_of (tCd2_in _ (List.mem_map_of_mem ((by decide : ∀ j, j < 20 → 20 * 2 + j ∈ tCd2) j (by omega))))
  · exact gt_of (tCd3_in _ (List.mem_map_of_mem ((by decide : ∀ j, j < 20 → 20 * 3 + j ∈ tCd3) j (by omega))))
  · exact gt_of (tCd4_in _ (List.mem_map_of_mem ((by decide : ∀ j, j < 20 → 20 * 4 + j ∈ tCd4) j (by omega))))
  · exact gt_of (tCd5_in _ (List.mem_map_of_mem ((by decide : ∀ j, j < 20 → 20 * 5 + j ∈ tCd5) j (by omega))))
  · exact gt_of (tCd6_in _ (List.mem_map_of_mem ((by decide : ∀ j, j < 20 → 20 * 6 + j ∈ tCd6) j (by omega))))
  · exact gt_of (tCd7_in _ (List.mem_map_of_mem ((by decide : ∀ j, j < 20 → 20 * 7 + j ∈ tCd7) j (by omega))))
  · exact gt_of (tCd8_in _ (List.mem_map_of_mem ((by decide : ∀ j, j < 20 → 20 * 8 + j ∈ tCd8) j (by omega))))
  · exact gt_of (tCd9_in _ (List.mem_map_of_mem ((by decide : ∀ j, j < 20 → 20 * 9 + j ∈ tCd9) j (by omega))))
  · exact gt_of (tCd10_in _ (List.mem_map_of_mem ((by decide : ∀ j, j < 20 → 20 * 10 + j ∈ tCd10) j (by omega))))
  · exact gt_of (tCd11_in _ (List.mem_map_of_mem ((by decide : ∀ j, j < 20 → 20 * 11 + j ∈ tCd11) j (by omega))))
  · exact gt_of (tCd12_in _ (List.mem_map_of_mem ((by decide : ∀ j, j < 20 → 20 * 12 + j ∈ tCd12) j (by omega))))
  · exact gt_of (tCd13_in _ (List.mem_map_of_mem ((by decide : ∀ j, j < 20 → 20 * 13 + j ∈ tCd13) j (by omega))))
  · exact gt_of (tCd14_in _ (List.mem_map_of_mem ((by decide : ∀ j, j < 20 → 20 * 14 + j ∈ tCd14) j (by omega))))
  · exact gt_of (tCd15_in _ (List.mem_map_of_mem ((by decide : ∀ j, j < 16 → 20 * 15 + j ∈ tCd15) j (by omega))))
theorem wsM_good {i : Nat} (h : i < 316) : GoodIn gt (wsM i) := fun w hw => by
  rcases List.mem_cons.mp hw with rfl | hw
  · exact ⟨code_in h, gt_good (code_in h)⟩
  · exact ⟨hw, gt_good hw⟩
section KK
variable {p : Program} {l : Launch} {e : Env} {R : Room} {s : State} {m : MethodId} {args : Array Value} {below : List Frame} {meth : Method} {c : Code} {Q : State → Prop} {G : Gc} {n0 s0 own : Nat} {σ : St} {ls : Ls} {st : List Vl} {pc : Nat}

/-- behind a call -/
theorem k_ret {σ' : St} {as r : List Vl} {H : Heap} {locs : List Loc} {lsJ : Array Slot} {stk : List Value} (hR : Rel G σ H) (hl : ∀ q ∈ locs, gB G ≤ q.base) (hL : LR ls lsJ c.maxLocals) (hO : OKs σ ls st) (hn0 : n0 ≤ nx σ) (hs0 : s0 ≤ sl σ) (hn : nx σ ≤ nx σ') (hs : sl σ ≤ sl σ') (htg : ∀ b, b < nx σ → tg σ' b = tg σ b)
    (hrun : CallRun p l e R s m args below meth c H locs (nx σ - n0) (sl σ - s0) (nx σ' - nx σ) (sl σ' - sl σ) (F0 m pc lsJ stk) (st.map cv) (Qcm G σ' r (as.map cv).toArray) (fun q => gB G ≤ q)) (k : KW p l e R s m args below meth c Q G n0 s0 σ' ls (r ++ st) (pc + 3)) : W p l e R s m args below meth c H locs (nx σ - n0) (sl σ - s0) Q (F0 m pc lsJ stk) := by
  intro T hT X
  obtain ⟨v, st₀, t, T', L, h0, X', hL2, e1, ⟨⟨v', hv, hvl⟩, hR', hOr⟩, go⟩ := hrun T hT X
  cases hv
  have hO' : OKs σ' ls (r ++ st) := by
    have hm : ∀ b, tg σ b ≤ 20 → tg σ' b = tg σ b := fun b hb => htg b (hR.lt hb)
    have := hO.mono hm
    refine ⟨fun w hw => ?_, this.2⟩
    rcases List.mem_append.mp hw with h | h
    · exact hOr w h
    · exact this.1 w h
  rw [show nx σ - n0 + (nx σ' - nx σ) = nx σ' - n0 by omega, show sl σ - s0 + (sl σ' - sl σ) = sl σ' - s0 by omega] at X'
  obtain ⟨t2, a1, b1⟩ := k T'.heap (locs ++ L) lsJ (by rw [e1]; exact hR') (fun q hq => by
    rcases List.mem_append.mp hq with h | h
    · exact hl q h
    · exact hL2 q h) hL hO' T' rfl X'
  refine ⟨t2, go t2 ?_, b1⟩
  rw [List.map_append, ← hvl] at a1
  exact a1
theorem k_callS (C : Cx G own p s m args) {d i ix : Nat} {σ' : St} {as r : List Vl} (hd : decode c.code pc = .ok (.invokestatic ix, 3)) (hl : (own, ix, i) ∈ tML) (hst : i ∈ tSt) (hiz : i ∈ tIz) (hlen : as.length = mPn i) (hi : i < 316) (hM : MetI G l d i σ as σ' r) (hfr : d + 3 ≤ R.frames) (hlo : 64 * (d + 2) + 64 ≤ R.locals) (hmx : (mt i).1 ≤ 40) (hw : stW st ≤ 8) (hn0 : n0 ≤ nx σ) (hs0 : s0 ≤ sl σ) (hn : nx σ ≤ nx σ') (hs : sl σ ≤ sl σ') (hc : nx σ' - n0 ≤ R.cells) (hsl : sl σ' - s0 ≤ R.slots) (htg : ∀ b, b < nx σ → tg σ' b = tg σ b)
    (k : KW p l e R s m args below meth c Q G n0 s0 σ' ls (r ++ st) (pc + 3)) : KW p l e R s m args below meth c Q G n0 s0 σ ls (as.reverse ++ st) pc := by
  intro H locs lsJ hR hlo2 hL hO
  have hOst : OKs σ ls st := ⟨fun v hv => hO.1 v (List.mem_append_right _ hv), hO.2⟩
  refine k_ret (as := as) hR hlo2 hL hOst hn0 hs0 hn hs htg ?_ k
  have hp := m_par i (by omega)
  refine W.runS (As := as.map cv) (n := mPn i) ⟨C.1, rfl, rfl, C.2.1, C.2.2.1⟩ hM ⟨callB_of (mPn i) C.2.2.1 (wsM_good hi) rfl rfl rfl (C.2.2.1 _ (gt_of (tIz_in _ (List.mem_map_of_mem hiz)))) (C.2.2.1 _ (gt_of (tML_in _ (List.mem_map_of_mem hl)))) hp ⟨by show d + 2 + 1 ≤ _; omega, by show 8 + (_ + 11) + 64 * (d + 2) ≤ _; omega⟩, C.2.2.1 _ (gt_of (tSt_in _ (List.mem_map_of_mem hst)))⟩ ⟨Pcm_blind, fun U hU hW => ⟨rfl, by rw [hU]; exact hR, C.2.2.2.moved hW, by rw [hU]; exact hR.1.1⟩⟩ rfl (by rw [List.length_map]; exact hlen) hL.1 (by show List.map cv _ = _; rw [List.map_append, List.map_reverse]) (lv_room (by rw [cv_sum]; exact hw)) hd ⟨by omega, by omega⟩
theorem k_callSN (C : Cx G own p s m args) {d i ix : Nat} {σ' : St} {as r : List Vl} (hd : decode c.code pc = .ok (.invokestatic ix, 3)) (hl : (own, ix, i) ∈ tMN) (hst : i ∈ tSt) (hiz : i ∈ tIz) (hlen : as.length = mPn i) (hi : i < 316) (hM : MetI G l d i σ as σ' r) (hfr : d + 3 ≤ R.frames) (hlo : 64 * (d + 2) + 64 ≤ R.locals) (hmx : (mt i).1 ≤ 40) (hw : stW st ≤ 8) (hn0 : n0 ≤ nx σ) (hs0 : s0 ≤ sl σ) (hn : nx σ ≤ nx σ') (hs : sl σ ≤ sl σ') (hc : nx σ' - n0 ≤ R.cells) (hsl : sl σ' - s0 ≤ R.slots) (htg : ∀ b, b < nx σ → tg σ' b = tg σ b)
    (k : KW p l e R s m args below meth c Q G n0 s0 σ' ls (r ++ st) (pc + 3)) : KW p l e R s m args below meth c Q G n0 s0 σ ls (as.reverse ++ st) pc := by
  intro H locs lsJ hR hlo2 hL hO
  have hOst : OKs σ ls st := ⟨fun v hv => hO.1 v (List.mem_append_right _ hv), hO.2⟩
  refine k_ret (as := as) hR hlo2 hL hOst hn0 hs0 hn hs htg ?_ k
  have hp := m_par i (by omega)
  have hr := va_runSN (e := e) (below := below) (meth := meth) (As := as.map cv) (n := mPn i) (rest := st.map cv) (g := F0 m pc lsJ (List.map cv (as.reverse ++ st))) (H := H) (locs := locs) (cells := nx σ - n0) (slots := sl σ - s0) ⟨C.1, rfl, rfl, C.2.1, C.2.2.1⟩ hM ⟨va_cnB (mPn i) C.2.2.1 (wsM_good hi) rfl rfl rfl (C.2.2.2.2.2.2.2.1 _ (List.mem_map_of_mem hl)) (C.2.2.1 _ (gt_of (tIz_in _ (List.mem_map_of_mem hiz)))) hp ⟨by show d + 2 + 1 ≤ _; omega, by show 8 + (_ + 11) + 64 * (d + 2) ≤ _; omega⟩, C.2.2.1 _ (gt_of (tSt_in _ (List.mem_map_of_mem hst))), trivial⟩ ⟨Pcm_blind, fun U hU hW => ⟨rfl, by rw [hU]; exact hR, C.2.2.2.moved hW, by rw [hU]; exact hR.1.1⟩⟩ rfl (by rw [List.length_map]; exact hlen) hL.1 (by show List.map cv _ = _; rw [List.map_append, List.map_reverse]) (lv_room (by rw [cv_sum]; exact hw)) hd ⟨by omega, by omega⟩
  intro T hT X
  obtain ⟨v, st₀, t, T', L, h0, X', hL2, e1, -, hq, go⟩ := hr T hT X
  exact ⟨v, st₀, t, T', L, h0, X', hL2, e1, hq, go⟩
theorem k_callV (C : Cx G own p s m args) {d i ix b u : Nat} {σ' : St} {as0 r : List Vl} {as : List Vl} (has : as = vR u (some b) :: as0) (hd : decode c.code pc = .ok (.invokevirtual ix, 3)) (hl : (own, ix, i) ∈ tML) (hin : i ∈ tIn) (hse : i ∈ tSe) (hiz : i ∈ tIz) (hu : u < 13) (hcl : (mI i).1.cls = cnm u) (hlen : as0.length = mPn i) (hi : i < 316) (hM : MetI G l d i σ as σ' r) (hfr : d + 3 ≤ R.frames) (hlo : 64 * (d + 2) + 64 ≤ R.locals) (hmx : (mt i).1 ≤ 40) (hw : stW st ≤ 8) (hn0 : n0 ≤ nx σ) (hs0 : s0 ≤ sl σ) (hn : nx σ ≤ nx σ') (hs : sl σ ≤ sl σ') (hc : nx σ' - n0 ≤ R.cells) (hsl : sl σ' - s0 ≤ R.slots) (htg : ∀ b, b < nx σ → tg σ' b = tg σ b)
    (k : KW p l e R s m args below meth c Q G n0 s0 σ' ls (r ++ st) (pc + 3)) : KW p l e R s m args below meth c Q G n0 s0 σ ls (as.reverse ++ st) pc := by
  intro H locs lsJ hR hlo2 hL hO
  have hOst : OKs σ ls st := ⟨fun v hv => hO.1 v (List.mem_append_right _ hv), hO.2⟩
  have hOb : OKv σ (vR u (some b)) := hO.1 _ (List.mem_append_left _ (by rw [has]; simp))
  have htb : tg σ b = u := hOb.2
  refine k_ret (as := as) hR hlo2 hL hOst hn0 hs0 hn hs htg ?_ k
  have hp := m_par i (by omega)
  obtain ⟨hbq, cell, q1, q2, q3, -⟩ := hR.2.2.1 b (by omega)
  rw [htb] at q2
  have hfc := (C.2.2.2.1 u _ (cl_at u hu)).2.1
  subst has
  refine W.runV (As := as0.map cv) (b := b) (C := cnm u) (n := mPn i) ⟨C.1, rfl, rfl, C.2.1, C.2.2.1⟩ hM ⟨callB_of (mPn i) C.2.2.1 (wsM_good hi) rfl rfl rfl (C.2.2.1 _ (gt_of (tIz_in _ (List.mem_map_of_mem hiz)))) (C.2.2.1 _ (gt_of (tML_in _ (List.mem_map_of_mem hl)))) hp ⟨by show d + 2 + 1 ≤ _; omega, by show 8 + (_ + 11) + 64 * (d + 2) ≤ _; omega⟩, C.2.2.1 _ (gt_of (tIn_in _ (List.mem_map_of_mem hin))), ?_⟩ ⟨Pcm_blind, ⟨cell, q1, by rw [q3]; rfl, by rw [q2]; exact hfc⟩, fun U hU hW => ⟨rfl, by rw [hU]; exact hR, C.2.2.2.moved hW, by rw [hU]; exact hR.1.1⟩⟩ rfl (by rw [List.length_map]; exact hlen) hL.1 (by show List.map cv _ = _; rw [List.map_append, List.map_reverse]; simp [cv, va_rf]) (lv_room (by rw [cv_sum]; exact hw)) hd ⟨by omega, by omega⟩
  have := C.2.2.1 _ (gt_of (tSe_in _ (List.mem_map_of_mem hse)))
  rw [hcl] at this
  exact this
theorem k_callI (C : Cx G own p s m args) {d i ix b u : Nat} {σ' : St} {as0 r : List Vl} {as : List Vl} (has : as = vR u (some b) :: as0) (hd : decode c.code pc = .ok (.invokespecial ix, 3)) (hl : (own, ix, i) ∈ tML) (hin : i ∈ tIn) (hiz : i ∈ tIz) (hnm : (mI i).1.name = "<init>") (hrt : (mI i).2.2.1 = none) (hlen : as0.length = mPn i) (hi : i < 316) (hM : MetI G l d i σ as σ' r) (hfr : d + 3 ≤ R.frames) (hlo : 64 * (d + 2) + 64 ≤ R.locals) (hmx : (mt i).1 ≤ 40) (hw : stW st ≤ 8) (hn0 : n0 ≤ nx σ) (hs0 : s0 ≤ sl σ) (hn : nx σ ≤ nx σ') (hs : sl σ ≤ sl σ') (hc : nx σ' - n0 ≤ R.cells) (hsl : sl σ' - s0 ≤ R.slots) (htg : ∀ b, b < nx σ → tg σ' b = tg σ b)
    (k : KW p l e R s m args below meth c Q G n0 s0 σ' ls (r ++ st) (pc + 3)) : KW p l e R s m args below meth c Q G n0 s0 σ ls (as.reverse ++ st) pc := by
  intro H locs lsJ hR hlo2 hL hO
  have hOst : OKs σ ls st := ⟨fun v hv => hO.1 v (List.mem_append_right _ hv), hO.2⟩
  refine k_ret (as := as) hR hlo2 hL hOst hn0 hs0 hn hs htg ?_ k
  have hp := m_par i (by omega)
  subst has
  refine W.runI (As := as0.map cv) (b := b) (n := mPn i) ⟨C.1, rfl, rfl, C.2.1, C.2.2.1⟩ hM ⟨callB_of (mPn i) C.2.2.1 (wsM_good hi) (by unfold wsM; rw [hrt]) rfl rfl (C.2.2.1 _ (gt_of (tIz_in _ (List.mem_map_of_mem hiz)))) (C.2.2.1 _ (gt_of (tML_in _ (List.mem_map_of_mem hl)))) hp ⟨by show d + 2 + 1 ≤ _; omega, by show 8 + (_ + 11) + 64 * (d + 2) ≤ _; omega⟩, hnm, C.2.2.1 _ (gt_of (tIn_in _ (List.mem_map_of_mem hin)))⟩ ⟨Pcm_blind, fun U hU hW => ⟨rfl, by rw [hU]; exact hR, C.2.2.2.moved hW, by rw [hU]; exact hR.1.1⟩⟩ rfl (by rw [List.length_map]; exact hlen) hL.1 (by show List.map cv _ = _; rw [List.map_append, List.map_reverse]; simp [cv, va_rf]) (lv_room (by rw [cv_sum]; exact hw)) hd ⟨by omega, by omega⟩
end KK
end
section
/-! what a step tells of the stack -/
theorem inv_4 {M : Nat → List LI} {σ : St} {a b c : Nat} {z : Int} {cs : List LI} {ls : Ls} {st0 : List Vl} {out : Out} (h : step M σ ((4, a, b, c, z) :: cs) ls st0 = some out) : ∃ (v0 : Int) (st : List Vl), st0 = vI v0 :: st ∧ (a < ls.length) ∧ out = .inl (σ, cs, lSet1 ls a (vI v0), st) := by
  rcases st0 with _ | ⟨w, st⟩
  · exact nomatch (show (none : Option Out) = some out from h)
  rcases w with v0 | v0 | ⟨t0, q0⟩
  · skip
    have h : (if a < ls.length then some (Sum.inl (σ, cs, lSet1 ls a (vI v0), st)) else none) = some out := h
    split at h
    · rename_i hc
      cases h
      exact ⟨v0, st, rfl, hc, rfl⟩
    · exact nomatch (show (none : Option Out) = some out from h)
  · exact nomatch (show (none : Option Out) = some out from h)
  · exact nomatch (show (none : Option Out) = some out from h)

theorem inv_5 {M : Nat → List LI} {σ : St} {a b c : Nat} {z : Int} {cs : List LI} {ls : Ls} {st0 : List Vl} {out : Out} (h : step M σ ((5, a, b, c, z) :: cs) ls st0 = some out) : ∃ (v0 : BitVec 64) (st : List Vl), st0 = vL v0 :: st ∧ (a + 1 < ls.length) ∧ out = .inl (σ, cs, lSet2 ls a (vL v0), st) := by
  rcases st0 with _ | ⟨w, st⟩
  · exact nomatch (show (none : Option Out) = some out from h)
  rcases w with v0 | v0 | ⟨t0, q0⟩
  · exact nomatch (show (none : Option Out) = some out from h)
  · skip
    have h : (if a + 1 < ls.length then some (Sum.inl (σ, cs, lSet2 ls a (vL v0), st)) else none) = some out := h
    split at h
    · rename_i hc
      cases h
      exact ⟨v0, st, rfl, hc, rfl⟩
    · exact nomatch (show (none : Option Out) = some out from h)
  · exact nomatch (show (none : Option Out) = some out from h)

theorem inv_6 {M : Nat → List LI} {σ : St} {a b c : Nat} {z : Int} {cs : List LI} {ls : Ls} {st0 : List Vl} {out : Out} (h : step M σ ((6, a, b, c, z) :: cs) ls st0 = some out) : ∃ (t0 : Nat) (q0 : Option Nat) (st : List Vl), st0 = vR t0 q0 :: st ∧ (a < ls.length) ∧ out = .inl (σ, cs, lSet1 ls a (vR t0 q0), st) := by
  rcases st0 with _ | ⟨w, st⟩
  · exact nomatch (show (none : Option Out) = some out from h)
  rcases w with v0 | v0 | ⟨t0, q0⟩
  · exact nomatch (show (none : Option Out) = some out from h)
  · exact nomatch (show (none : Option Out) = some out from h)
  · skip
    have h : (if a < ls.length then some (Sum.inl (σ, cs, lSet1 ls a (vR t0 q0), st)) else none) = some out := h
    split at h
    · rename_i hc
      cases h
      exact ⟨t0, q0, st, rfl, hc, rfl⟩
    · exact nomatch (show (none : Option Out) = some out from h)

theorem inv_10 {M : Nat → List LI} {σ : St} {a b c : Nat} {z : Int} {cs : List LI} {ls : Ls} {st0 : List Vl} {out : Out} (h : step M σ ((10, a, b, c, z) :: cs) ls st0 = some out) : ∃ (v0 : Int) (v1 : Int) (st : List Vl), st0 = vI v0 :: vI v1 :: st ∧ (rgB (v1 + v0) = true) ∧ out = .inl (σ, cs, ls, vI (v1 + v0) :: st) := by
  rcases st0 with _ | ⟨w, st⟩
  · exact nomatch (show (none : Option Out) = some out from h)
  rcases w with v0 | v0 | ⟨t0, q0⟩
  · skip
    rcases st with _ | ⟨w, st⟩
    · exact nomatch (show (none : Option Out) = some out from h)
    rcases w with v1 | v1 | ⟨t1, q1⟩
    · skip
      have h : (if rgB (v1 + v0) = true then some (Sum.inl (σ, cs, ls, vI (v1 + v0) :: st)) else none) = some out := h
      split at h
      · rename_i hc
        cases h
        exact ⟨v0, v1, st, rfl, hc, rfl⟩
      · exact nomatch (show (none : Option Out) = some out from h)
    · exact nomatch (show (none : Option Out) = some out from h)
    · exact nomatch (show (none : Option Out) = some out from h)
  · exact nomatch (show (none : Option Out) = some out from h)
  · exact nomatch (show (none : Option Out) = some out from h)

theorem inv_11 {M : Nat → List LI} {σ : St} {a b c : Nat} {z : Int} {cs : List LI} {ls : Ls} {st0 : List Vl} {out : Out} (h : step M σ ((11, a, b, c, z) :: cs) ls st0 = some out) : ∃ (v0 : Int) (v1 : Int) (st : List Vl), st0 = vI v0 :: vI v1 :: st ∧ (rgB (v1 - v0) = true) ∧ out = .inl (σ, cs, ls, vI (v1 - v0) :: st) := by
  rcases st0 with _ | ⟨w, st⟩
  · exact nomatch (show (none : Option Out) = some out from h)
  rcases w with v0 | v0 | ⟨t0, q0⟩
  · skip
    rcases st with _ | ⟨w, st⟩
    · exact nomatch (show (none : Option Out) = some out from h)
    rcases w with v1 | v1 | ⟨t1, q1⟩
    · skip
      have h : (if rgB (v1 - v0) = true then some (Sum.inl (σ, cs, ls, vI (v1 - v0) :: st)) else none) = some out := h
      split at h
      · rename_i hc
        cases h
        exact ⟨v0, v1, st, rfl, hc, rfl⟩
      · exact nomatch (show (none : Option Out) = some out from h)
    · exact nomatch (show (none : Option Out) = some out from h)
    · exact nomatch (show (none : Option Out) = some out from h)
  · exact nomatch (show (none : Option Out) = some out from h)
  · exact nomatch (show (none : Option Out) = some out from h)

theorem inv_12 {M : Nat → List LI} {σ : St} {a b c : Nat} {z : Int} {cs : List LI} {ls : Ls} {st0 : List Vl} {out : Out} (h : step M σ ((12, a, b, c, z) :: cs) ls st0 = some out) : ∃ (v0 : Int) (v1 : Int) (st : List Vl), st0 = vI v0 :: vI v1 :: st ∧ (rgB (v1 * v0) = true) ∧ out = .inl (σ, cs, ls, vI (v1 * v0) :: st) := by
  rcases st0 with _ | ⟨w, st⟩
  · exact nomatch (show (none : Option Out) = some out from h)
  rcases w with v0 | v0 | ⟨t0, q0⟩
  · skip
    rcases st with _ | ⟨w, st⟩
    · exact nomatch (show (none : Option Out) = some out from h)
    rcases w with v1 | v1 | ⟨t1, q1⟩
    · skip
      have h : (if rgB (v1 * v0) = true then some (Sum.inl (σ, cs, ls, vI (v1 * v0) :: st)) else none) = some out := h
      split at h
      · rename_i hc
        cases h
        exact ⟨v0, v1, st, rfl, hc, rfl⟩
      · exact nomatch (show (none : Option Out) = some out from h)
    · exact nomatch (show (none : Option Out) = some out from h)
    · exact nomatch (show (none : Option Out) = some out from h)
  · exact nomatch (show (none : Option Out) = some out from h)
  · exact nomatch (show (none : Option Out) = some out from h)

theorem inv_13 {M : Nat → List LI} {σ : St} {a b c : Nat} {z : Int} {cs : List LI} {ls : Ls} {st0 : List Vl} {out : Out} (h : step M σ ((13, a, b, c, z) :: cs) ls st0 = some out) : ∃ (v0 : Int) (v1 : Int) (st : List Vl), st0 = vI v0 :: vI v1 :: st ∧ (0 ≤ v1 ∧ 0 < v0) ∧ out = .inl (σ, cs, ls, vI (v1 / v0) :: st) := by
  rcases st0 with _ | ⟨w, st⟩
  · exact nomatch (show (none : Option Out) = some out from h)
  rcases w with v0 | v0 | ⟨t0, q0⟩
  · skip
    rcases st with _ | ⟨w, st⟩
    · exact nomatch (show (none : Option Out) = some out from h)
    rcases w with v1 | v1 | ⟨t1, q1⟩
    · skip
      have h : (if 0 ≤ v1 ∧ 0 < v0 then some (Sum.inl (σ, cs, ls, vI (v1 / v0) :: st)) else none) = some out := h
      split at h
      · rename_i hc
        cases h
        exact ⟨v0, v1, st, rfl, hc, rfl⟩
      · exact nomatch (show (none : Option Out) = some out from h)
    · exact nomatch (show (none : Option Out) = some out from h)
    · exact nomatch (show (none : Option Out) = some out from h)
  · exact nomatch (show (none : Option Out) = some out from h)
  · exact nomatch (show (none : Option Out) = some out from h)

theorem inv_14 {M : Nat → List LI} {σ : St} {a b c : Nat} {z : Int} {cs : List LI} {ls : Ls} {st0 : List Vl} {out : Out} (h : step M σ ((14, a, b, c, z) :: cs) ls st0 = some out) : ∃ (v0 : Int) (v1 : Int) (st : List Vl), st0 = vI v0 :: vI v1 :: st ∧ (0 ≤ v1 ∧ 0 < v0) ∧ out = .inl (σ, cs, ls, vI (v1 % v0) :: st) := by
  rcases st0 with _ | ⟨w, st⟩
  · exact nomatch (show (none : Option Out) = some out from h)
  rcases w with v0 | v0 | ⟨t0, q0⟩
  · skip
    rcases st with _ | ⟨w, st⟩
    · exact nomatch (show (none : Option Out) = some out from h)
    rcases w with v1 | v1 | ⟨t1, q1⟩
    · skip
      have h : (if 0 ≤ v1 ∧ 0 < v0 then some (Sum.inl (σ, cs, ls, vI (v1 % v0) :: st)) else none) = some out := h
      split at h
      · rename_i hc
        cases h
        exact ⟨v0, v1, st, rfl, hc, rfl⟩
      · exact nomatch (show (none : Option Out) = some out from h)
    · exact nomatch (show (none : Option Out) = some out from h)
    · exact nomatch (show (none : Option Out) = some out from h)
  · exact nomatch (show (none : Option Out) = some out from h)
  · exact nomatch (show (none : Option Out) = some out from h)

theorem inv_16 {M : Nat → List LI} {σ : St} {a b c : Nat} {z : Int} {cs : List LI} {ls : Ls} {st0 : List Vl} {out : Out} (h : step M σ ((16, a, b, c, z) :: cs) ls st0 = some out) : ∃ (v0 : Int) (v1 : Int) (st : List Vl), st0 = vI v0 :: vI v1 :: st ∧ out = .inl (σ, cs, ls, vI (iShl v1 v0) :: st) := by
  rcases st0 with _ | ⟨w, st⟩
  · exact nomatch (show (none : Option Out) = some out from h)
  rcases w with v0 | v0 | ⟨t0, q0⟩
  · skip
    rcases st with _ | ⟨w, st⟩
    · exact nomatch (show (none : Option Out) = some out from h)
    rcases w with v1 | v1 | ⟨t1, q1⟩
    · skip
      have h : some (Sum.inl (σ, cs, ls, vI (iShl v1 v0) :: st)) = some out := h
      cases h
      exact ⟨v0, v1, st, rfl, rfl⟩
    · exact nomatch (show (none : Option Out) = some out from h)
    · exact nomatch (show (none : Option Out) = some out from h)
  · exact nomatch (show (none : Option Out) = some out from h)
  · exact nomatch (show (none : Option Out) = some out from h)

theorem inv_17 {M : Nat → List LI} {σ : St} {a b c : Nat} {z : Int} {cs : List LI} {ls : Ls} {st0 : List Vl} {out : Out} (h : step M σ ((17, a, b, c, z) :: cs) ls st0 = some out) : ∃ (v0 : Int) (v1 : Int) (st : List Vl), st0 = vI v0 :: vI v1 :: st ∧ out = .inl (σ, cs, ls, vI (iShr v1 v0) :: st) := by
  rcases st0 with _ | ⟨w, st⟩
  · exact nomatch (show (none : Option Out) = some out from h)
  rcases w with v0 | v0 | ⟨t0, q0⟩
  · skip
    rcases st with _ | ⟨w, st⟩
    · exact nomatch (show (none : Option Out) = some out from h)
    rcases w with v1 | v1 | ⟨t1, q1⟩
    · skip
      have h : some (Sum.inl (σ, cs, ls, vI (iShr v1 v0) :: st)) = some out := h
      cases h
      exact ⟨v0, v1, st, rfl, rfl⟩
    · exact nomatch (show (none : Option Out) = some out from h)
    · exact nomatch (show (none : Option Out) = some out from h)
  · exact nomatch (show (none : Option Out) = some out from h)
  · exact nomatch (show (none : Option Out) = some out from h)

theorem inv_18 {M : Nat → List LI} {σ : St} {a b c : Nat} {z : Int} {cs : List LI} {ls : Ls} {st0 : List Vl} {out : Out} (h : step M σ ((18, a, b, c, z) :: cs) ls st0 = some out) : ∃ (v0 : Int) (v1 : Int) (st : List Vl), st0 = vI v0 :: vI v1 :: st ∧ out = .inl (σ, cs, ls, vI (iUshr v1 v0) :: st) := by
  rcases st0 with _ | ⟨w, st⟩
  · exact nomatch (show (none : Option Out) = some out from h)
  rcases w with v0 | v0 | ⟨t0, q0⟩
  · skip
    rcases st with _ | ⟨w, st⟩
    · exact nomatch (show (none : Option Out) = some out from h)
    rcases w with v1 | v1 | ⟨t1, q1⟩
    · skip
      have h : some (Sum.inl (σ, cs, ls, vI (iUshr v1 v0) :: st)) = some out := h
      cases h
      exact ⟨v0, v1, st, rfl, rfl⟩
    · exact nomatch (show (none : Option Out) = some out from h)
    · exact nomatch (show (none : Option Out) = some out from h)
  · exact nomatch (show (none : Option Out) = some out from h)
  · exact nomatch (show (none : Option Out) = some out from h)

theorem inv_19 {M : Nat → List LI} {σ : St} {a b c : Nat} {z : Int} {cs : List LI} {ls : Ls} {st0 : List Vl} {out : Out} (h : step M σ ((19, a, b, c, z) :: cs) ls st0 = some out) : ∃ (v0 : Int) (v1 : Int) (st : List Vl), st0 = vI v0 :: vI v1 :: st ∧ out = .inl (σ, cs, ls, vI (iAnd v1 v0) :: st) := by
  rcases st0 with _ | ⟨w, st⟩
  · exact nomatch (show (none : Option Out) = some out from h)
  rcases w with v0 | v0 | ⟨t0, q0⟩
  · skip
    rcases st with _ | ⟨w, st⟩
    · exact nomatch (show (none : Option Out) = some out from h)
    rcases w with v1 | v1 | ⟨t1, q1⟩
    · skip
      have h : some (Sum.inl (σ, cs, ls, vI (iAnd v1 v0) :: st)) = some out := h
      cases h
      exact ⟨v0, v1, st, rfl, rfl⟩
    · exact nomatch (show (none : Option Out) = some out from h)
    · exact nomatch (show (none : Option Out) = some out from h)
  · exact nomatch (show (none : Option Out) = some out from h)
  · exact nomatch (show (none : Option Out) = some out from h)

theorem inv_20 {M : Nat → List LI} {σ : St} {a b c : Nat} {z : Int} {cs : List LI} {ls : Ls} {st0 : List Vl} {out : Out} (h : step M σ ((20, a, b, c, z) :: cs) ls st0 = some out) : ∃ (v0 : Int) (v1 : Int) (st : List Vl), st0 = vI v0 :: vI v1 :: st ∧ out = .inl (σ, cs, ls, vI (iOr v1 v0) :: st) := by
  rcases st0 with _ | ⟨w, st⟩
  · exact nomatch (show (none : Option Out) = some out from h)
  rcases w with v0 | v0 | ⟨t0, q0⟩
  · skip
    rcases st with _ | ⟨w, st⟩
    · exact nomatch (show (none : Option Out) = some out from h)
    rcases w with v1 | v1 | ⟨t1, q1⟩
    · skip
      have h : some (Sum.inl (σ, cs, ls, vI (iOr v1 v0) :: st)) = some out := h
      cases h
      exact ⟨v0, v1, st, rfl, rfl⟩
    · exact nomatch (show (none : Option Out) = some out from h)
    · exact nomatch (show (none : Option Out) = some out from h)
  · exact nomatch (show (none : Option Out) = some out from h)
  · exact nomatch (show (none : Option Out) = some out from h)

theorem inv_21 {M : Nat → List LI} {σ : St} {a b c : Nat} {z : Int} {cs : List LI} {ls : Ls} {st0 : List Vl} {out : Out} (h : step M σ ((21, a, b, c, z) :: cs) ls st0 = some out) : ∃ (v0 : Int) (v1 : Int) (st : List Vl), st0 = vI v0 :: vI v1 :: st ∧ out = .inl (σ, cs, ls, vI (iXor v1 v0) :: st) := by
  rcases st0 with _ | ⟨w, st⟩
  · exact nomatch (show (none : Option Out) = some out from h)
  rcases w with v0 | v0 | ⟨t0, q0⟩
  · skip
    rcases st with _ | ⟨w, st⟩
    · exact nomatch (show (none : Option Out) = some out from h)
    rcases w with v1 | v1 | ⟨t1, q1⟩
    · skip
      have h : some (Sum.inl (σ, cs, ls, vI (iXor v1 v0) :: st)) = some out := h
      cases h
      exact ⟨v0, v1, st, rfl, rfl⟩
    · exact nomatch (show (none : Option Out) = some out from h)
    · exact nomatch (show (none : Option Out) = some out from h)
  · exact nomatch (show (none : Option Out) = some out from h)
  · exact nomatch (show (none : Option Out) = some out from h)

theorem inv_22 {M : Nat → List LI} {σ : St} {a b c : Nat} {z : Int} {cs : List LI} {ls : Ls} {st0 : List Vl} {out : Out} (h : step M σ ((22, a, b, c, z) :: cs) ls st0 = some out) : ∃ (v0 : BitVec 64) (v1 : BitVec 64) (st : List Vl), st0 = vL v0 :: vL v1 :: st ∧ out = .inl (σ, cs, ls, vL (v1 + v0) :: st) := by
  rcases st0 with _ | ⟨w, st⟩
  · exact nomatch (show (none : Option Out) = some out from h)
  rcases w with v0 | v0 | ⟨t0, q0⟩
  · exact nomatch (show (none : Option Out) = some out from h)
  · skip
    rcases st with _ | ⟨w, st⟩
    · exact nomatch (show (none : Option Out) = some out from h)
    rcases w with v1 | v1 | ⟨t1, q1⟩
    · exact nomatch (show (none : Option Out) = some out from h)
    · skip
      have h : some (Sum.inl (σ, cs, ls, vL (v1 + v0) :: st)) = some out := h
      cases h
      exact ⟨v0, v1, st, rfl, rfl⟩
    · exact nomatch (show (none : Option Out) = some out from h)
  · exact nomatch (show (none : Option Out) = some out from h)

theorem inv_23 {M : Nat → List LI} {σ : St} {a b c : Nat} {z : Int} {cs : List LI} {ls : Ls} {st0 : List Vl} {out : Out} (h : step M σ ((23, a, b, c, z) :: cs) ls st0 = some out) : ∃ (v0 : BitVec 64) (v1 : BitVec 64) (st : List Vl), st0 = vL v0 :: vL v1 :: st ∧ out = .inl (σ, cs, ls, vL (v1 - v0) :: st) := by
  rcases st0 with _ | ⟨w, st⟩
  · exact nomatch (show (none : Option Out) = some out from h)
  rcases w with v0 | v0 | ⟨t0, q0⟩
  · exact nomatch (show (none : Option Out) = some out from h)
  · skip
    rcases st with _ | ⟨w, st⟩
    · exact nomatch (show (none : Option Out) = some out from h)
    rcases w with v1 | v1 | ⟨t1, q1⟩
    · exact nomatch (show (none : Option Out) = some out from h)
    · skip
      have h : some (Sum.inl (σ, cs, ls, vL (v1 - v0) :: st)) = some out := h
      cases h
      exact ⟨v0, v1, st, rfl, rfl⟩
    · exact nomatch (show (none : Option Out) = some out from h)
  · exact nomatch (show (none : Option Out) = some out from h)

theorem inv_25 {M : Nat → List LI} {σ : St} {a b c : Nat} {z : Int} {cs : List LI} {ls : Ls} {st0 : List Vl} {out : Out} (h : step M σ ((25, a, b, c, z) :: cs) ls st0 = some out) : ∃ (v0 : BitVec 64) (v1 : BitVec 64) (st : List Vl), st0 = vL v0 :: vL v1 :: st ∧ out = .inl (σ, cs, ls, vL (v1 &&& v0) :: st) := by
  rcases st0 with _ | ⟨w, st⟩
  · exact nomatch (show (none : Option Out) = some out from h)
  rcases w with v0 | v0 | ⟨t0, q0⟩
  · exact nomatch (show (none : Option Out) = some out from h)
  · skip
    rcases st with _ | ⟨w, st⟩
    · exact nomatch (show (none : Option Out) = some out from h)
    rcases w with v1 | v1 | ⟨t1, q1⟩
    · exact nomatch (show (none : Option Out) = some out from h)
    · skip
      have h : some (Sum.inl (σ, cs, ls, vL (v1 &&& v0) :: st)) = some out := h
      cases h
      exact ⟨v0, v1, st, rfl, rfl⟩
    · exact nomatch (show (none : Option Out) = some out from h)
  · exact nomatch (show (none : Option Out) = some out from h)

theorem inv_26 {M : Nat → List LI} {σ : St} {a b c : Nat} {z : Int} {cs : List LI} {ls : Ls} {st0 : List Vl} {out : Out} (h : step M σ ((26, a, b, c, z) :: cs) ls st0 = some out) : ∃ (v0 : BitVec 64) (v1 : BitVec 64) (st : List Vl), st0 = vL v0 :: vL v1 :: st ∧ out = .inl (σ, cs, ls, vL (v1 ||| v0) :: st) := by
  rcases st0 with _ | ⟨w, st⟩
  · exact nomatch (show (none : Option Out) = some out from h)
  rcases w with v0 | v0 | ⟨t0, q0⟩
  · exact nomatch (show (none : Option Out) = some out from h)
  · skip
    rcases st with _ | ⟨w, st⟩
    · exact nomatch (show (none : Option Out) = some out from h)
    rcases w with v1 | v1 | ⟨t1, q1⟩
    · exact nomatch (show (none : Option Out) = some out from h)
    · skip
      have h : some (Sum.inl (σ, cs, ls, vL (v1 ||| v0) :: st)) = some out := h
      cases h
      exact ⟨v0, v1, st, rfl, rfl⟩
    · exact nomatch (show (none : Option Out) = some out from h)
  · exact nomatch (show (none : Option Out) = some out from h)

theorem inv_27 {M : Nat → List LI} {σ : St} {a b c : Nat} {z : Int} {cs : List LI} {ls : Ls} {st0 : List Vl} {out : Out} (h : step M σ ((27, a, b, c, z) :: cs) ls st0 = some out) : ∃ (v0 : BitVec 64) (v1 : BitVec 64) (st : List Vl), st0 = vL v0 :: vL v1 :: st ∧ out = .inl (σ, cs, ls, vL (v1 ^^^ v0) :: st) := by
  rcases st0 with _ | ⟨w, st⟩
  · exact nomatch (show (none : Option Out) = some out from h)
  rcases w with v0 | v0 | ⟨t0, q0⟩
  · exact nomatch (show (none : Option Out) = some out from h)
  · skip
    rcases st with _ | ⟨w, st⟩
    · exact nomatch (show (none : Option Out) = some out from h)
    rcases w with v1 | v1 | ⟨t1, q1⟩
    · exact nomatch (show (none : Option Out) = some out from h)
    · skip
      have h : some (Sum.inl (σ, cs, ls, vL (v1 ^^^ v0) :: st)) = some out := h
      cases h
      exact ⟨v0, v1, st, rfl, rfl⟩
    · exact nomatch (show (none : Option Out) = some out from h)
  · exact nomatch (show (none : Option Out) = some out from h)

theorem inv_31 {M : Nat → List LI} {σ : St} {a b c : Nat} {z : Int} {cs : List LI} {ls : Ls} {st0 : List Vl} {out : Out} (h : step M σ ((31, a, b, c, z) :: cs) ls st0 = some out) : ∃ (v0 : BitVec 64) (v1 : BitVec 64) (st : List Vl), st0 = vL v0 :: vL v1 :: st ∧ out = .inl (σ, cs, ls, vI (lCmp v1 v0) :: st) := by
  rcases st0 with _ | ⟨w, st⟩
  · exact nomatch (show (none : Option Out) = some out from h)
  rcases w with v0 | v0 | ⟨t0, q0⟩
  · exact nomatch (show (none : Option Out) = some out from h)
  · skip
    rcases st with _ | ⟨w, st⟩
    · exact nomatch (show (none : Option Out) = some out from h)
    rcases w with v1 | v1 | ⟨t1, q1⟩
    · exact nomatch (show (none : Option Out) = some out from h)
    · skip
      have h : some (Sum.inl (σ, cs, ls, vI (lCmp v1 v0) :: st)) = some out := h
      cases h
      exact ⟨v0, v1, st, rfl, rfl⟩
    · exact nomatch (show (none : Option Out) = some out from h)
  · exact nomatch (show (none : Option Out) = some out from h)

theorem inv_28 {M : Nat → List LI} {σ : St} {a b c : Nat} {z : Int} {cs : List LI} {ls : Ls} {st0 : List Vl} {out : Out} (h : step M σ ((28, a, b, c, z) :: cs) ls st0 = some out) : ∃ (v0 : Int) (v1 : BitVec 64) (st : List Vl), st0 = vI v0 :: vL v1 :: st ∧ out = .inl (σ, cs, ls, vL (lShl v1 v0) :: st) := by
  rcases st0 with _ | ⟨w, st⟩
  · exact nomatch (show (none : Option Out) = some out from h)
  rcases w with v0 | v0 | ⟨t0, q0⟩
  · skip
    rcases st with _ | ⟨w, st⟩
    · exact nomatch (show (none : Option Out) = some out from h)
    rcases w with v1 | v1 | ⟨t1, q1⟩
    · exact nomatch (show (none : Option Out) = some out from h)
    · skip
      have h : some (Sum.inl (σ, cs, ls, vL (lShl v1 v0) :: st)) = some out := h
      cases h
      exact ⟨v0, v1, st, rfl, rfl⟩
    · exact nomatch (show (none : Option Out) = some out from h)
  · exact nomatch (show (none : Option Out) = some out from h)
  · exact nomatch (show (none : Option Out) = some out from h)

theorem inv_29 {M : Nat → List LI} {σ : St} {a b c : Nat} {z : Int} {cs : List LI} {ls : Ls} {st0 : List Vl} {out : Out} (h : step M σ ((29, a, b, c, z) :: cs) ls st0 = some out) : ∃ (v0 : Int) (v1 : BitVec 64) (st : List Vl), st0 = vI v0 :: vL v1 :: st ∧ out = .inl (σ, cs, ls, vL (lShr v1 v0) :: st) := by
  rcases st0 with _ | ⟨w, st⟩
  · exact nomatch (show (none : Option Out) = some out from h)
  rcases w with v0 | v0 | ⟨t0, q0⟩
  · skip
    rcases st with _ | ⟨w, st⟩
    · exact nomatch (show (none : Option Out) = some out from h)
    rcases w with v1 | v1 | ⟨t1, q1⟩
    · exact nomatch (show (none : Option Out) = some out from h)
    · skip
      have h : some (Sum.inl (σ, cs, ls, vL (lShr v1 v0) :: st)) = some out := h
      cases h
      exact ⟨v0, v1, st, rfl, rfl⟩
    · exact nomatch (show (none : Option Out) = some out from h)
  · exact nomatch (show (none : Option Out) = some out from h)
  · exact nomatch (show (none : Option Out) = some out from h)

theorem inv_30 {M : Nat → List LI} {σ : St} {a b c : Nat} {z : Int} {cs : List LI} {ls : Ls} {st0 : List Vl} {out : Out} (h : step M σ ((30, a, b, c, z) :: cs) ls st0 = some out) : ∃ (v0 : Int) (v1 : BitVec 64) (st : List Vl), st0 = vI v0 :: vL v1 :: st ∧ out = .inl (σ, cs, ls, vL (lUshr v1 v0) :: st) := by
  rcases st0 with _ | ⟨w, st⟩
  · exact nomatch (show (none : Option Out) = some out from h)
  rcases w with v0 | v0 | ⟨t0, q0⟩
  · skip
    rcases st with _ | ⟨w, st⟩
    · exact nomatch (show (none : Option Out) = some out from h)
    rcases w with v1 | v1 | ⟨t1, q1⟩
    · exact nomatch (show (none : Option Out) = some out from h)
    · skip
      have h : some (Sum.inl (σ, cs, ls, vL (lUshr v1 v0) :: st)) = some out := h
      cases h
      exact ⟨v0, v1, st, rfl, rfl⟩
    · exact nomatch (show (none : Option Out) = some out from h)
  · exact nomatch (show (none : Option Out) = some out from h)
  · exact nomatch (show (none : Option Out) = some out from h)

theorem inv_24 {M : Nat → List LI} {σ : St} {a b c : Nat} {z : Int} {cs : List LI} {ls : Ls} {st0 : List Vl} {out : Out} (h : step M σ ((24, a, b, c, z) :: cs) ls st0 = some out) : ∃ (v0 : BitVec 64) (st : List Vl), st0 = vL v0 :: st ∧ out = .inl (σ, cs, ls, vL (-v0) :: st) := by
  rcases st0 with _ | ⟨w, st⟩
  · exact nomatch (show (none : Option Out) = some out from h)
  rcases w with v0 | v0 | ⟨t0, q0⟩
  · exact nomatch (show (none : Option Out) = some out from h)
  · skip
    have h : some (Sum.inl (σ, cs, ls, vL (-v0) :: st)) = some out := h
    cases h
    exact ⟨v0, st, rfl, rfl⟩
  · exact nomatch (show (none : Option Out) = some out from h)

theorem inv_32 {M : Nat → List LI} {σ : St} {a b c : Nat} {z : Int} {cs : List LI} {ls : Ls} {st0 : List Vl} {out : Out} (h : step M σ ((32, a, b, c, z) :: cs) ls st0 = some out) : ∃ (v0 : Int) (st : List Vl), st0 = vI v0 :: st ∧ out = .inl (σ, cs, ls, vL (BitVec.ofInt 64 v0) :: st) := by
  rcases st0 with _ | ⟨w, st⟩
  · exact nomatch (show (none : Option Out) = some out from h)
  rcases w with v0 | v0 | ⟨t0, q0⟩
  · skip
    have h : some (Sum.inl (σ, cs, ls, vL (BitVec.ofInt 64 v0) :: st)) = some out := h
    cases h
    exact ⟨v0, st, rfl, rfl⟩
  · exact nomatch (show (none : Option Out) = some out from h)
  · exact nomatch (show (none : Option Out) = some out from h)

theorem inv_33 {M : Nat → List LI} {σ : St} {a b c : Nat} {z : Int} {cs : List LI} {ls : Ls} {st0 : List Vl} {out : Out} (h : step M σ ((33, a, b, c, z) :: cs) ls st0 = some out) : ∃ (v0 : BitVec 64) (st : List Vl), st0 = vL v0 :: st ∧ out = .inl (σ, cs, ls, vI (l2i v0) :: st) := by
  rcases st0 with _ | ⟨w, st⟩
  · exact nomatch (show (none : Option Out) = some out from h)
  rcases w with v0 | v0 | ⟨t0, q0⟩
  · exact nomatch (show (none : Option Out) = some out from h)
  · skip
    have h : some (Sum.inl (σ, cs, ls, vI (l2i v0) :: st)) = some out := h
    cases h
    exact ⟨v0, st, rfl, rfl⟩
  · exact nomatch (show (none : Option Out) = some out from h)

theorem inv_34 {M : Nat → List LI} {σ : St} {a b c : Nat} {z : Int} {cs : List LI} {ls : Ls} {st0 : List Vl} {out : Out} (h : step M σ ((34, a, b, c, z) :: cs) ls st0 = some out) : ∃ (v0 : Int) (st : List Vl), st0 = vI v0 :: st ∧ out = .inl (σ, cs, ls, vI (i2b v0) :: st) := by
  rcases st0 with _ | ⟨w, st⟩
  · exact nomatch (show (none : Option Out) = some out from h)
  rcases w with v0 | v0 | ⟨t0, q0⟩
  · skip
    have h : some (Sum.inl (σ, cs, ls, vI (i2b v0) :: st)) = some out := h
    cases h
    exact ⟨v0, st, rfl, rfl⟩
  · exact nomatch (show (none : Option Out) = some out from h)
  · exact nomatch (show (none : Option Out) = some out from h)

theorem inv_42 {M : Nat → List LI} {σ : St} {a b c : Nat} {z : Int} {cs : List LI} {ls : Ls} {st0 : List Vl} {out : Out} (h : step M σ ((42, a, b, c, z) :: cs) ls st0 = some out) : ∃ (v0 : Vl) (st : List Vl), st0 = v0 :: st ∧ (cat v0 = 1) ∧ out = .inl (σ, cs, ls, v0 :: v0 :: st) := by
  rcases st0 with _ | ⟨w, st⟩
  · exact nomatch (show (none : Option Out) = some out from h)
  obtain ⟨v0, rfl⟩ : ∃ x, x = w := ⟨w, rfl⟩
  have h : (if cat v0 = 1 then some (Sum.inl (σ, cs, ls, v0 :: v0 :: st)) else none) = some out := h
  split at h
  · rename_i hc
    cases h
    exact ⟨v0, st, rfl, hc, rfl⟩
  · exact nomatch (show (none : Option Out) = some out from h)

theorem inv_43 {M : Nat → List LI} {σ : St} {a b c : Nat} {z : Int} {cs : List LI} {ls : Ls} {st0 : List Vl} {out : Out} (h : step M σ ((43, a, b, c, z) :: cs) ls st0 = some out) : ∃ (v0 : Vl) (v1 : Vl) (st : List Vl), st0 = v0 :: v1 :: st ∧ (cat v0 = 1 ∧ cat v1 = 1) ∧ out = .inl (σ, cs, ls, v0 :: v1 :: v0 :: v1 :: st) := by
  rcases st0 with _ | ⟨w, st⟩
  · exact nomatch (show (none : Option Out) = some out from h)
  obtain ⟨v0, rfl⟩ : ∃ x, x = w := ⟨w, rfl⟩
  rcases st with _ | ⟨w, st⟩
  · exact nomatch (show (none : Option Out) = some out from h)
  obtain ⟨v1, rfl⟩ : ∃ x, x = w := ⟨w, rfl⟩
  have h : (if cat v0 = 1 ∧ cat v1 = 1 then some (Sum.inl (σ, cs, ls, v0 :: v1 :: v0 :: v1 :: st)) else none) = some out := h
  split at h
  · rename_i hc
    cases h
    exact ⟨v0, v1, st, rfl, hc, rfl⟩
  · exact nomatch (show (none : Option Out) = some out from h)

theorem inv_44 {M : Nat → List LI} {σ : St} {a b c : Nat} {z : Int} {cs : List LI} {ls : Ls} {st0 : List Vl} {out : Out} (h : step M σ ((44, a, b, c, z) :: cs) ls st0 = some out) : ∃ (v0 : Vl) (st : List Vl), st0 = v0 :: st ∧ (cat v0 = 1) ∧ out = .inl (σ, cs, ls, st) := by
  rcases st0 with _ | ⟨w, st⟩
  · exact nomatch (show (none : Option Out) = some out from h)
  obtain ⟨v0, rfl⟩ : ∃ x, x = w := ⟨w, rfl⟩
  have h : (if cat v0 = 1 then some (Sum.inl (σ, cs, ls, st)) else none) = some out := h
  split at h
  · rename_i hc
    cases h
    exact ⟨v0, st, rfl, hc, rfl⟩
  · exact nomatch (show (none : Option Out) = some out from h)

theorem inv_45 {M : Nat → List LI} {σ : St} {a b c : Nat} {z : Int} {cs : List LI} {ls : Ls} {st0 : List Vl} {out : Out} (h : step M σ ((45, a, b, c, z) :: cs) ls st0 = some out) : ∃ (t0 q0 : Nat) (st : List Vl), st0 = vR t0 (some q0) :: st ∧ (t0 = a) ∧ out = .inl (σ, cs, ls, vI (gI σ q0 b) :: st) := by
  rcases st0 with _ | ⟨w, st⟩
  · exact nomatch (show (none : Option Out) = some out from h)
  rcases w with v0 | v0 | ⟨t0, q0⟩
  · exact nomatch (show (none : Option Out) = some out from h)
  · exact nomatch (show (none : Option Out) = some out from h)
  · rcases q0 with _ | q0
    · exact nomatch (show (none : Option Out) = some out from h)
    · skip
      have h : (if t0 = a then some (Sum.inl (σ, cs, ls, vI (gI σ q0 b) :: st)) else none) = some out := h
      split at h
      · rename_i hc
        cases h
        exact ⟨t0, q0, st, rfl, hc, rfl⟩
      · exact nomatch (show (none : Option Out) = some out from h)

theorem inv_46 {M : Nat → List LI} {σ : St} {a b c : Nat} {z : Int} {cs : List LI} {ls : Ls} {st0 : List Vl} {out : Out} (h : step M σ ((46, a, b, c, z) :: cs) ls st0 = some out) : ∃ (t0 q0 : Nat) (st : List Vl), st0 = vR t0 (some q0) :: st ∧ (t0 = a) ∧ out = .inl (σ, cs, ls, vL (gL σ q0 b) :: st) := by
  rcases st0 with _ | ⟨w, st⟩
  · exact nomatch (show (none : Option Out) = some out from h)
  rcases w with v0 | v0 | ⟨t0, q0⟩
  · exact nomatch (show (none : Option Out) = some out from h)
  · exact nomatch (show (none : Option Out) = some out from h)
  · rcases q0 with _ | q0
    · exact nomatch (show (none : Option Out) = some out from h)
    · skip
      have h : (if t0 = a then some (Sum.inl (σ, cs, ls, vL (gL σ q0 b) :: st)) else none) = some out := h
      split at h
      · rename_i hc
        cases h
        exact ⟨t0, q0, st, rfl, hc, rfl⟩
      · exact nomatch (show (none : Option Out) = some out from h)

theorem inv_47 {M : Nat → List LI} {σ : St} {a b c : Nat} {z : Int} {cs : List LI} {ls : Ls} {st0 : List Vl} {out : Out} (h : step M σ ((47, a, b, c, z) :: cs) ls st0 = some out) : ∃ (t0 q0 : Nat) (st : List Vl), st0 = vR t0 (some q0) :: st ∧ (t0 = a) ∧ out = .inl (σ, cs, ls, vR c (gR σ q0 b) :: st) := by
  rcases st0 with _ | ⟨w, st⟩
  · exact nomatch (show (none : Option Out) = some out from h)
  rcases w with v0 | v0 | ⟨t0, q0⟩
  · exact nomatch (show (none : Option Out) = some out from h)
  · exact nomatch (show (none : Option Out) = some out from h)
  · rcases q0 with _ | q0
    · exact nomatch (show (none : Option Out) = some out from h)
    · skip
      have h : (if t0 = a then some (Sum.inl (σ, cs, ls, vR c (gR σ q0 b) :: st)) else none) = some out := h
      split at h
      · rename_i hc
        cases h
        exact ⟨t0, q0, st, rfl, hc, rfl⟩
      · exact nomatch (show (none : Option Out) = some out from h)

theorem inv_48 {M : Nat → List LI} {σ : St} {a b c : Nat} {z : Int} {cs : List LI} {ls : Ls} {st0 : List Vl} {out : Out} (h : step M σ ((48, a, b, c, z) :: cs) ls st0 = some out) : ∃ (v0 : Int) (t1 q1 : Nat) (st : List Vl), st0 = vI v0 :: vR t1 (some q1) :: st ∧ (t1 = a ∧ (c = 0 ∨ (0 ≤ v0 ∧ v0 ≤ 1))) ∧ out = .inl (wI σ q1 b v0, cs, ls, st) := by
  rcases st0 with _ | ⟨w, st⟩
  · exact nomatch (show (none : Option Out) = some out from h)
  rcases w with v0 | v0 | ⟨t0, q0⟩
  · skip
    rcases st with _ | ⟨w, st⟩
    · exact nomatch (show (none : Option Out) = some out from h)
    rcases w with v1 | v1 | ⟨t1, q1⟩
    · exact nomatch (show (none : Option Out) = some out from h)
    · exact nomatch (show (none : Option Out) = some out from h)
    · rcases q1 with _ | q1
      · exact nomatch (show (none : Option Out) = some out from h)
      · skip
        have h : (if t1 = a ∧ (c = 0 ∨ (0 ≤ v0 ∧ v0 ≤ 1)) then some (Sum.inl (wI σ q1 b v0, cs, ls, st)) else none) = some out := h
        split at h
        · rename_i hc
          cases h
          exact ⟨v0, t1, q1, st, rfl, hc, rfl⟩
        · exact nomatch (show (none : Option Out) = some out from h)
  · exact nomatch (show (none : Option Out) = some out from h)
  · exact nomatch (show (none : Option Out) = some out from h)

theorem inv_49 {M : Nat → List LI} {σ : St} {a b c : Nat} {z : Int} {cs : List LI} {ls : Ls} {st0 : List Vl} {out : Out} (h : step M σ ((49, a, b, c, z) :: cs) ls st0 = some out) : ∃ (v0 : BitVec 64) (t1 q1 : Nat) (st : List Vl), st0 = vL v0 :: vR t1 (some q1) :: st ∧ (t1 = a) ∧ out = .inl (wL σ q1 b v0, cs, ls, st) := by
  rcases st0 with _ | ⟨w, st⟩
  · exact nomatch (show (none : Option Out) = some out from h)
  rcases w with v0 | v0 | ⟨t0, q0⟩
  · exact nomatch (show (none : Option Out) = some out from h)
  · skip
    rcases st with _ | ⟨w, st⟩
    · exact nomatch (show (none : Option Out) = some out from h)
    rcases w with v1 | v1 | ⟨t1, q1⟩
    · exact nomatch (show (none : Option Out) = some out from h)
    · exact nomatch (show (none : Option Out) = some out from h)
    · rcases q1 with _ | q1
      · exact nomatch (show (none : Option Out) = some out from h)
      · skip
        have h : (if t1 = a then some (Sum.inl (wL σ q1 b v0, cs, ls, st)) else none) = some out := h
        split at h
        · rename_i hc
          cases h
          exact ⟨v0, t1, q1, st, rfl, hc, rfl⟩
        · exact nomatch (show (none : Option Out) = some out from h)
  · exact nomatch (show (none : Option Out) = some out from h)

theorem inv_50 {M : Nat → List LI} {σ : St} {a b c : Nat} {z : Int} {cs : List LI} {ls : Ls} {st0 : List Vl} {out : Out} (h : step M σ ((50, a, b, c, z) :: cs) ls st0 = some out) : ∃ (t0 : Nat) (q0 : Option Nat) (t1 q1 : Nat) (st : List Vl), st0 = vR t0 q0 :: vR t1 (some q1) :: st ∧ (t1 = a ∧ t0 = c) ∧ out = .inl (wR σ q1 b q0, cs, ls, st) := by
  rcases st0 with _ | ⟨w, st⟩
  · exact nomatch (show (none : Option Out) = some out from h)
  rcases w with v0 | v0 | ⟨t0, q0⟩
  · exact nomatch (show (none : Option Out) = some out from h)
  · exact nomatch (show (none : Option Out) = some out from h)
  · skip
    rcases st with _ | ⟨w, st⟩
    · exact nomatch (show (none : Option Out) = some out from h)
    rcases w with v1 | v1 | ⟨t1, q1⟩
    · exact nomatch (show (none : Option Out) = some out from h)
    · exact nomatch (show (none : Option Out) = some out from h)
    · rcases q1 with _ | q1
      · exact nomatch (show (none : Option Out) = some out from h)
      · skip
        have h : (if t1 = a ∧ t0 = c then some (Sum.inl (wR σ q1 b q0, cs, ls, st)) else none) = some out := h
        split at h
        · rename_i hc
          cases h
          exact ⟨t0, q0, t1, q1, st, rfl, hc, rfl⟩
        · exact nomatch (show (none : Option Out) = some out from h)

theorem inv_52 {M : Nat → List LI} {σ : St} {a b c : Nat} {z : Int} {cs : List LI} {ls : Ls} {st0 : List Vl} {out : Out} (h : step M σ ((52, a, b, c, z) :: cs) ls st0 = some out) : ∃ (v0 : Int) (t1 q1 : Nat) (st : List Vl), st0 = vI v0 :: vR t1 (some q1) :: st ∧ ((t1 = 14 ∨ t1 = 20) ∧ inbB v0 (ln σ q1) = true) ∧ out = .inl (σ, cs, ls, vI (gI σ q1 v0.toNat) :: st) := by
  rcases st0 with _ | ⟨w, st⟩
  · exact nomatch (show (none : Option Out) = some out from h)
  rcases w with v0 | v0 | ⟨t0, q0⟩
  · skip
    rcases st with _ | ⟨w, st⟩
    · exact nomatch (show (none : Option Out) = some out from h)
    rcases w with v1 | v1 | ⟨t1, q1⟩
    · exact nomatch (show (none : Option Out) = some out from h)
    · exact nomatch (show (none : Option Out) = some out from h)
    · rcases q1 with _ | q1
      · exact nomatch (show (none : Option Out) = some out from h)
      · skip
        have h : (if (t1 = 14 ∨ t1 = 20) ∧ inbB v0 (ln σ q1) = true then some (Sum.inl (σ, cs, ls, vI (gI σ q1 v0.toNat) :: st)) else none) = some out := h
        split at h
        · rename_i hc
          cases h
          exact ⟨v0, t1, q1, st, rfl, hc, rfl⟩
        · exact nomatch (show (none : Option Out) = some out from h)
  · exact nomatch (show (none : Option Out) = some out from h)
  · exact nomatch (show (none : Option Out) = some out from h)

theorem inv_53 {M : Nat → List LI} {σ : St} {a b c : Nat} {z : Int} {cs : List LI} {ls : Ls} {st0 : List Vl} {out : Out} (h : step M σ ((53, a, b, c, z) :: cs) ls st0 = some out) : ∃ (v0 : Int) (t1 q1 : Nat) (st : List Vl), st0 = vI v0 :: vR t1 (some q1) :: st ∧ (t1 = 15 ∧ inbB v0 (ln σ q1) = true) ∧ out = .inl (σ, cs, ls, vL (gL σ q1 v0.toNat) :: st) := by
  rcases st0 with _ | ⟨w, st⟩
  · exact nomatch (show (none : Option Out) = some out from h)
  rcases w with v0 | v0 | ⟨t0, q0⟩
  · skip
    rcases st with _ | ⟨w, st⟩
    · exact nomatch (show (none : Option Out) = some out from h)
    rcases w with v1 | v1 | ⟨t1, q1⟩
    · exact nomatch (show (none : Option Out) = some out from h)
    · exact nomatch (show (none : Option Out) = some out from h)
    · rcases q1 with _ | q1
      · exact nomatch (show (none : Option Out) = some out from h)
      · skip
        have h : (if t1 = 15 ∧ inbB v0 (ln σ q1) = true then some (Sum.inl (σ, cs, ls, vL (gL σ q1 v0.toNat) :: st)) else none) = some out := h
        split at h
        · rename_i hc
          cases h
          exact ⟨v0, t1, q1, st, rfl, hc, rfl⟩
        · exact nomatch (show (none : Option Out) = some out from h)
  · exact nomatch (show (none : Option Out) = some out from h)
  · exact nomatch (show (none : Option Out) = some out from h)

theorem inv_54 {M : Nat → List LI} {σ : St} {a b c : Nat} {z : Int} {cs : List LI} {ls : Ls} {st0 : List Vl} {out : Out} (h : step M σ ((54, a, b, c, z) :: cs) ls st0 = some out) : ∃ (v0 : Int) (t1 q1 : Nat) (st : List Vl), st0 = vI v0 :: vR t1 (some q1) :: st ∧ (t1 = 13 ∧ inbB v0 (ln σ q1) = true) ∧ out = .inl (σ, cs, ls, vI (gI σ q1 v0.toNat) :: st) := by
  rcases st0 with _ | ⟨w, st⟩
  · exact nomatch (show (none : Option Out) = some out from h)
  rcases w with v0 | v0 | ⟨t0, q0⟩
  · skip
    rcases st with _ | ⟨w, st⟩
    · exact nomatch (show (none : Option Out) = some out from h)
    rcases w with v1 | v1 | ⟨t1, q1⟩
    · exact nomatch (show (none : Option Out) = some out from h)
    · exact nomatch (show (none : Option Out) = some out from h)
    · rcases q1 with _ | q1
      · exact nomatch (show (none : Option Out) = some out from h)
      · skip
        have h : (if t1 = 13 ∧ inbB v0 (ln σ q1) = true then some (Sum.inl (σ, cs, ls, vI (gI σ q1 v0.toNat) :: st)) else none) = some out := h
        split at h
        · rename_i hc
          cases h
          exact ⟨v0, t1, q1, st, rfl, hc, rfl⟩
        · exact nomatch (show (none : Option Out) = some out from h)
  · exact nomatch (show (none : Option Out) = some out from h)
  · exact nomatch (show (none : Option Out) = some out from h)

theorem inv_55 {M : Nat → List LI} {σ : St} {a b c : Nat} {z : Int} {cs : List LI} {ls : Ls} {st0 : List Vl} {out : Out} (h : step M σ ((55, a, b, c, z) :: cs) ls st0 = some out) : ∃ (v0 : Int) (t1 q1 : Nat) (st : List Vl), st0 = vI v0 :: vR t1 (some q1) :: st ∧ (t1 = 16 ∧ inbB v0 (ln σ q1) = true) ∧ out = .inl (σ, cs, ls, vI (gI σ q1 v0.toNat) :: st) := by
  rcases st0 with _ | ⟨w, st⟩
  · exact nomatch (show (none : Option Out) = some out from h)
  rcases w with v0 | v0 | ⟨t0, q0⟩
  · skip
    rcases st with _ | ⟨w, st⟩
    · exact nomatch (show (none : Option Out) = some out from h)
    rcases w with v1 | v1 | ⟨t1, q1⟩
    · exact nomatch (show (none : Option Out) = some out from h)
    · exact nomatch (show (none : Option Out) = some out from h)
    · rcases q1 with _ | q1
      · exact nomatch (show (none : Option Out) = some out from h)
      · skip
        have h : (if t1 = 16 ∧ inbB v0 (ln σ q1) = true then some (Sum.inl (σ, cs, ls, vI (gI σ q1 v0.toNat) :: st)) else none) = some out := h
        split at h
        · rename_i hc
          cases h
          exact ⟨v0, t1, q1, st, rfl, hc, rfl⟩
        · exact nomatch (show (none : Option Out) = some out from h)
  · exact nomatch (show (none : Option Out) = some out from h)
  · exact nomatch (show (none : Option Out) = some out from h)

theorem inv_56 {M : Nat → List LI} {σ : St} {a b c : Nat} {z : Int} {cs : List LI} {ls : Ls} {st0 : List Vl} {out : Out} (h : step M σ ((56, a, b, c, z) :: cs) ls st0 = some out) : ∃ (v0 : Int) (t1 q1 : Nat) (st : List Vl), st0 = vI v0 :: vR t1 (some q1) :: st ∧ (t1 = a ∧ inbB v0 (ln σ q1) = true) ∧ out = .inl (σ, cs, ls, vR c (gR σ q1 v0.toNat) :: st) := by
  rcases st0 with _ | ⟨w, st⟩
  · exact nomatch (show (none : Option Out) = some out from h)
  rcases w with v0 | v0 | ⟨t0, q0⟩
  · skip
    rcases st with _ | ⟨w, st⟩
    · exact nomatch (show (none : Option Out) = some out from h)
    rcases w with v1 | v1 | ⟨t1, q1⟩
    · exact nomatch (show (none : Option Out) = some out from h)
    · exact nomatch (show (none : Option Out) = some out from h)
    · rcases q1 with _ | q1
      · exact nomatch (show (none : Option Out) = some out from h)
      · skip
        have h : (if t1 = a ∧ inbB v0 (ln σ q1) = true then some (Sum.inl (σ, cs, ls, vR c (gR σ q1 v0.toNat) :: st)) else none) = some out := h
        split at h
        · rename_i hc
          cases h
          exact ⟨v0, t1, q1, st, rfl, hc, rfl⟩
        · exact nomatch (show (none : Option Out) = some out from h)
  · exact nomatch (show (none : Option Out) = some out from h)
  · exact nomatch (show (none : Option Out) = some out from h)

theorem inv_57 {M : Nat → List LI} {σ : St} {a b c : Nat} {z : Int} {cs : List LI} {ls : Ls} {st0 : List Vl} {out : Out} (h : step M σ ((57, a, b, c, z) :: cs) ls st0 = some out) : ∃ (v0 : Int) (v1 : Int) (t2 q2 : Nat) (st : List Vl), st0 = vI v0 :: vI v1 :: vR t2 (some q2) :: st ∧ (t2 = 14 ∧ inbB v1 (ln σ q2) = true) ∧ out = .inl (wI σ q2 v1.toNat v0, cs, ls, st) := by
  rcases st0 with _ | ⟨w, st⟩
  · exact nomatch (show (none : Option Out) = some out from h)
  rcases w with v0 | v0 | ⟨t0, q0⟩
  · skip
    rcases st with _ | ⟨w, st⟩
    · exact nomatch (show (none : Option Out) = some out from h)
    rcases w with v1 | v1 | ⟨t1, q1⟩
    · skip
      rcases st with _ | ⟨w, st⟩
      · exact nomatch (show (none : Option Out) = some out from h)
      rcases w with v2 | v2 | ⟨t2, q2⟩
      · exact nomatch (show (none : Option Out) = some out from h)
      · exact nomatch (show (none : Option Out) = some out from h)
      · rcases q2 with _ | q2
        · exact nomatch (show (none : Option Out) = some out from h)
        · skip
          have h : (if t2 = 14 ∧ inbB v1 (ln σ q2) = true then some (Sum.inl (wI σ q2 v1.toNat v0, cs, ls, st)) else none) = some out := h
          split at h
          · rename_i hc
            cases h
            exact ⟨v0, v1, t2, q2, st, rfl, hc, rfl⟩
          · exact nomatch (show (none : Option Out) = some out from h)
    · exact nomatch (show (none : Option Out) = some out from h)
    · exact nomatch (show (none : Option Out) = some out from h)
  · exact nomatch (show (none : Option Out) = some out from h)
  · exact nomatch (show (none : Option Out) = some out from h)

theorem inv_58 {M : Nat → List LI} {σ : St} {a b c : Nat} {z : Int} {cs : List LI} {ls : Ls} {st0 : List Vl} {out : Out} (h : step M σ ((58, a, b, c, z) :: cs) ls st0 = some out) : ∃ (v0 : BitVec 64) (v1 : Int) (t2 q2 : Nat) (st : List Vl), st0 = vL v0 :: vI v1 :: vR t2 (some q2) :: st ∧ (t2 = 15 ∧ inbB v1 (ln σ q2) = true) ∧ out = .inl (wL σ q2 v1.toNat v0, cs, ls, st) := by
  rcases st0 with _ | ⟨w, st⟩
  · exact nomatch (show (none : Option Out) = some out from h)
  rcases w with v0 | v0 | ⟨t0, q0⟩
  · exact nomatch (show (none : Option Out) = some out from h)
  · skip
    rcases st with _ | ⟨w, st⟩
    · exact nomatch (show (none : Option Out) = some out from h)
    rcases w with v1 | v1 | ⟨t1, q1⟩
    · skip
      rcases st with _ | ⟨w, st⟩
      · exact nomatch (show (none : Option Out) = some out from h)
      rcases w with v2 | v2 | ⟨t2, q2⟩
      · exact nomatch (show (none : Option Out) = some out from h)
      · exact nomatch (show (none : Option Out) = some out from h)
      · rcases q2 with _ | q2
        · exact nomatch (show (none : Option Out) = some out from h)
        · skip
          have h : (if t2 = 15 ∧ inbB v1 (ln σ q2) = true then some (Sum.inl (wL σ q2 v1.toNat v0, cs, ls, st)) else none) = some out := h
          split at h
          · rename_i hc
            cases h
            exact ⟨v0, v1, t2, q2, st, rfl, hc, rfl⟩
          · exact nomatch (show (none : Option Out) = some out from h)
    · exact nomatch (show (none : Option Out) = some out from h)
    · exact nomatch (show (none : Option Out) = some out from h)
  · exact nomatch (show (none : Option Out) = some out from h)

theorem inv_59 {M : Nat → List LI} {σ : St} {a b c : Nat} {z : Int} {cs : List LI} {ls : Ls} {st0 : List Vl} {out : Out} (h : step M σ ((59, a, b, c, z) :: cs) ls st0 = some out) : ∃ (v0 : Int) (v1 : Int) (t2 q2 : Nat) (st : List Vl), st0 = vI v0 :: vI v1 :: vR t2 (some q2) :: st ∧ (t2 = 13 ∧ inbB v1 (ln σ q2) = true ∧ -128 ≤ v0 ∧ v0 ≤ 127) ∧ out = .inl (wI σ q2 v1.toNat v0, cs, ls, st) := by
  rcases st0 with _ | ⟨w, st⟩
  · exact nomatch (show (none : Option Out) = some out from h)
  rcases w with v0 | v0 | ⟨t0, q0⟩
  · skip
    rcases st with _ | ⟨w, st⟩
    · exact nomatch (show (none : Option Out) = some out from h)
    rcases w with v1 | v1 | ⟨t1, q1⟩
    · skip
      rcases st with _ | ⟨w, st⟩
      · exact nomatch (show (none : Option Out) = some out from h)
      rcases w with v2 | v2 | ⟨t2, q2⟩
      · exact nomatch (show (none : Option Out) = some out from h)
      · exact nomatch (show (none : Option Out) = some out from h)
      · rcases q2 with _ | q2
        · exact nomatch (show (none : Option Out) = some out from h)
        · skip
          have h : (if t2 = 13 ∧ inbB v1 (ln σ q2) = true ∧ -128 ≤ v0 ∧ v0 ≤ 127 then some (Sum.inl (wI σ q2 v1.toNat v0, cs, ls, st)) else none) = some out := h
          split at h
          · rename_i hc
            cases h
            exact ⟨v0, v1, t2, q2, st, rfl, hc, rfl⟩
          · exact nomatch (show (none : Option Out) = some out from h)
    · exact nomatch (show (none : Option Out) = some out from h)
    · exact nomatch (show (none : Option Out) = some out from h)
  · exact nomatch (show (none : Option Out) = some out from h)
  · exact nomatch (show (none : Option Out) = some out from h)

theorem inv_60 {M : Nat → List LI} {σ : St} {a b c : Nat} {z : Int} {cs : List LI} {ls : Ls} {st0 : List Vl} {out : Out} (h : step M σ ((60, a, b, c, z) :: cs) ls st0 = some out) : ∃ (v0 : Int) (v1 : Int) (t2 q2 : Nat) (st : List Vl), st0 = vI v0 :: vI v1 :: vR t2 (some q2) :: st ∧ (t2 = 16 ∧ inbB v1 (ln σ q2) = true ∧ 0 ≤ v0 ∧ v0 ≤ 1) ∧ out = .inl (wI σ q2 v1.toNat v0, cs, ls, st) := by
  rcases st0 with _ | ⟨w, st⟩
  · exact nomatch (show (none : Option Out) = some out from h)
  rcases w with v0 | v0 | ⟨t0, q0⟩
  · skip
    rcases st with _ | ⟨w, st⟩
    · exact nomatch (show (none : Option Out) = some out from h)
    rcases w with v1 | v1 | ⟨t1, q1⟩
    · skip
      rcases st with _ | ⟨w, st⟩
      · exact nomatch (show (none : Option Out) = some out from h)
      rcases w with v2 | v2 | ⟨t2, q2⟩
      · exact nomatch (show (none : Option Out) = some out from h)
      · exact nomatch (show (none : Option Out) = some out from h)
      · rcases q2 with _ | q2
        · exact nomatch (show (none : Option Out) = some out from h)
        · skip
          have h : (if t2 = 16 ∧ inbB v1 (ln σ q2) = true ∧ 0 ≤ v0 ∧ v0 ≤ 1 then some (Sum.inl (wI σ q2 v1.toNat v0, cs, ls, st)) else none) = some out := h
          split at h
          · rename_i hc
            cases h
            exact ⟨v0, v1, t2, q2, st, rfl, hc, rfl⟩
          · exact nomatch (show (none : Option Out) = some out from h)
    · exact nomatch (show (none : Option Out) = some out from h)
    · exact nomatch (show (none : Option Out) = some out from h)
  · exact nomatch (show (none : Option Out) = some out from h)
  · exact nomatch (show (none : Option Out) = some out from h)

theorem inv_61 {M : Nat → List LI} {σ : St} {a b c : Nat} {z : Int} {cs : List LI} {ls : Ls} {st0 : List Vl} {out : Out} (h : step M σ ((61, a, b, c, z) :: cs) ls st0 = some out) : ∃ (t0 q0 : Nat) (v1 : Int) (t2 q2 : Nat) (st : List Vl), st0 = vR t0 (some q0) :: vI v1 :: vR t2 (some q2) :: st ∧ (t2 = a ∧ t0 = c ∧ inbB v1 (ln σ q2) = true) ∧ out = .inl (wR σ q2 v1.toNat (some q0), cs, ls, st) := by
  rcases st0 with _ | ⟨w, st⟩
  · exact nomatch (show (none : Option Out) = some out from h)
  rcases w with v0 | v0 | ⟨t0, q0⟩
  · exact nomatch (show (none : Option Out) = some out from h)
  · exact nomatch (show (none : Option Out) = some out from h)
  · rcases q0 with _ | q0
    · exact nomatch (show (none : Option Out) = some out from h)
    · skip
      rcases st with _ | ⟨w, st⟩
      · exact nomatch (show (none : Option Out) = some out from h)
      rcases w with v1 | v1 | ⟨t1, q1⟩
      · skip
        rcases st with _ | ⟨w, st⟩
        · exact nomatch (show (none : Option Out) = some out from h)
        rcases w with v2 | v2 | ⟨t2, q2⟩
        · exact nomatch (show (none : Option Out) = some out from h)
        · exact nomatch (show (none : Option Out) = some out from h)
        · rcases q2 with _ | q2
          · exact nomatch (show (none : Option Out) = some out from h)
          · skip
            have h : (if t2 = a ∧ t0 = c ∧ inbB v1 (ln σ q2) = true then some (Sum.inl (wR σ q2 v1.toNat (some q0), cs, ls, st)) else none) = some out := h
            split at h
            · rename_i hc
              cases h
              exact ⟨t0, q0, v1, t2, q2, st, rfl, hc, rfl⟩
            · exact nomatch (show (none : Option Out) = some out from h)
      · exact nomatch (show (none : Option Out) = some out from h)
      · exact nomatch (show (none : Option Out) = some out from h)

theorem inv_62 {M : Nat → List LI} {σ : St} {a b c : Nat} {z : Int} {cs : List LI} {ls : Ls} {st0 : List Vl} {out : Out} (h : step M σ ((62, a, b, c, z) :: cs) ls st0 = some out) : ∃ (t0 q0 : Nat) (st : List Vl), st0 = vR t0 (some q0) :: st ∧ ((13 ≤ t0 ∧ t0 ≤ 20) ∧ (ln σ q0 : Int) < 2147483648) ∧ out = .inl (σ, cs, ls, vI (ln σ q0) :: st) := by
  rcases st0 with _ | ⟨w, st⟩
  · exact nomatch (show (none : Option Out) = some out from h)
  rcases w with v0 | v0 | ⟨t0, q0⟩
  · exact nomatch (show (none : Option Out) = some out from h)
  · exact nomatch (show (none : Option Out) = some out from h)
  · rcases q0 with _ | q0
    · exact nomatch (show (none : Option Out) = some out from h)
    · skip
      have h : (if (13 ≤ t0 ∧ t0 ≤ 20) ∧ (ln σ q0 : Int) < 2147483648 then some (Sum.inl (σ, cs, ls, vI (ln σ q0) :: st)) else none) = some out := h
      split at h
      · rename_i hc
        cases h
        exact ⟨t0, q0, st, rfl, hc, rfl⟩
      · exact nomatch (show (none : Option Out) = some out from h)

theorem inv_63 {M : Nat → List LI} {σ : St} {a b c : Nat} {z : Int} {cs : List LI} {ls : Ls} {st0 : List Vl} {out : Out} (h : step M σ ((63, a, b, c, z) :: cs) ls st0 = some out) : ∃ (v0 : Int) (st : List Vl), st0 = vI v0 :: st ∧ (0 ≤ v0 ∧ v0 ≤ 1000000) ∧ out = .inl (mk σ a v0.toNat v0.toNat, cs, ls, vR a (some (nx σ)) :: st) := by
  rcases st0 with _ | ⟨w, st⟩
  · exact nomatch (show (none : Option Out) = some out from h)
  rcases w with v0 | v0 | ⟨t0, q0⟩
  · skip
    have h : (if 0 ≤ v0 ∧ v0 ≤ 1000000 then some (Sum.inl (mk σ a v0.toNat v0.toNat, cs, ls, vR a (some (nx σ)) :: st)) else none) = some out := h
    split at h
    · rename_i hc
      cases h
      exact ⟨v0, st, rfl, hc, rfl⟩
    · exact nomatch (show (none : Option Out) = some out from h)
  · exact nomatch (show (none : Option Out) = some out from h)
  · exact nomatch (show (none : Option Out) = some out from h)

theorem inv_64 {M : Nat → List LI} {σ : St} {a b c : Nat} {z : Int} {cs : List LI} {ls : Ls} {st0 : List Vl} {out : Out} (h : step M σ ((64, a, b, c, z) :: cs) ls st0 = some out) : ∃ (v0 : Int) (st : List Vl), st0 = vI v0 :: st ∧ (0 ≤ v0 ∧ v0 ≤ 1000000) ∧ out = .inl (mk σ a v0.toNat v0.toNat, cs, ls, vR a (some (nx σ)) :: st) := by
  rcases st0 with _ | ⟨w, st⟩
  · exact nomatch (show (none : Option Out) = some out from h)
  rcases w with v0 | v0 | ⟨t0, q0⟩
  · skip
    have h : (if 0 ≤ v0 ∧ v0 ≤ 1000000 then some (Sum.inl (mk σ a v0.toNat v0.toNat, cs, ls, vR a (some (nx σ)) :: st)) else none) = some out := h
    split at h
    · rename_i hc
      cases h
      exact ⟨v0, st, rfl, hc, rfl⟩
    · exact nomatch (show (none : Option Out) = some out from h)
  · exact nomatch (show (none : Option Out) = some out from h)
  · exact nomatch (show (none : Option Out) = some out from h)

theorem inv_65 {M : Nat → List LI} {σ : St} {a b c : Nat} {z : Int} {cs : List LI} {ls : Ls} {st0 : List Vl} {out : Out} (h : step M σ ((65, a, b, c, z) :: cs) ls st0 = some out) : ∃ (v0 : Int) (v1 : Int) (st : List Vl), st0 = vI v0 :: vI v1 :: st ∧ (v0 = 0 ∧ v1 = 20) ∧ out = .inl (mkM σ, cs, ls, vR 19 (some (nx σ)) :: st) := by
  rcases st0 with _ | ⟨w, st⟩
  · exact nomatch (show (none : Option Out) = some out from h)
  rcases w with v0 | v0 | ⟨t0, q0⟩
  · skip
    rcases st with _ | ⟨w, st⟩
    · exact nomatch (show (none : Option Out) = some out from h)
    rcases w with v1 | v1 | ⟨t1, q1⟩
    · skip
      have h : (if v0 = 0 ∧ v1 = 20 then some (Sum.inl (mkM σ, cs, ls, vR 19 (some (nx σ)) :: st)) else none) = some out := h
      split at h
      · rename_i hc
        cases h
        exact ⟨v0, v1, st, rfl, hc, rfl⟩
      · exact nomatch (show (none : Option Out) = some out from h)
    · exact nomatch (show (none : Option Out) = some out from h)
    · exact nomatch (show (none : Option Out) = some out from h)
  · exact nomatch (show (none : Option Out) = some out from h)
  · exact nomatch (show (none : Option Out) = some out from h)

theorem inv_68 {M : Nat → List LI} {σ : St} {a b c : Nat} {z : Int} {cs : List LI} {ls : Ls} {st0 : List Vl} {out : Out} (h : step M σ ((68, a, b, c, z) :: cs) ls st0 = some out) : ∃ (t0 q0 : Nat) (st : List Vl), st0 = vR t0 (some q0) :: st ∧ (stW st ≤ 8) ∧ out = .inl (σ, cs, ls, st) := by
  rcases st0 with _ | ⟨w, st⟩
  · exact nomatch (show (none : Option Out) = some out from h)
  rcases w with v0 | v0 | ⟨t0, q0⟩
  · exact nomatch (show (none : Option Out) = some out from h)
  · exact nomatch (show (none : Option Out) = some out from h)
  · rcases q0 with _ | q0
    · exact nomatch (show (none : Option Out) = some out from h)
    · skip
      have h : (if stW st ≤ 8 then some (Sum.inl (σ, cs, ls, st)) else none) = some out := h
      split at h
      · rename_i hc
        cases h
        exact ⟨t0, q0, st, rfl, hc, rfl⟩
      · exact nomatch (show (none : Option Out) = some out from h)

theorem inv_75 {M : Nat → List LI} {σ : St} {a b c : Nat} {z : Int} {cs : List LI} {ls : Ls} {st0 : List Vl} {out : Out} (h : step M σ ((75, a, b, c, z) :: cs) ls st0 = some out) : ∃ (v0 : Int) (v1 : Int) (st : List Vl), st0 = vI v0 :: vI v1 :: st ∧ (stW st ≤ 8) ∧ out = .inl (σ, cs, ls, vI (iMax v1 v0) :: st) := by
  rcases st0 with _ | ⟨w, st⟩
  · exact nomatch (show (none : Option Out) = some out from h)
  rcases w with v0 | v0 | ⟨t0, q0⟩
  · skip
    rcases st with _ | ⟨w, st⟩
    · exact nomatch (show (none : Option Out) = some out from h)
    rcases w with v1 | v1 | ⟨t1, q1⟩
    · skip
      have h : (if stW st ≤ 8 then some (Sum.inl (σ, cs, ls, vI (iMax v1 v0) :: st)) else none) = some out := h
      split at h
      · rename_i hc
        cases h
        exact ⟨v0, v1, st, rfl, hc, rfl⟩
      · exact nomatch (show (none : Option Out) = some out from h)
    · exact nomatch (show (none : Option Out) = some out from h)
    · exact nomatch (show (none : Option Out) = some out from h)
  · exact nomatch (show (none : Option Out) = some out from h)
  · exact nomatch (show (none : Option Out) = some out from h)

theorem inv_76 {M : Nat → List LI} {σ : St} {a b c : Nat} {z : Int} {cs : List LI} {ls : Ls} {st0 : List Vl} {out : Out} (h : step M σ ((76, a, b, c, z) :: cs) ls st0 = some out) : ∃ (v0 : Int) (v1 : Int) (st : List Vl), st0 = vI v0 :: vI v1 :: st ∧ (stW st ≤ 8) ∧ out = .inl (σ, cs, ls, vI (iMin v1 v0) :: st) := by
  rcases st0 with _ | ⟨w, st⟩
  · exact nomatch (show (none : Option Out) = some out from h)
  rcases w with v0 | v0 | ⟨t0, q0⟩
  · skip
    rcases st with _ | ⟨w, st⟩
    · exact nomatch (show (none : Option Out) = some out from h)
    rcases w with v1 | v1 | ⟨t1, q1⟩
    · skip
      have h : (if stW st ≤ 8 then some (Sum.inl (σ, cs, ls, vI (iMin v1 v0) :: st)) else none) = some out := h
      split at h
      · rename_i hc
        cases h
        exact ⟨v0, v1, st, rfl, hc, rfl⟩
      · exact nomatch (show (none : Option Out) = some out from h)
    · exact nomatch (show (none : Option Out) = some out from h)
    · exact nomatch (show (none : Option Out) = some out from h)
  · exact nomatch (show (none : Option Out) = some out from h)
  · exact nomatch (show (none : Option Out) = some out from h)

theorem inv_1 {M : Nat → List LI} {σ : St} {a b c : Nat} {z : Int} {cs : List LI} {ls : Ls} {st : List Vl} {out : Out} (h : step M σ ((1, a, b, c, z) :: cs) ls st = some out) : ∃ x : Int, ls[a]? = some (some (vI x)) ∧ out = .inl (σ, cs, ls, vI x :: st) := by
  have h : s_load σ cs ls st 1 a = some out := h
  unfold s_load at h
  rcases e : ls[a]? with _ | _ | x | x | x <;> rw [e] at h
  · exact nomatch h
  · exact nomatch h
  · cases h
    exact ⟨x, rfl, rfl⟩
  · exact nomatch h
  · exact nomatch h
theorem inv_2 {M : Nat → List LI} {σ : St} {a b c : Nat} {z : Int} {cs : List LI} {ls : Ls} {st : List Vl} {out : Out} (h : step M σ ((2, a, b, c, z) :: cs) ls st = some out) : ∃ x : BitVec 64, ls[a]? = some (some (vL x)) ∧ out = .inl (σ, cs, ls, vL x :: st) := by
  have h : s_load σ cs ls st 2 a = some out := h
  unfold s_load at h
  rcases e : ls[a]? with _ | _ | x | x | x <;> rw [e] at h
  · exact nomatch h
  · exact nomatch h
  · exact nomatch h
  · cases h
    exact ⟨x, rfl, rfl⟩
  · exact nomatch h
theorem inv_3 {M : Nat → List LI} {σ : St} {a b c : Nat} {z : Int} {cs : List LI} {ls : Ls} {st : List Vl} {out : Out} (h : step M σ ((3, a, b, c, z) :: cs) ls st = some out) : ∃ (t : Nat) (q : Option Nat), ls[a]? = some (some (vR t q)) ∧ out = .inl (σ, cs, ls, vR t q :: st) := by
  have h : s_load σ cs ls st 3 a = some out := h
  unfold s_load at h
  rcases e : ls[a]? with _ | _ | x | x | ⟨t, q⟩ <;> rw [e] at h
  · exact nomatch h
  · exact nomatch h
  · exact nomatch h
  · exact nomatch h
  · cases h
    exact ⟨t, q, rfl, rfl⟩
theorem inv_35 {M : Nat → List LI} {σ : St} {a b c : Nat} {z : Int} {cs : List LI} {ls : Ls} {st : List Vl} {out : Out} (h : step M σ ((35, a, b, c, z) :: cs) ls st = some out) : ∃ x : Int, ls[a]? = some (some (vI x)) ∧ Rg (x + z) ∧ out = .inl (σ, cs, lSet1 ls a (vI (x + z)), st) := by
  have h : s_inc σ cs ls st a z = some out := h
  unfold s_inc at h
  rcases e : ls[a]? with _ | _ | x | x | x <;> rw [e] at h
  · exact nomatch h
  · exact nomatch h
  · dsimp only at h
    split at h
    · rename_i hc
      cases h
      exact ⟨x, rfl, (rgB_iff _).mp hc, rfl⟩
    · exact nomatch h
  · exact nomatch h
  · exact nomatch h
theorem inv_7 {M : Nat → List LI} {σ : St} {a b c : Nat} {z : Int} {cs : List LI} {ls : Ls} {st : List Vl} {out : Out} (h : step M σ ((7, a, b, c, z) :: cs) ls st = some out) : Rg z ∧ out = .inl (σ, cs, ls, vI z :: st) := by
  have h : (if rgB z = true then some (Sum.inl (σ, cs, ls, vI z :: st)) else none) = some out := h
  split at h
  · rename_i hc
    cases h
    exact ⟨(rgB_iff _).mp hc, rfl⟩
  · exact nomatch h
theorem inv_51 {M : Nat → List LI} {σ : St} {a b c : Nat} {z : Int} {cs : List LI} {ls : Ls} {st : List Vl} {out : Out} (h : step M σ ((51, a, b, c, z) :: cs) ls st = some out) : ∃ q, stA σ a = some q ∧ out = .inl (σ, cs, ls, vR 20 (some q) :: st) := by
  have h : (match stA σ a with | some q => some (Sum.inl (σ, cs, ls, vR 20 (some q) :: st)) | none => none) = some out := h
  cases e : stA σ a with
  | none => rw [e] at h; exact nomatch h
  | some q =>
    rw [e] at h
    cases h
    exact ⟨q, rfl, rfl⟩
theorem inv_66 {M : Nat → List LI} {σ : St} {a b c : Nat} {z : Int} {cs : List LI} {ls : Ls} {st : List Vl} {out : Out} (h : step M σ ((66, a, b, c, z) :: cs) ls st = some out) : out = .inl (mk σ a 0 c, cs, ls, vR a (some (nx σ)) :: st) := by
  have h : some (Sum.inl (mk σ a 0 c, cs, ls, vR a (some (nx σ)) :: st)) = some out := h
  cases h
  rfl
theorem inv_36 {M : Nat → List LI} {σ : St} {a b c : Nat} {z : Int} {cs : List LI} {ls : Ls} {st0 : List Vl} {out : Out} (h : step M σ ((36, a, b, c, z) :: cs) ls st0 = some out) : ∃ (y x : Int) (st : List Vl), st0 = vI y :: vI x :: st ∧ ((cmpB a x y = true ∧ out = .inl (σ, M b, ls, st)) ∨ (cmpB a x y = false ∧ out = .inl (σ, cs, ls, st))) := by
  rcases st0 with _ | ⟨y | y | y, _ | ⟨x | x | x, st⟩⟩
  · exact nomatch (show (none : Option Out) = some out from h)
  · exact nomatch (show (none : Option Out) = some out from h)
  · have h : (if cmpB a x y = true then some (Sum.inl (σ, M b, ls, st)) else some (Sum.inl (σ, cs, ls, st))) = some out := h
    split at h
    · rename_i hc
      cases h
      exact ⟨y, x, st, rfl, Or.inl ⟨hc, rfl⟩⟩
    · rename_i hc
      cases h
      exact ⟨y, x, st, rfl, Or.inr ⟨by simpa using hc, rfl⟩⟩
  all_goals exact nomatch (show (none : Option Out) = some out from h)
theorem inv_37 {M : Nat → List LI} {σ : St} {a b c : Nat} {z : Int} {cs : List LI} {ls : Ls} {st0 : List Vl} {out : Out} (h : step M σ ((37, a, b, c, z) :: cs) ls st0 = some out) : ∃ (x : Int) (st : List Vl), st0 = vI x :: st ∧ ((cmpB a x 0 = true ∧ out = .inl (σ, M b, ls, st)) ∨ (cmpB a x 0 = false ∧ out = .inl (σ, cs, ls, st))) := by
  rcases st0 with _ | ⟨x | x | x, st⟩
  · exact nomatch (show (none : Option Out) = some out from h)
  · have h : (if cmpB a x 0 = true then some (Sum.inl (σ, M b, ls, st)) else some (Sum.inl (σ, cs, ls, st))) = some out := h
    split at h
    · rename_i hc
      cases h
      exact ⟨x, st, rfl, Or.inl ⟨hc, rfl⟩⟩
    · rename_i hc
      cases h
      exact ⟨x, st, rfl, Or.inr ⟨by simpa using hc, rfl⟩⟩
  all_goals exact nomatch (show (none : Option Out) = some out from h)
theorem inv_38 {M : Nat → List LI} {σ : St} {a b c : Nat} {z : Int} {cs : List LI} {ls : Ls} {st0 : List Vl} {out : Out} (h : step M σ ((38, a, b, c, z) :: cs) ls st0 = some out) : ∃ (t : Nat) (q : Option Nat) (st : List Vl), st0 = vR t q :: st ∧ ((q = none ∧ out = .inl (σ, M b, ls, st)) ∨ (q ≠ none ∧ out = .inl (σ, cs, ls, st))) := by
  rcases st0 with _ | ⟨x | x | ⟨t, _ | q⟩, st⟩
  · exact nomatch (show (none : Option Out) = some out from h)
  · exact nomatch (show (none : Option Out) = some out from h)
  · exact nomatch (show (none : Option Out) = some out from h)
  · have h : some (Sum.inl (σ, M b, ls, st)) = some out := h
    cases h
    exact ⟨t, none, st, rfl, Or.inl ⟨rfl, rfl⟩⟩
  · have h : some (Sum.inl (σ, cs, ls, st)) = some out := h
    cases h
    exact ⟨t, some q, st, rfl, Or.inr ⟨by simp, rfl⟩⟩
theorem inv_39 {M : Nat → List LI} {σ : St} {a b c : Nat} {z : Int} {cs : List LI} {ls : Ls} {st0 : List Vl} {out : Out} (h : step M σ ((39, a, b, c, z) :: cs) ls st0 = some out) : ∃ (t : Nat) (q : Option Nat) (st : List Vl), st0 = vR t q :: st ∧ ((q = none ∧ out = .inl (σ, cs, ls, st)) ∨ (q ≠ none ∧ out = .inl (σ, M b, ls, st))) := by
  rcases st0 with _ | ⟨x | x | ⟨t, _ | q⟩, st⟩
  · exact nomatch (show (none : Option Out) = some out from h)
  · exact nomatch (show (none : Option Out) = some out from h)
  · exact nomatch (show (none : Option Out) = some out from h)
  · have h : some (Sum.inl (σ, cs, ls, st)) = some out := h
    cases h
    exact ⟨t, none, st, rfl, Or.inl ⟨rfl, rfl⟩⟩
  · have h : some (Sum.inl (σ, M b, ls, st)) = some out := h
    cases h
    exact ⟨t, some q, st, rfl, Or.inr ⟨by simp, rfl⟩⟩
theorem inv_41 {M : Nat → List LI} {σ : St} {a b c : Nat} {z : Int} {cs : List LI} {ls : Ls} {st0 : List Vl} {out : Out} (h : step M σ ((41, a, b, c, z) :: cs) ls st0 = some out) : ∃ (x : Int) (st : List Vl), st0 = vI x :: st ∧ (((0 ≤ x ∧ x < a) ∧ out = .inl (σ, M (100000 + x.toNat), ls, st)) ∨ (¬ (0 ≤ x ∧ x < a) ∧ out = .inl (σ, M b, ls, st))) := by
  rcases st0 with _ | ⟨x | x | x, st⟩
  · exact nomatch (show (none : Option Out) = some out from h)
  · have h : (if 0 ≤ x ∧ x < (a : Int) then some (Sum.inl (σ, M (100000 + x.toNat), ls, st)) else some (Sum.inl (σ, M b, ls, st))) = some out := h
    split at h
    · rename_i hc
      cases h
      exact ⟨x, st, rfl, Or.inl ⟨hc, rfl⟩⟩
    · rename_i hc
      cases h
      exact ⟨x, st, rfl, Or.inr ⟨hc, rfl⟩⟩
  all_goals exact nomatch (show (none : Option Out) = some out from h)
theorem inv_69 {M : Nat → List LI} {σ : St} {a b c : Nat} {z : Int} {cs : List LI} {ls : Ls} {st0 : List Vl} {out : Out} (h : step M σ ((69, a, b, c, z) :: cs) ls st0 = some out) : ∃ (n dp sp : Int) (d q : Nat) (st : List Vl), st0 = vI n :: vI dp :: vR 14 (some d) :: vI sp :: vR 14 (some q) :: st ∧ (0 ≤ n ∧ 0 ≤ dp ∧ 0 ≤ sp ∧ sp + n ≤ (ln σ q : Int) ∧ dp + n ≤ (ln σ d : Int)) ∧ stW st ≤ 8 ∧ out = .inl (aI σ d (cpyF (gI σ q) (gI σ d) sp.toNat dp.toNat n.toNat), cs, ls, st) := by
  replace h : s_cpy σ cs ls st0 69 = some out := h
  unfold s_cpy at h
  split at h
  · split at h
    · rename_i hc
      rw [if_pos rfl] at h
      split at h
      · rename_i ht
        obtain ⟨rfl, rfl⟩ := ht
        cases h
        exact ⟨_, _, _, _, _, _, rfl, ⟨hc.1, hc.2.1, hc.2.2.1, hc.2.2.2.1, hc.2.2.2.2.1⟩, hc.2.2.2.2.2, rfl⟩
      · exact nomatch h
    · exact nomatch h
  · exact nomatch h
theorem inv_70 {M : Nat → List LI} {σ : St} {a b c : Nat} {z : Int} {cs : List LI} {ls : Ls} {st0 : List Vl} {out : Out} (h : step M σ ((70, a, b, c, z) :: cs) ls st0 = some out) : ∃ (n dp sp : Int) (d q : Nat) (st : List Vl), st0 = vI n :: vI dp :: vR 15 (some d) :: vI sp :: vR 15 (some q) :: st ∧ (0 ≤ n ∧ 0 ≤ dp ∧ 0 ≤ sp ∧ sp + n ≤ (ln σ q : Int) ∧ dp + n ≤ (ln σ d : Int)) ∧ stW st ≤ 8 ∧ out = .inl (aL σ d (cpyF (gL σ q) (gL σ d) sp.toNat dp.toNat n.toNat), cs, ls, st) := by
  replace h : s_cpy σ cs ls st0 70 = some out := h
  unfold s_cpy at h
  split at h
  · split at h
    · rename_i hc
      rw [if_neg (by decide)] at h
      split at h
      · rename_i ht
        obtain ⟨rfl, rfl⟩ := ht
        cases h
        exact ⟨_, _, _, _, _, _, rfl, ⟨hc.1, hc.2.1, hc.2.2.1, hc.2.2.2.1, hc.2.2.2.2.1⟩, hc.2.2.2.2.2, rfl⟩
      · exact nomatch h
    · exact nomatch h
  · exact nomatch h
theorem inv_67 {M : Nat → List LI} {σ : St} {a b c : Nat} {z : Int} {cs : List LI} {ls : Ls} {st0 : List Vl} {out : Out} (h : step M σ ((67, a, b, c, z) :: cs) ls st0 = some out) : ∃ (as st : List Vl), st0 = as.reverse ++ st ∧ as.length = b ∧ stW st ≤ 8 ∧ (2 * stW as : Int) ≤ z ∧ out = .inr (.inl (a, as, cs, st)) ∧ (z % 2 = 0 ∨ ∃ (q : Nat) (as0 : List Vl), as = vR c (some q) :: as0) := by
  replace h : s_inv cs st0 a b c z = some out := h
  unfold s_inv takeA at h
  by_cases hb : b ≤ st0.length
  · rw [if_pos hb] at h
    dsimp only at h
    split at h
    · rename_i hw
      have e1 : st0 = ((st0.take b).reverse).reverse ++ st0.drop b := by rw [List.reverse_reverse, List.take_append_drop]
      have e2 : ((st0.take b).reverse).length = b := by simp [hb]
      split at h
      · rename_i hz
        cases h
        exact ⟨_, _, e1, e2, hw.1, hw.2, rfl, Or.inl hz⟩
      · split at h
        · rename_i q as0 hq
          split at h
          · rename_i hc
            subst hc
            cases h
            exact ⟨_, _, e1, e2, hw.1, hw.2, rfl, Or.inr ⟨_, _, hq⟩⟩
          · exact nomatch h
        · exact nomatch h
    · exact nomatch h
  · rw [if_neg hb] at h
    exact nomatch h
theorem inv_71 {M : Nat → List LI} {σ : St} {a b c : Nat} {z : Int} {cs : List LI} {ls : Ls} {st : List Vl} {out : Out} (h : step M σ ((71, a, b, c, z) :: cs) ls st = some out) : ∃ v : Int, st = [vI v] ∧ (a = 0 ∨ (0 ≤ v ∧ v ≤ 1)) ∧ out = .inr (.inr [vI v]) := by
  have h : s_ret st 71 a = some out := h
  rcases st with _ | ⟨x | x | x, _ | ⟨y, st⟩⟩ <;> first | exact nomatch (show (none : Option Out) = some out from h) | skip
  have h : (if a = 0 ∨ (0 ≤ x ∧ x ≤ 1) then some (Sum.inr (Sum.inr [vI x])) else none) = some out := h
  split at h
  · rename_i hc
    cases h
    exact ⟨x, rfl, hc, rfl⟩
  · exact nomatch h
theorem inv_72 {M : Nat → List LI} {σ : St} {a b c : Nat} {z : Int} {cs : List LI} {ls : Ls} {st : List Vl} {out : Out} (h : step M σ ((72, a, b, c, z) :: cs) ls st = some out) : ∃ v : BitVec 64, st = [vL v] ∧ out = .inr (.inr [vL v]) := by
  have h : s_ret st 72 a = some out := h
  rcases st with _ | ⟨x | x | x, _ | ⟨y, st⟩⟩ <;> first | exact nomatch (show (none : Option Out) = some out from h) | skip
  have h : some (Sum.inr (Sum.inr [vL x])) = some out := h
  cases h
  exact ⟨x, rfl, rfl⟩
theorem inv_73 {M : Nat → List LI} {σ : St} {a b c : Nat} {z : Int} {cs : List LI} {ls : Ls} {st : List Vl} {out : Out} (h : step M σ ((73, a, b, c, z) :: cs) ls st = some out) : ∃ (t : Nat) (q : Option Nat), st = [vR t q] ∧ out = .inr (.inr [vR t q]) := by
  have h : s_ret st 73 a = some out := h
  rcases st with _ | ⟨x | x | ⟨t, q⟩, _ | ⟨y, st⟩⟩ <;> first | exact nomatch (show (none : Option Out) = some out from h) | skip
  have h : some (Sum.inr (Sum.inr [vR t q])) = some out := h
  cases h
  exact ⟨t, q, rfl, rfl⟩
theorem inv_74 {M : Nat → List LI} {σ : St} {a b c : Nat} {z : Int} {cs : List LI} {ls : Ls} {st : List Vl} {out : Out} (h : step M σ ((74, a, b, c, z) :: cs) ls st = some out) : st = [] ∧ out = .inr (.inr []) := by
  have h : s_ret st 74 a = some out := h
  rcases st with _ | ⟨x | x | x, _ | ⟨y, st⟩⟩
  · have h : some (Sum.inr (Sum.inr [])) = some out := h
    cases h
    exact ⟨rfl, rfl⟩
  all_goals exact nomatch (show (none : Option Out) = some out from h)
end
section
/-! a run makes cells and changes no old one's type -/
def Mn (σ σ' : St) : Prop := nx σ ≤ nx σ' ∧ sl σ ≤ sl σ' ∧ ∀ b, b < nx σ → tg σ' b = tg σ b
theorem Mn.rfl' {σ : St} : Mn σ σ := ⟨Nat.le_refl _, Nat.le_refl _, fun _ _ => rfl⟩
theorem Mn.trans {σ σ1 σ2 : St} (h : Mn σ σ1) (h2 : Mn σ1 σ2) : Mn σ σ2 := ⟨Nat.le_trans h.1 h2.1, Nat.le_trans h.2.1 h2.2.1, fun b hb => (h2.2.2 b (Nat.lt_of_lt_of_le hb h.1)).trans (h.2.2 b hb)⟩
theorem Mn.mk' {σ : St} {t n s : Nat} : Mn σ (mk σ t n s) := ⟨Nat.le_succ _, Nat.le_add_right _ _, fun b hb => up1_ne (by omega)⟩
theorem Mn.mkN' {σ : St} : ∀ n, Mn σ (mkN σ n)
  | 0 => Mn.rfl'
  | n + 1 => (Mn.mkN' n).trans Mn.mk'
theorem Mn.mkX' {σ : St} (n : Nat) : Mn σ (mkX σ n) := by
  have h := (Mn.mk' (σ := σ) (t := 19) (n := n) (s := n)).trans (Mn.mkN' n)
  exact ⟨h.1, h.2.1, h.2.2⟩
theorem Mn.mkM' {σ : St} : Mn σ (mkM σ) := Mn.mkX' 20
theorem oN_mn2 {σ σ1 σ' : St} {cs cs' : List LI} {ls ls' : Ls} {st st' : List Vl} (h : oN σ1 cs ls st = some (.inl (σ', cs', ls', st'))) (hm : Mn σ σ1) : Mn σ σ' := by
  cases h
  exact hm
theorem oN_mn {σ σ1 σ' : St} {cs cs' : List LI} {ls ls' : Ls} {st st' : List Vl} (hm : Mn σ σ1) (h : oN σ1 cs ls st = some (.inl (σ', cs', ls', st'))) : Mn σ σ' := by
  cases h
  exact hm
set_option maxRecDepth 100000 in
theorem mn_load {σ σ' : St} {cs cs' : List LI} {ls ls' : Ls} {st st' : List Vl} {op a : Nat} (h : s_load σ cs ls st op a = some (.inl (σ', cs', ls', st'))) : Mn σ σ' := by
  unfold s_load at h
  repeat' split at h
  all_goals first | exact oN_mn2 h Mn.rfl' | (cases h; done)
set_option maxRecDepth 100000 in
theorem mn_store {σ σ' : St} {cs cs' : List LI} {ls ls' : Ls} {st st' : List Vl} {op a : Nat} (h : s_store σ cs ls st op a = some (.inl (σ', cs', ls', st'))) : Mn σ σ' := by
  unfold s_store at h
  repeat' split at h
  all_goals first | exact oN_mn2 h Mn.rfl' | (cases h; done)
set_option maxRecDepth 100000 in
theorem mn_ar {σ σ' : St} {cs cs' : List LI} {ls ls' : Ls} {st st' : List Vl} {op : Nat} (h : s_ar σ cs ls st op = some (.inl (σ', cs', ls', st'))) : Mn σ σ' := by
  unfold s_ar at h
  repeat' split at h
  all_goals first | exact oN_mn2 h Mn.rfl' | (cases h; done)
set_option maxRecDepth 100000 in
theorem mn_lar {σ σ' : St} {cs cs' : List LI} {ls ls' : Ls} {st st' : List Vl} {op : Nat} (h : s_lar σ cs ls st op = some (.inl (σ', cs', ls', st'))) : Mn σ σ' := by
  unfold s_lar at h
  repeat' split at h
  all_goals first | exact oN_mn2 h Mn.rfl' | (cases h; done)
set_option maxRecDepth 100000 in
theorem mn_lsh {σ σ' : St} {cs cs' : List LI} {ls ls' : Ls} {st st' : List Vl} {op : Nat} (h : s_lsh σ cs ls st op = some (.inl (σ', cs', ls', st'))) : Mn σ σ' := by
  unfold s_lsh at h
  repeat' split at h
  all_goals first | exact oN_mn2 h Mn.rfl' | (cases h; done)
set_option maxRecDepth 100000 in
theorem mn_un {σ σ' : St} {cs cs' : List LI} {ls ls' : Ls} {st st' : List Vl} {op : Nat} (h : s_un σ cs ls st op = some (.inl (σ', cs', ls', st'))) : Mn σ σ' := by
  unfold s_un at h
  repeat' split at h
  all_goals first | exact oN_mn2 h Mn.rfl' | (cases h; done)
set_option maxRecDepth 100000 in
theorem mn_inc {σ σ' : St} {cs cs' : List LI} {ls ls' : Ls} {st st' : List Vl} {a : Nat} {z : Int} (h : s_inc σ cs ls st a z = some (.inl (σ', cs', ls', st'))) : Mn σ σ' := by
  unfold s_inc at h
  repeat' split at h
  all_goals first | exact oN_mn2 h Mn.rfl' | (cases h; done)
set_option maxRecDepth 100000 in
theorem mn_br {σ σ' : St} {cs cs' : List LI} {ls ls' : Ls} {st st' : List Vl} {M : Nat → List LI} {op a b : Nat} (h : s_br M σ cs ls st op a b = some (.inl (σ', cs', ls', st'))) : Mn σ σ' := by
  unfold s_br at h
  repeat' split at h
  all_goals first | exact oN_mn2 h Mn.rfl' | (cases h; done)
set_option maxRecDepth 100000 in
theorem mn_fld {σ σ' : St} {cs cs' : List LI} {ls ls' : Ls} {st st' : List Vl} {op a b c : Nat} (h : s_fld σ cs ls st op a b c = some (.inl (σ', cs', ls', st'))) : Mn σ σ' := by
  unfold s_fld at h
  repeat' split at h
  all_goals first | exact oN_mn2 h ⟨Nat.le_refl _, Nat.le_refl _, fun _ _ => rfl⟩ | (cases h; done)
set_option maxRecDepth 100000 in
theorem mn_arr {σ σ' : St} {cs cs' : List LI} {ls ls' : Ls} {st st' : List Vl} {op a c : Nat} (h : s_arr σ cs ls st op a c = some (.inl (σ', cs', ls', st'))) : Mn σ σ' := by
  unfold s_arr at h
  by_cases e52 : op = 52
  · rw [if_pos e52] at h
    repeat' split at h
    all_goals first | exact oN_mn2 h ⟨Nat.le_refl _, Nat.le_refl _, fun _ _ => rfl⟩ | (cases h; done)
  rw [if_neg e52] at h
  by_cases e53 : op = 53
  · rw [if_pos e53] at h
    repeat' split at h
    all_goals first | exact oN_mn2 h ⟨Nat.le_refl _, Nat.le_refl _, fun _ _ => rfl⟩ | (cases h; done)
  rw [if_neg e53] at h
  by_cases e54 : op = 54
  · rw [if_pos e54] at h
    repeat' split at h
    all_goals first | exact oN_mn2 h ⟨Nat.le_refl _, Nat.le_refl _, fun _ _ => rfl⟩ | (cases h; done)
  rw [if_neg e54] at h
  by_cases e55 : op = 55
  · rw [if_pos e55] at h
    repeat' split at h
    all_goals first | exact oN_mn2 h ⟨Nat.le_refl _, Nat.le_refl _, fun _ _ => rfl⟩ | (cases h; done)
  rw [if_neg e55] at h
  by_cases e56 : op = 56
  · rw [if_pos e56] at h
    repeat' split at h
    all_goals first | exact oN_mn2 h ⟨Nat.le_refl _, Nat.le_refl _, fun _ _ => rfl⟩ | (cases h; done)
  rw [if_neg e56] at h
  by_cases e57 : op = 57
  · rw [if_pos e57] at h
    repeat' split at h
    all_goals first | exact oN_mn2 h ⟨Nat.le_refl _, Nat.le_refl _, fun _ _ => rfl⟩ | (cases h; done)
  rw [if_neg e57] at h
  by_cases e58 : op = 58
  · rw [if_pos e58] at h
    repeat' split at h
    all_goals first | exact oN_mn2 h ⟨Nat.le_refl _, Nat.le_refl _, fun _ _ => rfl⟩ | (cases h; done)
  rw [if_neg e58] at h
  by_cases e59 : op = 59
  · rw [if_pos e59] at h
    repeat' split at h
    all_goals first | exact oN_mn2 h ⟨Nat.le_refl _, Nat.le_refl _, fun _ _ => rfl⟩ | (cases h; done)
  rw [if_neg e59] at h
  by_cases e60 : op = 60
  · rw [if_pos e60] at h
    repeat' split at h
    all_goals first | exact oN_mn2 h ⟨Nat.le_refl _, Nat.le_refl _, fun _ _ => rfl⟩ | (cases h; done)
  rw [if_neg e60] at h
  by_cases e61 : op = 61
  · rw [if_pos e61] at h
    repeat' split at h
    all_goals first | exact oN_mn2 h ⟨Nat.le_refl _, Nat.le_refl _, fun _ _ => rfl⟩ | (cases h; done)
  rw [if_neg e61] at h
  by_cases e62 : op = 62
  · rw [if_pos e62] at h
    repeat' split at h
    all_goals first | exact oN_mn2 h ⟨Nat.le_refl _, Nat.le_refl _, fun _ _ => rfl⟩ | (cases h; done)
  rw [if_neg e62] at h
  cases h
set_option maxRecDepth 100000 in
theorem mn_new {σ σ' : St} {cs cs' : List LI} {ls ls' : Ls} {st st' : List Vl} {op a c : Nat} (h : s_new σ cs ls st op a c = some (.inl (σ', cs', ls', st'))) : Mn σ σ' := by
  unfold s_new at h
  repeat' split at h
  all_goals first | exact oN_mn2 h Mn.mk' | (cases h; done)
set_option maxRecDepth 100000 in
theorem mn_cpy {σ σ' : St} {cs cs' : List LI} {ls ls' : Ls} {st st' : List Vl} {op : Nat} (h : s_cpy σ cs ls st op = some (.inl (σ', cs', ls', st'))) : Mn σ σ' := by
  unfold s_cpy at h
  repeat' split at h
  all_goals first | exact oN_mn2 h ⟨Nat.le_refl _, Nat.le_refl _, fun _ _ => rfl⟩ | (cases h; done)
set_option maxRecDepth 100000 in
theorem mn_mm {σ σ' : St} {cs cs' : List LI} {ls ls' : Ls} {st st' : List Vl} {op : Nat} (h : s_mm σ cs ls st op = some (.inl (σ', cs', ls', st'))) : Mn σ σ' := by
  unfold s_mm at h
  repeat' split at h
  all_goals first | exact oN_mn2 h Mn.rfl' | (cases h; done)
set_option maxRecDepth 100000 in
theorem mn_inv {σ' : St} {cs' : List LI} {ls' : Ls} {st st' : List Vl} {cs0 : List LI} {a b c : Nat} {z : Int} (h : s_inv cs0 st a b c z = some (.inl (σ', cs', ls', st'))) : False := by
  unfold s_inv at h
  repeat' split at h
  all_goals exact nomatch h
set_option maxRecDepth 100000 in
theorem mn_ret {σ' : St} {cs' : List LI} {ls' : Ls} {st st' : List Vl} {op a : Nat} (h : s_ret st op a = some (.inl (σ', cs', ls', st'))) : False := by
  unfold s_ret at h
  repeat' split at h
  all_goals exact nomatch h
set_option maxRecDepth 100000 in
theorem step_mn {M : Nat → List LI} {σ σ' : St} {cs cs' : List LI} {ls ls' : Ls} {st st' : List Vl} (h : step M σ cs ls st = some (.inl (σ', cs', ls', st'))) : Mn σ σ' := by
  rcases cs with _ | ⟨⟨op, a, b, c, z⟩, cs⟩
  · cases h
  · replace h : (if op = 0 then oN σ (M a) ls st else _) = _ := h
    by_cases e0 : op = 0
    · rw [if_pos e0] at h
      exact oN_mn Mn.rfl' h
    rw [if_neg e0] at h
    by_cases e1 : op ≤ 3
    · rw [if_pos e1] at h
      exact mn_load h
    rw [if_neg e1] at h
    by_cases e2 : op ≤ 6
    · rw [if_pos e2] at h
      exact mn_store h
    rw [if_neg e2] at h
    by_cases e3 : op = 7
    · rw [if_pos e3] at h
      split at h
      · exact oN_mn Mn.rfl' h
      · cases h
    rw [if_neg e3] at h
    by_cases e4 : op = 8
    · rw [if_pos e4] at h
      exact oN_mn Mn.rfl' h
    rw [if_neg e4] at h
    by_cases e5 : op = 9
    · rw [if_pos e5] at h
      exact oN_mn Mn.rfl' h
    rw [if_neg e5] at h
    by_cases e6 : op = 24
    · rw [if_pos e6] at h
      exact mn_un h
    rw [if_neg e6] at h
    by_cases e7 : op ≤ 21
    · rw [if_pos e7] at h
      exact mn_ar h
    rw [if_neg e7] at h
    by_cases e8 : op ≤ 27 ∨ op = 31
    · rw [if_pos e8] at h
      exact mn_lar h
    rw [if_neg e8] at h
    by_cases e9 : op ≤ 30
    · rw [if_pos e9] at h
      exact mn_lsh h
    rw [if_neg e9] at h
    by_cases e10 : op ≤ 34
    · rw [if_pos e10] at h
      exact mn_un h
    rw [if_neg e10] at h
    by_cases e11 : op = 35
    · rw [if_pos e11] at h
      exact mn_inc h
    rw [if_neg e11] at h
    by_cases e12 : op ≤ 39
    · rw [if_pos e12] at h
      exact mn_br h
    rw [if_neg e12] at h
    by_cases e13 : op = 40
    · rw [if_pos e13] at h
      exact oN_mn Mn.rfl' h
    rw [if_neg e13] at h
    by_cases e14 : op = 41
    · rw [if_pos e14] at h
      exact mn_br h
    rw [if_neg e14] at h
    by_cases e15 : op ≤ 44
    · rw [if_pos e15] at h
      exact mn_un h
    rw [if_neg e15] at h
    by_cases e16 : op ≤ 50
    · rw [if_pos e16] at h
      exact mn_fld h
    rw [if_neg e16] at h
    by_cases e17 : op = 51
    · rw [if_pos e17] at h
      split at h
      · exact oN_mn Mn.rfl' h
      · cases h
    rw [if_neg e17] at h
    by_cases e18 : op ≤ 62
    · rw [if_pos e18] at h
      exact mn_arr h
    rw [if_neg e18] at h
    by_cases e19 : op = 65
    · rw [if_pos e19] at h
      repeat' split at h
      all_goals first | exact oN_mn Mn.mkM' h | (cases h; done)
    rw [if_neg e19] at h
    by_cases e20 : op ≤ 66
    · rw [if_pos e20] at h
      exact mn_new h
    rw [if_neg e20] at h
    by_cases e21 : op = 67
    · rw [if_pos e21] at h
      exact (mn_inv h).elim
    rw [if_neg e21] at h
    by_cases e22 : op = 68
    · rw [if_pos e22] at h
      repeat' split at h
      all_goals first | exact oN_mn Mn.rfl' h | (cases h; done)
    rw [if_neg e22] at h
    by_cases e23 : op ≤ 70
    · rw [if_pos e23] at h
      exact mn_cpy h
    rw [if_neg e23] at h
    by_cases e24 : op ≤ 74
    · rw [if_pos e24] at h
      exact (mn_ret h).elim
    rw [if_neg e24] at h
    exact mn_mm h
theorem exec_mn : ∀ {n d : Nat} {M : Nat → List LI} {σ : St} {cs : List LI} {ls : Ls} {st : List Vl} {σ' : St} {r : List Vl}, exec mt n d M σ cs ls st = some (σ', r) → Mn σ σ'
  | 0, _, _, _, _, _, _, _, _, h => by simp [exec] at h
  | n + 1, d, M, σ, cs, ls, st, σ', r, h => by
    rw [exec] at h
    cases e : step M σ cs ls st with
    | none => rw [e] at h; cases h
    | some o =>
      rw [e] at h
      rcases o with ⟨σ1, cs1, ls1, st1⟩ | ⟨i, as, cs1, st1⟩ | q
      · exact (step_mn e).trans (exec_mn h)
      · dsimp only at h
        cases d with
        | zero => cases h
        | succ d1 =>
          dsimp only at h
          cases e2 : exec mt n d1 (mt i).2 σ ((mt i).2 0) (entL as (mt i).1) [] with
          | none => rw [e2] at h; cases h
          | some q =>
            rw [e2] at h
            exact (exec_mn e2).trans (exec_mn h)
      · cases h
        exact Mn.rfl'
theorem vr_outer (c : ClassId) (N h0 : Nat) : ∀ i : Nat, Jvm.Free.Multi.outerC c N h0 i = arrV c N (fun j => va_rf (if j < i then some (h0 + 1 + j) else none))
  | 0 => by
    show ({ cls := c, slots := Array.replicate N .null, vm := .none } : Cell) = _
    rw [arrV_new]
    refine congrArg (arrV c N) (funext fun j => ?_)
    simp [va_rf]
  | i + 1 => by
    show (Jvm.Free.Multi.outerC c N h0 i).setSlot i (.ref (h0 + 1 + i)) = _
    rw [vr_outer c N h0 i, arrV_store]
    refine congrArg (arrV c N) (funext fun j => ?_)
    by_cases e : j = i
    · subst e
      simp [updV, va_rf]
    · by_cases h : j < i
      · simp [updV, e, h, Nat.lt_succ_of_lt h]
      · simp [updV, e, h, show ¬ j < i + 1 by omega]
/-! new long[20][0] -/
def phN (x : Cell) (H : Heap) : Nat → Heap
  | 0 => H
  | n + 1 => (phN x H n).push x
theorem phN_size (x : Cell) (H : Heap) : ∀ n, (phN x H n).size = H.size + n
  | 0 => rfl
  | n + 1 => by rw [phN, Array.size_push, phN_size x H n]; omega
theorem phN_get (x : Cell) (H : Heap) : ∀ n q, (phN x H n)[q]? = if q < H.size then H[q]? else if q < H.size + n then some x else none
  | 0, q => by
    rw [phN]
    by_cases h : q < H.size
    · rw [if_pos h]
    · rw [if_neg h, if_neg (by omega), Array.getElem?_eq_none (by omega)]
  | n + 1, q => by
    rw [phN, Array.getElem?_push, phN_size, phN_get x H n q]
    by_cases h : q < H.size
    · rw [if_neg (by omega), if_pos h, if_pos h]
    · by_cases e : q = H.size + n
      · rw [if_pos e, if_neg h, if_pos (by omega)]
      · rw [if_neg e, if_neg h, if_neg h]
        by_cases h2 : q < H.size + n
        · rw [if_pos h2, if_pos (by omega)]
        · rw [if_neg h2, if_neg (by omega)]
theorem mkN_nx (σ : St) : ∀ n, nx (mkN σ n) = nx σ + n
  | 0 => rfl
  | n + 1 => by
    show nx (mkN σ n) + 1 = _
    rw [mkN_nx σ n]; omega
theorem mkN_sl (σ : St) : ∀ n, sl (mkN σ n) = sl σ
  | 0 => rfl
  | n + 1 => by
    show sl (mkN σ n) + 0 = _
    rw [mkN_sl σ n]; rfl
theorem mkN_tg (σ : St) : ∀ n b, tg (mkN σ n) b = if nx σ ≤ b ∧ b < nx σ + n then 15 else tg σ b
  | 0, b => by rw [if_neg (by omega)]; rfl
  | n + 1, b => by
    show up1 (tg (mkN σ n)) (nx (mkN σ n)) 15 b = _
    rw [mkN_nx]
    by_cases e : b = nx σ + n
    · rw [e, up1_at, if_pos (by omega)]
    · rw [up1_ne e, mkN_tg σ n b]
      by_cases h : nx σ ≤ b ∧ b < nx σ + n
      · rw [if_pos h, if_pos (by omega)]
      · rw [if_neg h, if_neg (by omega)]
theorem mkN_old (σ : St) : ∀ n b, b < nx σ → gR (mkN σ n) b = gR σ b ∧ ln (mkN σ n) b = ln σ b
  | 0, b, _ => ⟨rfl, rfl⟩
  | n + 1, b, h => by
    have e : b ≠ nx (mkN σ n) := by rw [mkN_nx]; omega
    refine ⟨?_, ?_⟩
    · show up1 (gR (mkN σ n)) _ _ b = _
      rw [up1_ne e]
      exact (mkN_old σ n b h).1
    · show up1 (ln (mkN σ n)) _ _ b = _
      rw [up1_ne e]
      exact (mkN_old σ n b h).2
theorem Rel.mkN' {G : Gc} {σ : St} {H : Heap} (h : Rel G σ H) : ∀ n, Rel G (mkN σ n) (phN (arrV (gA G 15) 0 (fun _ => .long 0)) H n)
  | 0 => h
  | n + 1 => by
    have ih := Rel.mkN' h n
    refine ih.mk' (by decide) (by rw [phN, Array.size_push]) (fun q hq => by rw [phN, Array.getElem?_push, if_neg (by omega)]) (fun h => absurd h (by decide)) (fun _ => ⟨by decide, ?_⟩)
    rw [phN, Array.getElem?_push, if_pos ih.1.1.symm]
    rfl
theorem Rel.mkX' {G : Gc} {σ : St} {H F : Heap} (n : Nat) (hn : n < 2147483648) (hR : Rel G σ H) (f1 : F.size = H.size + 1 + n) (f2 : F[H.size]? = some (arrV (gA G 19) n (fun j => va_rf (if j < n then some (H.size + 1 + j) else none)))) (hold : ∀ x : Nat, x < H.size → F[x]? = H[x]?) (hrow : ∀ j : Nat, j < n → F[H.size + 1 + j]? = some (arrV (gA G 15) 0 (fun _ => .long 0))) : Rel G (mkX σ n) F ∧ tg (mkX σ n) (nx σ) = 19 ∧ nx (mkX σ n) = nx σ + 1 + n ∧ sl (mkX σ n) = sl σ + n := by
  have hz := hR.1.1
  have R1 : Rel G (mk σ 19 n n) (H.push (arrV (gA G 19) n (fun _ => .null))) := hR.mk' (by decide) (by simp) (fun q hq => by rw [Array.getElem?_push, if_neg (by omega)]) (fun h => absurd h (by decide)) (fun _ => ⟨hn, by
    rw [← hz, Array.getElem?_push, if_pos rfl]
    congr 2
    funext j
    have e2 : gR (mk σ 19 n n) (nx σ) = fun _ => none := up1_at
    show _ = va_rf (gR (mk σ 19 n n) H.size j)
    rw [hz, e2]
    rfl⟩)
  have R2 := R1.mkN' n
  have htg : tg (mkN (mk σ 19 n n) n) (nx σ) = 19 := by
    rw [mkN_tg, if_neg (by show ¬ (nx σ + 1 ≤ nx σ ∧ _); omega)]
    exact up1_at
  have htg2 : ∀ j, j < n → tg (mkN (mk σ 19 n n) n) (nx σ + 1 + j) = 15 := fun j hj => by
    rw [mkN_tg, if_pos]
    show nx σ + 1 ≤ nx σ + 1 + j ∧ nx σ + 1 + j < nx σ + 1 + n
    omega
  have hln : ln (mkN (mk σ 19 n n) n) (nx σ) = n := by
    rw [(mkN_old _ n (nx σ) (Nat.lt_succ_self _)).2]
    exact up1_at
  refine ⟨?_, htg, mkN_nx (mk σ 19 n n) n, mkN_sl (mk σ 19 n n) n⟩
  refine R2.at (a := nx σ) rfl rfl rfl (fun b e => rfl) (fun b e => rfl) (fun b e => up1_ne e) hR.1.2.1 ?_ (fun q hq => ?_) (fun h => by rw [htg] at h; omega) (fun _ _ => ?_) (fun j => R2.2.2.2.2.2.1 _ j) (fun j u hj b hb => ?_)
  · rw [f1, phN_size]
    simp
  · rw [phN_get]
    simp only [Array.size_push]
    by_cases h1 : q < H.size + 1
    · rw [if_pos h1, Array.getElem?_push, if_neg (by omega), hold q (by omega)]
    · rw [if_neg h1]
      by_cases h2 : q < H.size + 1 + n
      · rw [if_pos h2]
        have := hrow (q - (H.size + 1)) (by omega)
        rw [show H.size + 1 + (q - (H.size + 1)) = q by omega] at this
        exact this
      · rw [if_neg h2, Array.getElem?_eq_none (by omega)]
  · rw [htg, hln, ← hz, f2]
    congr 2
    funext j
    show _ = va_rf (up1 (gR (mkN (mk σ 19 n n) n)) (nx σ) (fun k => if k < n then some (nx σ + 1 + k) else none) H.size j)
    rw [hz, up1_at]
  · rw [htg] at hj
    cases hj
    have hb : up1 (gR (mkN (mk σ 19 n n) n)) (nx σ) (fun k => if k < n then some (nx σ + 1 + k) else none) (nx σ) j = some b := hb
    rw [up1_at] at hb
    split at hb
    · rename_i hjn
      cases hb
      exact htg2 j hjn
    · cases hb
section KM
variable {p : Program} {l : Launch} {e : Env} {R : Room} {s : State} {m : MethodId} {args : Array Value} {below : List Frame} {meth : Method} {c : Code} {Q : State → Prop} {G : Gc} {n0 s0 own : Nat} {σ : St} {ls : Ls} {st : List Vl} {pc : Nat}

theorem k_multi (C : Cx G own p s m args) (hd : decode c.code pc = .ok (.multianewarray 11 2, 4)) (ho : own = 2) (hn0 : n0 ≤ nx σ) (hs0 : s0 ≤ sl σ) (hc : nx σ - n0 + 21 ≤ R.cells) (hs : sl σ - s0 + 20 ≤ R.slots)
    (k : KW p l e R s m args below meth c Q G n0 s0 (mkM σ) ls (vR 19 (some (nx σ)) :: st) (pc + 4)) : KW p l e R s m args below meth c Q G n0 s0 σ ls (vI 0 :: vI 20 :: st) pc := by
  intro H locs lsJ hR hlo hL hO
  subst ho
  have hcy : s.vm.findClass (FieldType.array FieldType.long).toString = some (gA G 15) := (C.2.2.2.2.1 15 (by omega) (by omega)).2
  have hcA : s.vm.findClass ("[" ++ (FieldType.array FieldType.long).toString) = some (gA G 19) := (C.2.2.2.2.1 19 (by omega) (by omega)).2
  have hlink : (Cond.classLink (cnm 2) 11 "[[J").before args s = true := C.2.2.1 _ (gt_of (tOd_in _ (by simp [tOd])))
  have harr : (Cond.arrayClass FieldType.long).before args s = true := C.2.2.1 _ (gt_of (tOd_in _ (by simp [tOd])))
  intro T hT Xs
  obtain ⟨vm₁, cA, comp, -, fA, fC, -, -, X', step⟩ := Xs.multianewarray2F (ty := .long) C.1 C.2.1 hlink C.2.2.2.2.2.2.1.2.2 harr (g := F0 m pc lsJ (List.map cv (vI 0 :: vI 20 :: st))) rfl hd (n := 20) (k := 0) rfl (by decide) (by decide) (by decide) (by decide) (by decide) rfl rfl hc hs
  have ec : gA G 15 = comp := Option.some.inj (hcy.symm.trans fC)
  have eA : gA G 19 = cA := Option.some.inj (hcA.symm.trans fA)
  subst ec
  subst eA
  have e20 : (20 : Int32).toNatClampNeg = 20 := by decide
  have e00 : (0 : Int32).toNatClampNeg = 0 := by decide
  rw [e20, e00] at X' step
  generalize hF : Jvm.Free.Multi.fill (T.setVm vm₁) (gA G 19) (gA G 15) 20 0 (defaultValue .long) 20 = F at X' step
  have hTh : (T.setVm vm₁).heap = H := hT
  obtain ⟨f1, f2, -, -⟩ := Jvm.Free.Multi.fill_facts (T.setVm vm₁) (gA G 19) (gA G 15) 20 0 (defaultValue .long) 20
  rw [hF, hTh] at f1 f2
  have hold : ∀ x : Nat, x < H.size → F.heap[x]? = H[x]? := fun x hx => by
    have := Jvm.Free.Multi.fill_old (T.setVm vm₁) (gA G 19) (gA G 15) 20 0 (defaultValue .long) (a := x) (by rw [hTh]; exact hx) 20
    rw [hF, hTh] at this
    exact this
  have hrow : ∀ j : Nat, j < 20 → F.heap[H.size + 1 + j]? = some (arrV (gA G 15) 0 (fun _ => .long 0)) := fun j hj => by
    have := Jvm.Free.Multi.fill_inner (T.setVm vm₁) (gA G 19) (gA G 15) 20 0 (defaultValue .long) 20 j hj
    rw [hF, hTh] at this
    rw [this]
    exact congrArg some (arrV_new (gA G 15) 0 (defaultValue .long))
  have hout : Jvm.Free.Multi.outerC (gA G 19) 20 H.size 20 = arrV (gA G 19) 20 (fun j => va_rf (if j < 20 then some (H.size + 1 + j) else none)) := vr_outer (gA G 19) 20 H.size 20
  rw [hout] at f2
  have hz := hR.1.1
  obtain ⟨R3, ht1, hn1, hs1⟩ := hR.mkX' 20 (by decide) f1 f2 hold hrow
  have hm := Mn.mkX' (σ := σ) 20
  rw [show nx σ - n0 + 1 + 20 = nx (mkX σ 20) - n0 by rw [hn1]; omega, show sl σ - s0 + 20 + 20 * 0 = sl (mkX σ 20) - s0 by rw [hs1]; omega] at X'
  obtain ⟨t, a1, b1⟩ := k F.heap locs lsJ R3 hlo hL ((hO.pop.pop.mono fun b hb => hm.2.2 b (hR.lt hb)).push ⟨by omega, ht1⟩) F rfl X'
  refine ⟨t, step t ?_, b1⟩
  rw [show T.heap.size = nx σ by rw [hT]; exact hz]
  exact a1
theorem k_max (C : Cx G own p s m args) {i : Nat} {x y : Int} (hd : decode c.code pc = .ok (.invokestatic i, 3)) (hl : (own, i) ∈ tMx) (hw : stW st ≤ 8) (hf : 1 ≤ R.frames) (hlo : 40 ≤ R.locals) (hc : nx σ - n0 ≤ R.cells) (hs : sl σ - s0 ≤ R.slots) (k : KW p l e R s m args below meth c Q G n0 s0 σ ls (vI (iMax x y) :: st) (pc + 3)) : KW p l e R s m args below meth c Q G n0 s0 σ ls (vI y :: vI x :: st) pc := by
  intro H locs lsJ hR hl2 hL hO
  refine va_mmax C.1 rfl hL.1.symm C.2.1 (C.2.2.1 _ (gt_of (tMx_in _ (List.mem_map_of_mem hl)))) (C.2.2.1 _ (gt_of (tOd_in _ (by simp [tOd])))) (C.2.2.1 _ (gt_of (tOd_in _ (by simp [tOd])))) (C.2.2.1 _ (gt_of (tOd_in _ (by simp [tOd])))) hf (by rw [cv_sum]; omega) hc hs hd ?_
  have hx := hO.pop.top
  have hy := hO.top
  have e : (if Int32.ofInt x < Int32.ofInt y then Int32.ofInt y else Int32.ofInt x) = Int32.ofInt (iMax x y) := by
    unfold iMax
    by_cases h : x < y
    · rw [if_pos h, if_pos ((rg_lt hx hy).mpr h)]
    · rw [if_neg h, if_neg (fun q => h ((rg_lt hx hy).mp q))]
  rw [e]
  refine k H locs lsJ hR hl2 hL (hO.pop.pop.push (v := vI _) ?_)
  unfold iMax
  split
  · exact hy
  · exact hx
theorem k_min (C : Cx G own p s m args) {i : Nat} {x y : Int} (hd : decode c.code pc = .ok (.invokestatic i, 3)) (hl : (own, i) ∈ tMi) (hw : stW st ≤ 8) (hf : 1 ≤ R.frames) (hlo : 40 ≤ R.locals) (hc : nx σ - n0 ≤ R.cells) (hs : sl σ - s0 ≤ R.slots) (k : KW p l e R s m args below meth c Q G n0 s0 σ ls (vI (iMin x y) :: st) (pc + 3)) : KW p l e R s m args below meth c Q G n0 s0 σ ls (vI y :: vI x :: st) pc := by
  intro H locs lsJ hR hl2 hL hO
  refine va_mmin C.1 rfl hL.1.symm C.2.1 (C.2.2.1 _ (gt_of (tMi_in _ (List.mem_map_of_mem hl)))) (C.2.2.1 _ (gt_of (tOd_in _ (by simp [tOd])))) (C.2.2.1 _ (gt_of (tOd_in _ (by simp [tOd])))) (C.2.2.1 _ (gt_of (tOd_in _ (by simp [tOd])))) hf (by rw [cv_sum]; omega) hc hs hd ?_
  have hx := hO.pop.top
  have hy := hO.top
  have e : (if Int32.ofInt y < Int32.ofInt x then Int32.ofInt y else Int32.ofInt x) = Int32.ofInt (iMin x y) := by
    unfold iMin
    by_cases h : y < x
    · rw [if_pos h, if_pos ((rg_lt hy hx).mpr h)]
    · rw [if_neg h, if_neg (fun q => h ((rg_lt hy hx).mp q))]
  rw [e]
  refine k H locs lsJ hR hl2 hL (hO.pop.pop.push (v := vI _) ?_)
  unfold iMin
  split
  · exact hy
  · exact hx
theorem k_getsN (C : Cx G own p s m args) {i q : Nat} (ho : own = 4) (hi : i = 121) (hd : decode c.code pc = .ok (.getstatic i, 3)) (hq : stA σ 1 = some q) (k : KW p l e R s m args below meth c Q G n0 s0 σ ls (vR 20 (some q) :: st) (pc + 3)) : KW p l e R s m args below meth c Q G n0 s0 σ ls st pc := by
  intro H locs lsJ hR hlo hL hO
  subst ho
  subst hi
  obtain ⟨e1, e2⟩ := hR.2.2.2.2.2.2.2 1 (by omega) q hq
  have hz : va_Z "WishWays" "GREATEST" "[I" (.ref q) (fun x => gB G ≤ x) s (gH G) := by
    rw [e1]; exact C.2.2.2.2.2.2.2.2.2.1.2
  obtain ⟨cf, kf, fi, f, a1, cell, h1, h2, h3, h4, h5, h6, h7, h8⟩ := hz
  exact va_WgetsN C.1 rfl C.2.1 (va_Nw.use rfl C.2.2.2.2.2.2.2.2.1) h1 h2 h3 h4 (by rw [hR.2.1 a1 (by simpa using h8)]; exact h5) (fun hh => by rw [hh] at h6; cases h6) h7 rfl hd (k H locs lsJ hR hlo hL (hO.push ⟨by omega, e2⟩))
end KM
end
section
/-! the code tables are the bytecode -/
def cnN (q : ClassFile.Cond) : Nat := match q with
  | .eq => 0
  | .ne => 1
  | .lt => 2
  | .ge => 3
  | .gt => 4
  | .le => 5
def okI (own pc : Nat) (ini : Bool) (hs : List Nat) (cd : Nat → List LI) (ret : Option FieldType) (li : LI) (ins : Instr) (len : Nat) : Bool := match li with
  | (op, a, b, c, z) => match ins with
    | .iload k => decide (op = 1 ∧ a = k ∧ len = 2)
    | .iload_n k => decide (op = 1 ∧ a = k.val ∧ len = 1)
    | .lload k => decide (op = 2 ∧ a = k ∧ len = 2)
    | .lload_n k => decide (op = 2 ∧ a = k.val ∧ len = 1)
    | .aload k => decide (op = 3 ∧ a = k ∧ len = 2)
    | .aload_n k => decide (op = 3 ∧ a = k.val ∧ len = 1)
    | .istore k => decide (op = 4 ∧ a = k ∧ len = 2)
    | .istore_n k => decide (op = 4 ∧ a = k.val ∧ len = 1)
    | .lstore k => decide (op = 5 ∧ a = k ∧ len = 2)
    | .lstore_n k => decide (op = 5 ∧ a = k.val ∧ len = 1)
    | .astore k => decide (op = 6 ∧ a = k ∧ len = 2)
    | .astore_n k => decide (op = 6 ∧ a = k.val ∧ len = 1)
    | .iconst n => decide (op = 7 ∧ n = z ∧ len = 1)
    | .bipush n => decide (op = 7 ∧ (Int8.ofInt n).toInt32 = Int32.ofInt z ∧ len = 2)
    | .sipush n => decide (op = 7 ∧ (Int16.ofInt n).toInt32 = Int32.ofInt z ∧ len = 3)
    | .ldc i => decide (op = 7 ∧ (own, i, z) ∈ tKI ∧ len = 2)
    | .ldc_w i => decide (op = 7 ∧ (own, i, z) ∈ tKI ∧ len = 3)
    | .lconst n => decide (op = 8 ∧ Int64.ofNat n.val = Int64.ofBitVec (BitVec.ofInt 64 z) ∧ len = 1)
    | .ldc2_w i => decide (op = 8 ∧ (own, i, z) ∈ tKL ∧ len = 3)
    | .aconst_null => decide (op = 9 ∧ len = 1)
    | .iadd => decide (op = 10 ∧ len = 1)
    | .isub => decide (op = 11 ∧ len = 1)
    | .imul => decide (op = 12 ∧ len = 1)
    | .idiv => decide (op = 13 ∧ len = 1)
    | .irem => decide (op = 14 ∧ len = 1)
    | .ishl => decide (op = 16 ∧ len = 1)
    | .ishr => decide (op = 17 ∧ len = 1)
    | .iushr => decide (op = 18 ∧ len = 1)
    | .iand => decide (op = 19 ∧ len = 1)
    | .ior => decide (op = 20 ∧ len = 1)
    | .ixor => decide (op = 21 ∧ len = 1)
    | .ladd => decide (op = 22 ∧ len = 1)
    | .lsub => decide (op = 23 ∧ len = 1)
    | .lneg => decide (op = 24 ∧ len = 1)
    | .land => decide (op = 25 ∧ len = 1)
    | .lor => decide (op = 26 ∧ len = 1)
    | .lxor => decide (op = 27 ∧ len = 1)
    | .lshl => decide (op = 28 ∧ len = 1)
    | .lshr => decide (op = 29 ∧ len = 1)
    | .lushr => decide (op = 30 ∧ len = 1)
    | .lcmp => decide (op = 31 ∧ len = 1)
    | .i2l => decide (op = 32 ∧ len = 1)
    | .l2i => decide (op = 33 ∧ len = 1)
    | .i2b => decide (op = 34 ∧ len = 1)
    | .dup => decide (op = 42 ∧ len = 1)
    | .dup2 => decide (op = 43 ∧ len = 1)
    | .pop => decide (op = 44 ∧ len = 1)
    | .iinc i n => decide (op = 35 ∧ a = i ∧ z = n ∧ len = 3)
    | .if_icmp q o => decide (op = 36 ∧ a = cnN q ∧ (pc : Int) + o = b ∧ b ∈ hs ∧ len = 3)
    | .ifCond q o => decide (op = 37 ∧ a = cnN q ∧ (pc : Int) + o = b ∧ b ∈ hs ∧ len = 3)
    | .ifnull o => decide (op = 38 ∧ (pc : Int) + o = b ∧ b ∈ hs ∧ len = 3)
    | .ifnonnull o => decide (op = 39 ∧ (pc : Int) + o = b ∧ b ∈ hs ∧ len = 3)
    | .goto o => decide (op = 40 ∧ (pc : Int) + o = a ∧ a ∈ hs ∧ len = 3)
    | .tableswitch dflt lo hi offs => decide (op = 41 ∧ a = offs.size ∧ lo = 0 ∧ hi + 1 = a ∧ (pc : Int) + dflt = b ∧ b ∈ hs) && (List.range a).all (fun j => match offs[j]? with | some o => decide ((pc : Int) + o ≥ 0 ∧ ((pc : Int) + o).toNat ∈ hs ∧ cd (100000 + j) = [(0, ((pc : Int) + o).toNat, 0, 0, 0)]) | none => false)
    | .getfield i => decide ((own, i, a, b) ∈ tFL ∧ a < 13 ∧ b < nFl a ∧ len = 3 ∧ ((op = 45 ∧ fKd a b ≤ 1) ∨ (op = 46 ∧ fKd a b = 2) ∨ (op = 47 ∧ fKd a b = c + 3)))
    | .putfield i => decide ((own, i, a, b) ∈ tFL ∧ a < 13 ∧ b < nFl a ∧ len = 3 ∧ ((op = 48 ∧ fKd a b = c ∧ c ≤ 1) ∨ (op = 49 ∧ fKd a b = 2) ∨ (op = 50 ∧ fKd a b = c + 3)) ∧ ((fTb a b).2.2.2 = false ∨ ((fTb a b).2.2.2 = true ∧ ini = true ∧ (fTb a b).1 = cnm own)))
    | .getstatic i => decide (op = 51 ∧ len = 3 ∧ ((own = 11 ∧ i = 348 ∧ a = 0) ∨ (own = 11 ∧ i = 351 ∧ a = 1) ∨ (own = 4 ∧ i = 121 ∧ a = 1)))
    | .iaload => decide ((op = 52) ∧ len = 1)
    | .laload => decide ((op = 53) ∧ len = 1)
    | .baload => decide ((op = 54 ∨ op = 55) ∧ len = 1)
    | .iastore => decide ((op = 57) ∧ len = 1)
    | .lastore => decide ((op = 58) ∧ len = 1)
    | .bastore => decide ((op = 59 ∨ op = 60) ∧ len = 1)
    | .arraylength => decide ((op = 62) ∧ len = 1)
    | .aaload => decide (op = 56 ∧ (a, c) ∈ [(17, 7), (18, 10), (19, 15)] ∧ len = 1)
    | .aastore => decide (op = 61 ∧ (a, c) ∈ [(17, 7), (18, 10), (19, 15)] ∧ len = 1)
    | .newarray y => decide (op = 63 ∧ len = 2 ∧ ((y = .byte ∧ a = 13) ∨ (y = .int ∧ a = 14) ∨ (y = .long ∧ a = 15) ∨ (y = .boolean ∧ a = 16)))
    | .anewarray i => decide (op = 64 ∧ len = 3 ∧ (((own, i, 7) ∈ tNA ∧ a = 17) ∨ ((own, i, 10) ∈ tNA ∧ a = 18)))
    | .multianewarray i n => decide (op = 65 ∧ len = 4 ∧ own = 2 ∧ i = 11 ∧ n = 2)
    | .new i => decide (op = 66 ∧ len = 3 ∧ (own, i, a) ∈ tCL ∧ a < 13 ∧ c = nFl a)
    | .invokestatic i => decide (len = 3 ∧ ((op = 67 ∧ z % 2 = 0 ∧ ((own, i, a) ∈ tML ∨ (own, i, a) ∈ tMN) ∧ a ∈ tSt ∧ a < 316 ∧ b = mPn a ∧ (mt a).1 ≤ 40 ∧ z ≤ 2 * (mt a).1 + 1) ∨ ((op = 69 ∨ op = 70) ∧ (own, i) ∈ tAC) ∨ (op = 75 ∧ (own, i) ∈ tMx) ∨ (op = 76 ∧ (own, i) ∈ tMi)))
    | .invokevirtual i => decide (len = 3 ∧ op = 67 ∧ ¬ z % 2 = 0 ∧ (own, i, a) ∈ tML ∧ a ∈ tIn ∧ a ∈ tSe ∧ a < 316 ∧ c < 13 ∧ (mI a).1.cls = cnm c ∧ b = mPn a + 1 ∧ (mt a).1 ≤ 40 ∧ z ≤ 2 * (mt a).1 + 1)
    | .invokespecial i => decide (len = 3 ∧ ((op = 68 ∧ (own, i) ∈ tOI) ∨ (op = 67 ∧ ¬ z % 2 = 0 ∧ (own, i, a) ∈ tML ∧ a ∈ tIn ∧ a < 316 ∧ (mI a).1.name = "<init>" ∧ (mI a).2.2.1 = none ∧ b = mPn a + 1 ∧ (mt a).1 ≤ 40 ∧ z ≤ 2 * (mt a).1 + 1)))
    | .ireturn => decide (op = 71 ∧ len = 1 ∧ ((a = 0 ∧ ret = some .int) ∨ (a = 1 ∧ ret = some .boolean)))
    | .lreturn => decide (op = 72 ∧ len = 1 ∧ ret = some .long)
    | .areturn => decide (op = 73 ∧ len = 1) && (match ret with | some (.object _) => true | some (.array _) => true | _ => false)
    | .return_ => decide (op = 74 ∧ len = 1 ∧ ret = none)
    | _ => false
/-- a row behind which nothing of the block comes -/
def endB (op : Nat) : Bool := decide (op = 40 ∨ op = 41 ∨ op = 71 ∨ op = 72 ∨ op = 73 ∨ op = 74)
def chk (own : Nat) (ini : Bool) (hs : List Nat) (cd : Nat → List LI) (ret : Option FieldType) (by_ : ByteArray) : Nat → List LI → Bool
  | _, [] => false
  | pc, li :: cs => if li.1 = 0 then decide (li.2.1 = pc) && decide (pc ∈ hs) else match decode by_ pc with
    | .ok (ins, len) => okI own pc ini hs cd ret li ins len && (endB li.1 || chk own ini hs cd ret by_ (pc + len) cs)
    | .error _ => false
def ownM (i : Nat) : Nat := (mI i).2.2.2
def iniM (i : Nat) : Bool := decide ((mI i).1.name = "<init>")
def hdM (i : Nat) : List Nat := mHd.getD i []
def chkM (i pc : Nat) (cs : List LI) : Bool := chk (ownM i) (iniM i) (hdM i) (mt i).2 (mI i).2.2.1 (mI i).2.1 pc cs
def okM (i : Nat) : Bool := decide (0 ∈ hdM i) && (hdM i).all (fun h => chkM i h ((mt i).2 h))
set_option maxRecDepth 100000 in
theorem okM_0 : ∀ i, 0 ≤ i → i < 22 → okM i = true := by
  have h : ∀ j, j < 22 → okM (0 + j) = true := by decide +kernel
  intro i h1 h2
  have := h (i - 0) (by omega)
  rw [show 0 + (i - 0) = i by omega] at this
  exact this
set_option maxRecDepth 100000 in
theorem okM_1 : ∀ i, 22 ≤ i → i < 45 → okM i = true := by
  have h : ∀ j, j < 23 → okM (22 + j) = true := by decide +kernel
  intro i h1 h2
  have := h (i - 22) (by omega)
  rw [show 22 + (i - 22) = i by omega] at this
  exact this
set_option maxRecDepth 100000 in
theorem okM_2 : ∀ i, 45 ≤ i → i < 63 → okM i = true := by
  have h : ∀ j, j < 18 → okM (45 + j) = true := by decide +kernel
  intro i h1 h2
  have := h (i - 45) (by omega)
  rw [show 45 + (i - 45) = i by omega] at this
  exact this
set_option maxRecDepth 100000 in
theorem okM_3 : ∀ i, 63 ≤ i → i < 84 → okM i = true := by
  have h : ∀ j, j < 21 → okM (63 + j) = true := by decide +kernel
  intro i h1 h2
  have := h (i - 63) (by omega)
  rw [show 63 + (i - 63) = i by omega] at this
  exact this
set_option maxRecDepth 100000 in
theorem okM_4 : ∀ i, 84 ≤ i → i < 103 → okM i = true := by
  have h : ∀ j, j < 19 → okM (84 + j) = true := by decide +kernel
  intro i h1 h2
  have := h (i - 84) (by omega)
  rw [show 84 + (i - 84) = i by omega] at this
  exact this
set_option maxRecDepth 100000 in
theorem okM_5 : ∀ i, 103 ≤ i → i < 118 → okM i = true := by
  have h : ∀ j, j < 15 → okM (103 + j) = true := by decide +kernel
  intro i h1 h2
  have := h (i - 103) (by omega)
  rw [show 103 + (i - 103) = i by omega] at this
  exact this
set_option maxRecDepth 100000 in
theorem okM_6 : ∀ i, 118 ≤ i → i < 140 → okM i = true := by
  have h : ∀ j, j < 22 → okM (118 + j) = true := by decide +kernel
  intro i h1 h2
  have := h (i - 118) (by omega)
  rw [show 118 + (i - 118) = i by omega] at this
  exact this
set_option maxRecDepth 100000 in
theorem okM_7 : ∀ i, 140 ≤ i → i < 161 → okM i = true := by
  have h : ∀ j, j < 21 → okM (140 + j) = true := by decide +kernel
  intro i h1 h2
  have := h (i - 140) (by omega)
  rw [show 140 + (i - 140) = i by omega] at this
  exact this
set_option maxRecDepth 100000 in
theorem okM_8 : ∀ i, 161 ≤ i → i < 198 → okM i = true := by
  have h : ∀ j, j < 37 → okM (161 + j) = true := by decide +kernel
  intro i h1 h2
  have := h (i - 161) (by omega)
  rw [show 161 + (i - 161) = i by omega] at this
  exact this
set_option maxRecDepth 100000 in
theorem okM_9 : ∀ i, 198 ≤ i → i < 217 → okM i = true := by
  have h : ∀ j, j < 19 → okM (198 + j) = true := by decide +kernel
  intro i h1 h2
  have := h (i - 198) (by omega)
  rw [show 198 + (i - 198) = i by omega] at this
  exact this
set_option maxRecDepth 100000 in
theorem okM_10 : ∀ i, 217 ≤ i → i < 225 → okM i = true := by
  have h : ∀ j, j < 8 → okM (217 + j) = true := by decide +kernel
  intro i h1 h2
  have := h (i - 217) (by omega)
  rw [show 217 + (i - 217) = i by omega] at this
  exact this
set_option maxRecDepth 100000 in
theorem okM_11 : ∀ i, 225 ≤ i → i < 239 → okM i = true := by
  have h : ∀ j, j < 14 → okM (225 + j) = true := by decide +kernel
  intro i h1 h2
  have := h (i - 225) (by omega)
  rw [show 225 + (i - 225) = i by omega] at this
  exact this
set_option maxRecDepth 100000 in
theorem okM_12 : ∀ i, 239 ≤ i → i < 255 → okM i = true := by
  have h : ∀ j, j < 16 → okM (239 + j) = true := by decide +kernel
  intro i h1 h2
  have := h (i - 239) (by omega)
  rw [show 239 + (i - 239) = i by omega] at this
  exact this
set_option maxRecDepth 100000 in
theorem okM_13 : ∀ i, 255 ≤ i → i < 269 → okM i = true := by
  have h : ∀ j, j < 14 → okM (255 + j) = true := by decide +kernel
  intro i h1 h2
  have := h (i - 255) (by omega)
  rw [show 255 + (i - 255) = i by omega] at this
  exact this
set_option maxRecDepth 100000 in
theorem okM_14 : ∀ i, 269 ≤ i → i < 278 → okM i = true := by
  have h : ∀ j, j < 9 → okM (269 + j) = true := by decide +kernel
  intro i h1 h2
  have := h (i - 269) (by omega)
  rw [show 269 + (i - 269) = i by omega] at this
  exact this
set_option maxRecDepth 100000 in
theorem okM_15 : ∀ i, 278 ≤ i → i < 290 → okM i = true := by
  have h : ∀ j, j < 12 → okM (278 + j) = true := by decide +kernel
  intro i h1 h2
  have := h (i - 278) (by omega)
  rw [show 278 + (i - 278) = i by omega] at this
  exact this
set_option maxRecDepth 100000 in
theorem okM_16 : ∀ i, 290 ≤ i → i < 302 → okM i = true := by
  have h : ∀ j, j < 12 → okM (290 + j) = true := by decide +kernel
  intro i h1 h2
  have := h (i - 290) (by omega)
  rw [show 290 + (i - 290) = i by omega] at this
  exact this
set_option maxRecDepth 100000 in
theorem okM_17 : ∀ i, 302 ≤ i → i < 315 → okM i = true := by
  have h : ∀ j, j < 13 → okM (302 + j) = true := by decide +kernel
  intro i h1 h2
  have := h (i - 302) (by omega)
  rw [show 302 + (i - 302) = i by omega] at this
  exact this
set_option maxRecDepth 100000 in
theorem okM_18 : ∀ i, 315 ≤ i → i < 316 → okM i = true := by
  have h : ∀ j, j < 1 → okM (315 + j) = true := by decide +kernel
  intro i h1 h2
  have := h (i - 315) (by omega)
  rw [show 315 + (i - 315) = i by omega] at this
  exact this
end
section
def lawHd : List Nat := [0, 18, 224, 287, 310, 333, 376, 409, 452, 485, 548, 571, 604, 637, 670, 733, 766, 779, 802, 803, 829, 830, 838, 861, 894, 917, 950, 973, 1006, 1019, 1042, 1065, 1088, 1131, 1174, 1197, 1220, 1221, 1252, 1253, 1266, 1279, 1297, 1298, 1319, 1320, 1328, 1351, 1384, 1407, 1430, 1453, 1496, 1549, 1582, 1615, 1648, 1661, 1684, 1690]
def lawH0 : List Nat := [0, 18, 224, 287, 310, 333, 376, 409]
set_option maxRecDepth 100000 in
theorem law_0 : lawH0.all (fun h => chk 13 false lawHd cd_L_law (some .boolean) code h (cd_L_law h)) = true := by decide +kernel
def lawH1 : List Nat := [452, 485, 548, 571, 604, 637, 670, 733]
set_option maxRecDepth 100000 in
theorem law_1 : lawH1.all (fun h => chk 13 false lawHd cd_L_law (some .boolean) code h (cd_L_law h)) = true := by decide +kernel
def lawH2 : List Nat := [766, 779, 802, 803, 829, 830, 838, 861]
set_option maxRecDepth 100000 in
theorem law_2 : lawH2.all (fun h => chk 13 false lawHd cd_L_law (some .boolean) code h (cd_L_law h)) = true := by decide +kernel
def lawH3 : List Nat := [894, 917, 950, 973, 1006, 1019, 1042, 1065]
set_option maxRecDepth 100000 in
theorem law_3 : lawH3.all (fun h => chk 13 false lawHd cd_L_law (some .boolean) code h (cd_L_law h)) = true := by decide +kernel
end
section
def lawH4 : List Nat := [1088]
set_option maxRecDepth 100000 in
theorem law_4 : lawH4.all (fun h => chk 13 false lawHd cd_L_law (some .boolean) code h (cd_L_law h)) = true := by decide +kernel
def lawH5 : List Nat := [1131]
set_option maxRecDepth 100000 in
theorem law_5 : lawH5.all (fun h => chk 13 false lawHd cd_L_law (some .boolean) code h (cd_L_law h)) = true := by decide +kernel
def lawH6 : List Nat := [1174]
set_option maxRecDepth 100000 in
theorem law_6 : lawH6.all (fun h => chk 13 false lawHd cd_L_law (some .boolean) code h (cd_L_law h)) = true := by decide +kernel
def lawH7 : List Nat := [1197]
set_option maxRecDepth 100000 in
theorem law_7 : lawH7.all (fun h => chk 13 false lawHd cd_L_law (some .boolean) code h (cd_L_law h)) = true := by decide +kernel
def lawH8 : List Nat := [1220]
set_option maxRecDepth 100000 in
theorem law_8 : lawH8.all (fun h => chk 13 false lawHd cd_L_law (some .boolean) code h (cd_L_law h)) = true := by decide +kernel
def lawH9 : List Nat := [1221]
set_option maxRecDepth 100000 in
theorem law_9 : lawH9.all (fun h => chk 13 false lawHd cd_L_law (some .boolean) code h (cd_L_law h)) = true := by decide +kernel
def lawH10 : List Nat := [1252]
set_option maxRecDepth 100000 in
theorem law_10 : lawH10.all (fun h => chk 13 false lawHd cd_L_law (some .boolean) code h (cd_L_law h)) = true := by decide +kernel
def lawH11 : List Nat := [1253]
set_option maxRecDepth 100000 in
theorem law_11 : lawH11.all (fun h => chk 13 false lawHd cd_L_law (some .boolean) code h (cd_L_law h)) = true := by decide +kernel
def lawH12 : List Nat := [1266]
set_option maxRecDepth 100000 in
theorem law_12 : lawH12.all (fun h => chk 13 false lawHd cd_L_law (some .boolean) code h (cd_L_law h)) = true := by decide +kernel
def lawH13 : List Nat := [1279]
set_option maxRecDepth 100000 in
theorem law_13 : lawH13.all (fun h => chk 13 false lawHd cd_L_law (some .boolean) code h (cd_L_law h)) = true := by decide +kernel
def lawH14 : List Nat := [1297]
set_option maxRecDepth 100000 in
theorem law_14 : lawH14.all (fun h => chk 13 false lawHd cd_L_law (some .boolean) code h (cd_L_law h)) = true := by decide +kernel
def lawH15 : List Nat := [1298]
set_option maxRecDepth 100000 in
theorem law_15 : lawH15.all (fun h => chk 13 false lawHd cd_L_law (some .boolean) code h (cd_L_law h)) = true := by decide +kernel
def lawH16 : List Nat := [1319]
set_option maxRecDepth 100000 in
theorem law_16 : lawH16.all (fun h => chk 13 false lawHd cd_L_law (some .boolean) code h (cd_L_law h)) = true := by decide +kernel
def lawH17 : List Nat := [1320]
set_option maxRecDepth 100000 in
theorem law_17 : lawH17.all (fun h => chk 13 false lawHd cd_L_law (some .boolean) code h (cd_L_law h)) = true := by decide +kernel
def lawH18 : List Nat := [1328]
set_option maxRecDepth 100000 in
theorem law_18 : lawH18.all (fun h => chk 13 false lawHd cd_L_law (some .boolean) code h (cd_L_law h)) = true := by decide +kernel
def lawH19 : List Nat := [1351]
set_option maxRecDepth 100000 in
theorem law_19 : lawH19.all (fun h => chk 13 false lawHd cd_L_law (some .boolean) code h (cd_L_law h)) = true := by decide +kernel
def lawH20 : List Nat := [1384]
set_option maxRecDepth 100000 in
theorem law_20 : lawH20.all (fun h => chk 13 false lawHd cd_L_law (some .boolean) code h (cd_L_law h)) = true := by decide +kernel
def lawH21 : List Nat := [1407]
set_option maxRecDepth 100000 in
theorem law_21 : lawH21.all (fun h => chk 13 false lawHd cd_L_law (some .boolean) code h (cd_L_law h)) = true := by decide +kernel
def lawH22 : List Nat := [1430]
set_option maxRecDepth 100000 in
theorem law_22 : lawH22.all (fun h => chk 13 false lawHd cd_L_law (some .boolean) code h (cd_L_law h)) = true := by decide +kernel
def lawH23 : List Nat := [1453]
set_option maxRecDepth 100000 in
theorem law_23 : lawH23.all (fun h => chk 13 false lawHd cd_L_law (some .boolean) code h (cd_L_law h)) = true := by decide +kernel
def lawH24 : List Nat := [1496]
set_option maxRecDepth 100000 in
theorem law_24 : lawH24.all (fun h => chk 13 false lawHd cd_L_law (some .boolean) code h (cd_L_law h)) = true := by decide +kernel
def lawH25 : List Nat := [1549]
set_option maxRecDepth 100000 in
theorem law_25 : lawH25.all (fun h => chk 13 false lawHd cd_L_law (some .boolean) code h (cd_L_law h)) = true := by decide +kernel
def lawH26 : List Nat := [1582]
set_option maxRecDepth 100000 in
theorem law_26 : lawH26.all (fun h => chk 13 false lawHd cd_L_law (some .boolean) code h (cd_L_law h)) = true := by decide +kernel
def lawH27 : List Nat := [1615]
set_option maxRecDepth 100000 in
theorem law_27 : lawH27.all (fun h => chk 13 false lawHd cd_L_law (some .boolean) code h (cd_L_law h)) = true := by decide +kernel
def lawH28 : List Nat := [1648]
set_option maxRecDepth 100000 in
theorem law_28 : lawH28.all (fun h => chk 13 false lawHd cd_L_law (some .boolean) code h (cd_L_law h)) = true := by decide +kernel
def lawH29 : List Nat := [1661]
set_option maxRecDepth 100000 in
theorem law_29 : lawH29.all (fun h => chk 13 false lawHd cd_L_law (some .boolean) code h (cd_L_law h)) = true := by decide +kernel
def lawH30 : List Nat := [1684]
set_option maxRecDepth 100000 in
theorem law_30 : lawH30.all (fun h => chk 13 false lawHd cd_L_law (some .boolean) code h (cd_L_law h)) = true := by decide +kernel
def lawH31 : List Nat := [1690]
set_option maxRecDepth 100000 in
theorem law_31 : lawH31.all (fun h => chk 13 false lawHd cd_L_law (some .boolean) code h (cd_L_law h)) = true := by decide +kernel
theorem okM_law : okM 316 = true := by
  have e : lawHd = lawH0 ++ lawH1 ++ lawH2 ++ lawH3 ++ lawH4 ++ lawH5 ++ lawH6 ++ lawH7 ++ lawH8 ++ lawH9 ++ lawH10 ++ lawH11 ++ lawH12 ++ lawH13 ++ lawH14 ++ lawH15 ++ lawH16 ++ lawH17 ++ lawH18 ++ lawH19 ++ lawH20 ++ lawH21 ++ lawH22 ++ lawH23 ++ lawH24 ++ lawH25 ++ lawH26 ++ lawH27 ++ lawH28 ++ lawH29 ++ lawH30 ++ lawH31 := by decide +kernel
  show (decide (0 ∈ lawHd) && lawHd.all (fun h => chk 13 false lawHd cd_L_law (some .boolean) code h (cd_L_law h))) = true
  rw [show lawHd.all (fun h => chk 13 false lawHd cd_L_law (some .boolean) code h (cd_L_law h)) = (lawH0 ++ lawH1 ++ lawH2 ++ lawH3 ++ lawH4 ++ lawH5 ++ lawH6 ++ lawH7 ++ lawH8 ++ lawH9 ++ lawH10 ++ lawH11 ++ lawH12 ++ lawH13 ++ lawH14 ++ lawH15 ++ lawH16 ++ lawH17 ++ lawH18 ++ lawH19 ++ lawH20 ++ lawH21 ++ lawH22 ++ lawH23 ++ lawH24 ++ lawH25 ++ lawH26 ++ lawH27 ++ lawH28 ++ lawH29 ++ lawH30 ++ lawH31).all (fun h => chk 13 false lawHd cd_L_law (some .boolean) code h (cd_L_law h)) from by rw [← e]]
  simp only [List.all_append, law_0, law_1, law_2, law_3, law_4, law_5, law_6, law_7, law_8, law_9, law_10, law_11, law_12, law_13, law_14, law_15, law_16, law_17, law_18, law_19, law_20, law_21, law_22, law_23, law_24, law_25, law_26, law_27, law_28, law_29, law_30, law_31, Bool.and_self, Bool.and_true]
  decide +kernel
theorem okM_all : ∀ i, i < 317 → okM i = true := by
  intro i hi
  by_cases h0 : i < 22
  · exact okM_0 i (by omega) h0
  by_cases h1 : i < 45
  · exact okM_1 i (by omega) h1
  by_cases h2 : i < 63
  · exact okM_2 i (by omega) h2
  by_cases h3 : i < 84
  · exact okM_3 i (by omega) h3
  by_cases h4 : i < 103
  · exact okM_4 i (by omega) h4
  by_cases h5 : i < 118
  · exact okM_5 i (by omega) h5
  by_cases h6 : i < 140
  · exact okM_6 i (by omega) h6
  by_cases h7 : i < 161
  · exact okM_7 i (by omega) h7
  by_cases h8 : i < 198
  · exact okM_8 i (by omega) h8
  by_cases h9 : i < 217
  · exact okM_9 i (by omega) h9
  by_cases h10 : i < 225
  · exact okM_10 i (by omega) h10
  by_cases h11 : i < 239
  · exact okM_11 i (by omega) h11
  by_cases h12 : i < 255
  · exact okM_12 i (by omega) h12
  by_cases h13 : i < 269
  · exact okM_13 i (by omega) h13
  by_cases h14 : i < 278
  · exact okM_14 i (by omega) h14
  by_cases h15 : i < 290
  · exact okM_15 i (by omega) h15
  by_cases h16 : i < 302
  · exact okM_16 i (by omega) h16
  by_cases h17 : i < 315
  · exact okM_17 i (by omega) h17
  by_cases h18 : i < 316
  · exact okM_18 i (by omega) h18
  have : i = 316 := by omega
  subst this
  exact okM_law
end
section
set_option maxRecDepth 100000 in
theorem m_cls : ∀ j, j < 317 → cnm (ownM j) = (mI j).1.cls := by decide +kernel
/-! THE LITTLE MACHINE'S RUN IS THE JVM'S -/
theorem mkX_nx (σ : St) (n : Nat) : nx (mkX σ n) = nx σ + 1 + n := mkN_nx (mk σ 19 n n) n
theorem mkX_sl (σ : St) (n : Nat) : sl (mkX σ n) = sl σ + n := mkN_sl (mk σ 19 n n) n
theorem mkM_nx (σ : St) : nx (mkM σ) = nx σ + 1 + 20 := mkX_nx σ 20
theorem mkM_sl (σ : St) : sl (mkM σ) = sl σ + 20 := mkX_sl σ 20
def RetOK (bytes : ByteArray) (pc : Nat) (ret : Option FieldType) (r : List Vl) : Prop :=
  (∃ v, r = [vI v] ∧ decode bytes pc = .ok (.ireturn, 1) ∧ (ret = some .int ∨ (ret = some .boolean ∧ 0 ≤ v ∧ v ≤ 1))) ∨
  (∃ v, r = [vL v] ∧ decode bytes pc = .ok (.lreturn, 1) ∧ ret = some .long) ∨
  (∃ t q rt, r = [vR t q] ∧ decode bytes pc = .ok (.areturn, 1) ∧ ret = some rt ∧ ((∃ n, rt = .object n) ∨ ∃ t, rt = .array t)) ∨
  (r = [] ∧ decode bytes pc = .ok (.return_, 1) ∧ ret = none)
theorem lEnt_len : ∀ as : List Vl, (lEnt as).length = stW as
  | [] => rfl
  | v :: as => by
    have ih := lEnt_len as
    unfold lEnt stW at ih ⊢
    rw [List.flatMap_cons, List.length_append, ih, List.map_cons, List.sum_cons]
    congr 1
    rcases v with x | x | x <;> rfl
theorem lg_len (as : List Vl) : (lg_sl (as.map cv)).length = stW as := by
  induction as with
  | nil => rfl
  | cons v as ih =>
    unfold lg_sl stW at ih ⊢
    rw [List.map_cons, List.flatMap_cons, List.length_append, ih, List.map_cons, List.sum_cons]
    congr 1
    rcases v with x | x | ⟨t, _ | x⟩ <;> rfl
theorem lEnt_mem : ∀ (as : List Vl) (k i : Nat) (v : Vl), (lEnt as)[i]? = some (some v) → (k + i, cv v) ∈ lv_args k (as.map cv)
  | [], k, i, v, h => by simp [lEnt] at h
  | w :: as, k, i, v, h => by
    have e : lEnt (w :: as) = (if cat w = 2 then [some w, none] else [some w]) ++ lEnt as := rfl
    rw [e] at h
    rw [List.map_cons, lv_args, cv_cat]
    by_cases hc : cat w = 2
    · rw [if_pos hc] at h ⊢
      match i, h with
      | 0, h =>
        simp at h
        subst h
        exact List.mem_cons_self
      | 1, h => simp at h
      | i + 2, h =>
        have h : (lEnt as)[i]? = some (some v) := h
        have := lEnt_mem as (k + 2) i v h
        rw [show k + 2 + i = k + (i + 2) by omega] at this
        exact List.mem_cons_of_mem _ this
    · rw [if_neg hc] at h ⊢
      match i, h with
      | 0, h =>
        simp at h
        subst h
        exact List.mem_cons_self
      | i + 1, h =>
        have h : (lEnt as)[i]? = some (some v) := h
        have := lEnt_mem as (k + 1) i v h
        rw [show k + 1 + i = k + (i + 1) by omega] at this
        exact List.mem_cons_of_mem _ this
theorem entL_get {as : List Vl} {n i : Nat} {v : Vl} (h : (entL as n)[i]? = some (some v)) : (lEnt as)[i]? = some (some v) := by
  unfold entL at h
  rw [List.getElem?_append] at h
  split at h
  · exact h
  · rw [List.getElem?_replicate] at h
    split at h <;> cases h
theorem ent_LR {as : List Vl} {n : Nat} (h : stW as ≤ n) : LR (entL as n) ((lg_sl (as.map cv) ++ List.replicate (n - (lg_sl (as.map cv)).length) Slot.unset).toArray) n := by
  refine LR.of (lv_entry (as.map cv) (by rw [lg_len]; exact h)) ?_ fun i v hv => ?_
  · unfold entL
    rw [List.length_append, List.length_replicate, lEnt_len]
    omega
  · have := lEnt_mem as 0 i v (entL_get hv)
    rw [Nat.zero_add] at this
    exact this
theorem lEnt_in {as : List Vl} {v : Vl} : some v ∈ lEnt as → v ∈ as := by
  intro h
  obtain ⟨w, hw, hm⟩ := List.mem_flatMap.mp h
  split at hm
  · simp at hm
    subst hm
    exact hw
  · simp at hm
    subst hm
    exact hw
theorem ent_OK {σ : St} {as : List Vl} {n : Nat} (h : ∀ v ∈ as, OKv σ v) : OKs σ (entL as n) [] := by
  refine ⟨fun v hv => by simp at hv, fun v hv => ?_⟩
  unfold entL at hv
  rcases List.mem_append.mp hv with hv | hv
  · exact h v (lEnt_in hv)
  · have := (List.mem_replicate.mp hv).2
    cases this
theorem iz_all : ∀ i, i < 316 → i ∈ tIz := by decide +kernel
/-- what is to be shown of a run of n steps -/
def SndN (G : Gc) (l : Launch) (n : Nat) : Prop := ∀ {d i : Nat} {σ : St} {cs : List LI} {ls : Ls} {st : List Vl} {σf : St} {r : List Vl}, exec mt n d (mt i).2 σ cs ls st = some (σf, r) → i < 317 →
  ∀ {p : Program} {e : Env} {R : Room} {s : State} {m : MethodId} {args : Array Value} {below : List Frame} {meth : Method} {c : Code} {Q : State → Prop} {n0 s0 pc : Nat}, Cx G (ownM i) p s m args → c.code = (mI i).2.1 → meth.name = (mI i).1.name → chkM i pc cs = true → d + 2 ≤ R.frames → 64 * (d + 2) ≤ R.locals → n0 ≤ nx σ → s0 ≤ sl σ → nx σf - n0 ≤ R.cells → sl σf - s0 ≤ R.slots →
  (∀ (ls' : Ls) (pc' : Nat), RetOK c.code pc' (mI i).2.2.1 r → KW p l e R s m args below meth c Q G n0 s0 σf ls' r pc') → KW p l e R s m args below meth c Q G n0 s0 σ ls st pc
theorem met_of {G : Gc} {l : Launch} {n d j : Nat} {σ σ1 : St} {as q : List Vl} (ih : SndN G l n) (h : exec mt n d (mt j).2 σ ((mt j).2 0) (entL as (mt j).1) [] = some (σ1, q)) (hj : j < 316) (hw : stW as ≤ (mt j).1) (hO : ∀ v ∈ as, OKv σ v) : MetI G l d j σ as σ1 q := by
  refine Met.ofW (cc := (mI j).2.1) (maxL := (mt j).1) (ret := (mI j).2.2.1) (m_plain j (by omega)) rfl ?_
  intro p e s m args below meth c s₁ B hml hv
  obtain ⟨rfl, hR, hK, hz⟩ := hv
  have hts := atoms_spec (ws := wsM j) B.pre
  have hown : s.vm.findClass (mI j).1.cls = some m.cls := findClass_of_methodNamed B.named
  have hlocks := B.notSynchronized
  have hnm : meth.name = (mI j).1.name := (name_of_methodNamed B.named B.method).1
  have hcl : cnm (ownM j) = (mI j).1.cls := by
    have := m_cls j (by omega)
    exact this
  have C : Cx G (ownM j) p s m (as.map cv).toArray := ⟨B.exec, by rw [hcl]; exact hown, fun w hw => hts w (List.mem_cons_of_mem _ hw), hK⟩
  have hok := okM_all j (by omega)
  unfold okM at hok
  rw [Bool.and_eq_true, decide_eq_true_eq, List.all_eq_true] at hok
  have hmn := exec_mn h
  rw [lg_entry_eq]
  have key := ih h (by omega) (p := p) (e := e) (R := rmD d (nx σ1 - nx σ) (sl σ1 - sl σ)) (s := s) (m := m) (args := (as.map cv).toArray) (below := below) (meth := meth) (c := c) (Q := MQ below (Qcm G σ1 q) (as.map cv).toArray s (nx σ1 - nx σ) (sl σ1 - sl σ) (fun q => gB G ≤ q)) (n0 := nx σ) (s0 := sl σ) (pc := 0) C B.bytes hnm (hok.2 0 hok.1) (Nat.le_refl _) (Nat.le_refl _) (Nat.le_refl _) (Nat.le_refl _) (Nat.le_refl _) (Nat.le_refl _) ?_ s.heap [] _ hR (fun q hq => by simp at hq) (by rw [hml]; exact ent_LR hw) (ent_OK hO)
  · rw [Nat.sub_self, Nat.sub_self] at key
    exact key
  · intro ls' pc' hret H locs lsJ hR' hlo hL hO'
    have hr := B.returns
    rcases hret with ⟨v, rfl, hd, hv⟩ | ⟨v, rfl, hd, hv⟩ | ⟨t, z, rt, rfl, hd, hv, hrt⟩ | ⟨rfl, hd, hv⟩
    · rcases hv with hv | ⟨hv, h0, h1⟩
      · rw [hv] at hr
        exact W.iret B.exec rfl hr (fun t ht hW => ⟨⟨_, rfl, rfl⟩, by rw [ht]; exact hR', hO'.1⟩) hlo hd
      · rw [hv] at hr
        exact W.zret B.exec rfl hr (nar_z ⟨h0, h1⟩) (fun t ht hW => ⟨⟨_, rfl, rfl⟩, by rw [ht]; exact hR', hO'.1⟩) hlo hd
    · rw [hv] at hr
      exact W.lret B.exec rfl hr (fun t ht hW => ⟨⟨_, rfl, rfl⟩, by rw [ht]; exact hR', hO'.1⟩) hlo hd
    · rw [hv] at hr
      have hz : cv (vR t z) = .null ∨ ∃ a, cv (vR t z) = .ref a := by
        cases z with
        | none => exact Or.inl rfl
        | some w => exact Or.inr ⟨w, rfl⟩
      exact W.aret B.exec rfl hr hrt hz (fun t ht hW => ⟨⟨_, rfl, rfl⟩, by rw [ht]; exact hR', hO'.1⟩) hlo hd
    · rw [hv] at hr
      exact W.vret B.exec rfl hr (fun t ht hW => ⟨⟨_, rfl, rfl⟩, by rw [ht]; exact hR', hO'.1⟩) hlo hd
theorem inb_of {i : Int} {n : Nat} (h : inbB i n = true) : 0 ≤ i ∧ i < (n : Int) := by
  unfold inbB at h
  simpa using h
set_option maxHeartbeats 8000000 in
set_option maxRecDepth 100000 in
theorem snd_all (G : Gc) (l : Launch) : ∀ n, SndN G l n := by
  intro n
  induction n with
  | zero =>
    intro d i σ cs ls st σf r h
    simp [exec] at h
  | succ n ih =>
    intro d i σ cs ls st σf r h hi p e R s m args below meth c Q n0 s0 pc C hcode hname hchk hfr hlo hn0 hs0 hcells hslots hret
    have hmn := exec_mn h
    rcases cs with _ | ⟨⟨op, a, b, x, z⟩, cs⟩
    · exact nomatch (show false = true from hchk)
    rw [exec] at h
    cases est : step (mt i).2 σ ((op, a, b, x, z) :: cs) ls st with
    | none => rw [est] at h; cases h
    | some out =>
    rw [est] at h
    have hok := okM_all i hi
    unfold okM at hok
    rw [Bool.and_eq_true, decide_eq_true_eq, List.all_eq_true] at hok
    have cont : ∀ {σ' : St} {cs' : List LI} {ls' : Ls} {st' : List Vl} {pc' : Nat}, out = .inl (σ', cs', ls', st') → chkM i pc' cs' = true → KW p l e R s m args below meth c Q G n0 s0 σ' ls' st' pc' := by
      intro σ' cs' ls' st' pc' ho hc
      subst ho
      have hm := step_mn est
      exact ih h hi C hcode hname hc hfr hlo (Nat.le_trans hn0 hm.1) (Nat.le_trans hs0 hm.2.1) hcells hslots hret
    have mnS : ∀ {σ' : St} {cs' : List LI} {ls' : Ls} {st' : List Vl}, out = .inl (σ', cs', ls', st') → Mn σ' σf := by
      intro σ' cs' ls' st' ho
      subst ho
      exact exec_mn h
    by_cases h0 : op = 0
    · subst h0
      have hc : (decide (a = pc) && decide (pc ∈ hdM i)) = true := hchk
      rw [Bool.and_eq_true, decide_eq_true_eq, decide_eq_true_eq] at hc
      obtain ⟨rfl, hp⟩ := hc
      have ho : some (Sum.inl (σ, (mt i).2 a, ls, st)) = some out := est
      exact cont (Option.some.inj ho).symm (hok.2 a hp)
    have hck : ∃ ins len, decode c.code pc = .ok (ins, len) ∧ okI (ownM i) pc (iniM i) (hdM i) (mt i).2 (mI i).2.2.1 (op, a, b, x, z) ins len = true ∧ (endB op = true ∨ chkM i (pc + len) cs = true) := by
      have hc : (if op = 0 then _ else match decode (mI i).2.1 pc with | .ok (ins, len) => okI (ownM i) pc (iniM i) (hdM i) (mt i).2 (mI i).2.2.1 (op, a, b, x, z) ins len && (endB op || chkM i (pc + len) cs) | .error _ => false) = true := hchk
      rw [if_neg h0] at hc
      cases hd : decode (mI i).2.1 pc with
      | error q => rw [hd] at hc; exact nomatch hc
      | ok q =>
        rw [hd] at hc
        obtain ⟨ins, len⟩ := q
        dsimp only at hc
        rw [Bool.and_eq_true, Bool.or_eq_true] at hc
        exact ⟨ins, len, by rw [hcode]; exact hd, hc.1, hc.2⟩
    obtain ⟨ins, len, hd, hoi, hnx⟩ := hck
    clear hchk
    have nxt : endB op = false → chkM i (pc + len) cs = true := fun q => by
      rcases hnx with hnx | hnx
      · rw [q] at hnx; exact nomatch hnx
      · exact hnx
    have fr1 : 1 ≤ R.frames := by omega
    have lo40 : 40 ≤ R.locals := by omega
    cases ins with
    | iload k =>
      obtain ⟨rfl, rfl, rfl⟩ := of_decide_eq_true hoi
      obtain ⟨y, hl, ho⟩ := inv_1 est
      exact k_loadI C hd hl (cont ho (nxt rfl))
    | iload_n k =>
      obtain ⟨rfl, rfl, rfl⟩ := of_decide_eq_true hoi
      obtain ⟨y, hl, ho⟩ := inv_1 est
      exact k_loadIn C hd hl (cont ho (nxt rfl))
    | lload k =>
      obtain ⟨rfl, rfl, rfl⟩ := of_decide_eq_true hoi
      obtain ⟨y, hl, ho⟩ := inv_2 est
      exact k_loadL C hd hl (cont ho (nxt rfl))
    | lload_n k =>
      obtain ⟨rfl, rfl, rfl⟩ := of_decide_eq_true hoi
      obtain ⟨y, hl, ho⟩ := inv_2 est
      exact k_loadLn C hd hl (cont ho (nxt rfl))
    | aload k =>
      obtain ⟨rfl, rfl, rfl⟩ := of_decide_eq_true hoi
      obtain ⟨t, y, hl, ho⟩ := inv_3 est
      exact k_loadA C hd hl (cont ho (nxt rfl))
    | aload_n k =>
      obtain ⟨rfl, rfl, rfl⟩ := of_decide_eq_true hoi
      obtain ⟨t, y, hl, ho⟩ := inv_3 est
      exact k_loadAn C hd hl (cont ho (nxt rfl))
    | istore k =>
      obtain ⟨rfl, rfl, rfl⟩ := of_decide_eq_true hoi
      obtain ⟨y, st, rfl, hl, ho⟩ := inv_4 est
      exact k_stoI C hd hl (cont ho (nxt rfl))
    | istore_n k =>
      obtain ⟨rfl, rfl, rfl⟩ := of_decide_eq_true hoi
      obtain ⟨y, st, rfl, hl, ho⟩ := inv_4 est
      exact k_stoIn C hd hl (cont ho (nxt rfl))
    | lstore k =>
      obtain ⟨rfl, rfl, rfl⟩ := of_decide_eq_true hoi
      obtain ⟨y, st, rfl, hl, ho⟩ := inv_5 est
      exact k_stoL C hd hl (cont ho (nxt rfl))
    | lstore_n k =>
      obtain ⟨rfl, rfl, rfl⟩ := of_decide_eq_true hoi
      obtain ⟨y, st, rfl, hl, ho⟩ := inv_5 est
      exact k_stoLn C hd hl (cont ho (nxt rfl))
    | astore k =>
      obtain ⟨rfl, rfl, rfl⟩ := of_decide_eq_true hoi
      obtain ⟨t, y, st, rfl, hl, ho⟩ := inv_6 est
      exact k_stoA C hd hl (cont ho (nxt rfl))
    | astore_n k =>
      obtain ⟨rfl, rfl, rfl⟩ := of_decide_eq_true hoi
      obtain ⟨t, y, st, rfl, hl, ho⟩ := inv_6 est
      exact k_stoAn C hd hl (cont ho (nxt rfl))
    | iconst n =>
      obtain ⟨rfl, hz, rfl⟩ := of_decide_eq_true hoi
      obtain ⟨hr, ho⟩ := inv_7 est
      exact k_iconst C hd hz hr (cont ho (nxt rfl))
    | bipush n =>
      obtain ⟨rfl, hz, rfl⟩ := of_decide_eq_true hoi
      obtain ⟨hr, ho⟩ := inv_7 est
      exact k_bipush C hd hz hr (cont ho (nxt rfl))
    | sipush n =>
      obtain ⟨rfl, hz, rfl⟩ := of_decide_eq_true hoi
      obtain ⟨hr, ho⟩ := inv_7 est
      exact k_sipush C hd hz hr (cont ho (nxt rfl))
    | ldc k =>
      obtain ⟨rfl, hz, rfl⟩ := of_decide_eq_true hoi
      obtain ⟨hr, ho⟩ := inv_7 est
      exact k_ldc C hd hz hr (cont ho (nxt rfl))
    | ldc_w k =>
      obtain ⟨rfl, hz, rfl⟩ := of_decide_eq_true hoi
      obtain ⟨hr, ho⟩ := inv_7 est
      exact k_ldcw C hd hz hr (cont ho (nxt rfl))
    | lconst n =>
      obtain ⟨rfl, hz, rfl⟩ := of_decide_eq_true hoi
      have ho : some (Sum.inl (σ, cs, ls, vL (BitVec.ofInt 64 z) :: st)) = some out := est
      exact k_lconst C hd hz (cont (Option.some.inj ho).symm (nxt rfl))
    | ldc2_w k =>
      obtain ⟨rfl, hz, rfl⟩ := of_decide_eq_true hoi
      have ho : some (Sum.inl (σ, cs, ls, vL (BitVec.ofInt 64 z) :: st)) = some out := est
      exact k_ldc2 C hd hz (cont (Option.some.inj ho).symm (nxt rfl))
    | aconst_null =>
      obtain ⟨rfl, rfl⟩ := of_decide_eq_true hoi
      have ho : some (Sum.inl (σ, cs, ls, vR a none :: st)) = some out := est
      exact k_null C hd (cont (Option.some.inj ho).symm (nxt rfl))
    | iadd =>
      obtain ⟨rfl, rfl⟩ := of_decide_eq_true hoi
      obtain ⟨v0, v1, st, rfl, hc, ho⟩ := inv_10 est
      exact k_iadd C hd ((rgB_iff _).mp hc) (cont ho (nxt rfl))
    | isub =>
      obtain ⟨rfl, rfl⟩ := of_decide_eq_true hoi
      obtain ⟨v0, v1, st, rfl, hc, ho⟩ := inv_11 est
      exact k_isub C hd ((rgB_iff _).mp hc) (cont ho (nxt rfl))
    | imul =>
      obtain ⟨rfl, rfl⟩ := of_decide_eq_true hoi
      obtain ⟨v0, v1, st, rfl, hc, ho⟩ := inv_12 est
      exact k_imul C hd ((rgB_iff _).mp hc) (cont ho (nxt rfl))
    | idiv =>
      obtain ⟨rfl, rfl⟩ := of_decide_eq_true hoi
      obtain ⟨v0, v1, st, rfl, hc, ho⟩ := inv_13 est
      exact k_idiv C hd hc (cont ho (nxt rfl))
    | irem =>
      obtain ⟨rfl, rfl⟩ := of_decide_eq_true hoi
      obtain ⟨v0, v1, st, rfl, hc, ho⟩ := inv_14 est
      exact k_irem C hd hc (cont ho (nxt rfl))
    | ishl =>
      obtain ⟨rfl, rfl⟩ := of_decide_eq_true hoi
      obtain ⟨v0, v1, st, rfl, ho⟩ := inv_16 est
      exact k_ishl C hd (cont ho (nxt rfl))
    | ishr =>
      obtain ⟨rfl, rfl⟩ := of_decide_eq_true hoi
      obtain ⟨v0, v1, st, rfl, ho⟩ := inv_17 est
      exact k_ishr C hd (cont ho (nxt rfl))
    | iushr =>
      obtain ⟨rfl, rfl⟩ := of_decide_eq_true hoi
      obtain ⟨v0, v1, st, rfl, ho⟩ := inv_18 est
      exact k_iushr C hd (cont ho (nxt rfl))
    | iand =>
      obtain ⟨rfl, rfl⟩ := of_decide_eq_true hoi
      obtain ⟨v0, v1, st, rfl, ho⟩ := inv_19 est
      exact k_iand C hd (cont ho (nxt rfl))
    | ior =>
      obtain ⟨rfl, rfl⟩ := of_decide_eq_true hoi
      obtain ⟨v0, v1, st, rfl, ho⟩ := inv_20 est
      exact k_ior C hd (cont ho (nxt rfl))
    | ixor =>
      obtain ⟨rfl, rfl⟩ := of_decide_eq_true hoi
      obtain ⟨v0, v1, st, rfl, ho⟩ := inv_21 est
      exact k_ixor C hd (cont ho (nxt rfl))
    | ladd =>
      obtain ⟨rfl, rfl⟩ := of_decide_eq_true hoi
      obtain ⟨v0, v1, st, rfl, ho⟩ := inv_22 est
      exact k_ladd C hd (cont ho (nxt rfl))
    | lsub =>
      obtain ⟨rfl, rfl⟩ := of_decide_eq_true hoi
      obtain ⟨v0, v1, st, rfl, ho⟩ := inv_23 est
      exact k_lsub C hd (cont ho (nxt rfl))
    | land =>
      obtain ⟨rfl, rfl⟩ := of_decide_eq_true hoi
      obtain ⟨v0, v1, st, rfl, ho⟩ := inv_25 est
      exact k_land C hd (cont ho (nxt rfl))
    | lor =>
      obtain ⟨rfl, rfl⟩ := of_decide_eq_true hoi
      obtain ⟨v0, v1, st, rfl, ho⟩ := inv_26 est
      exact k_lor C hd (cont ho (nxt rfl))
    | lxor =>
      obtain ⟨rfl, rfl⟩ := of_decide_eq_true hoi
      obtain ⟨v0, v1, st, rfl, ho⟩ := inv_27 est
      exact k_lxor C hd (cont ho (nxt rfl))
    | lshl =>
      obtain ⟨rfl, rfl⟩ := of_decide_eq_true hoi
      obtain ⟨v0, v1, st, rfl, ho⟩ := inv_28 est
      exact k_lshl C hd (cont ho (nxt rfl))
    | lshr =>
      obtain ⟨rfl, rfl⟩ := of_decide_eq_true hoi
      obtain ⟨v0, v1, st, rfl, ho⟩ := inv_29 est
      exact k_lshr C hd (cont ho (nxt rfl))
    | lushr =>
      obtain ⟨rfl, rfl⟩ := of_decide_eq_true hoi
      obtain ⟨v0, v1, st, rfl, ho⟩ := inv_30 est
      exact k_lushr C hd (cont ho (nxt rfl))
    | lcmp =>
      obtain ⟨rfl, rfl⟩ := of_decide_eq_true hoi
      obtain ⟨v0, v1, st, rfl, ho⟩ := inv_31 est
      exact k_lcmp C hd (cont ho (nxt rfl))
    | lneg =>
      obtain ⟨rfl, rfl⟩ := of_decide_eq_true hoi
      obtain ⟨v0, st, rfl, ho⟩ := inv_24 est
      exact k_lneg C hd (cont ho (nxt rfl))
    | i2l =>
      obtain ⟨rfl, rfl⟩ := of_decide_eq_true hoi
      obtain ⟨v0, st, rfl, ho⟩ := inv_32 est
      exact k_i2l C hd (cont ho (nxt rfl))
    | l2i =>
      obtain ⟨rfl, rfl⟩ := of_decide_eq_true hoi
      obtain ⟨v0, st, rfl, ho⟩ := inv_33 est
      exact k_l2i C hd (cont ho (nxt rfl))
    | i2b =>
      obtain ⟨rfl, rfl⟩ := of_decide_eq_true hoi
      obtain ⟨v0, st, rfl, ho⟩ := inv_34 est
      exact k_i2b C hd (cont ho (nxt rfl))
    | dup =>
      obtain ⟨rfl, rfl⟩ := of_decide_eq_true hoi
      obtain ⟨v0, st, rfl, hc, ho⟩ := inv_42 est
      exact k_dup C hd hc (cont ho (nxt rfl))
    | pop =>
      obtain ⟨rfl, rfl⟩ := of_decide_eq_true hoi
      obtain ⟨v0, st, rfl, hc, ho⟩ := inv_44 est
      exact k_pop C hd hc (cont ho (nxt rfl))
    | dup2 =>
      obtain ⟨rfl, rfl⟩ := of_decide_eq_true hoi
      obtain ⟨v0, v1, st, rfl, hc, ho⟩ := inv_43 est
      exact k_dup2 C hd hc.1 hc.2 (cont ho (nxt rfl))
    | iinc k n =>
      obtain ⟨rfl, rfl, rfl, rfl⟩ := of_decide_eq_true hoi
      obtain ⟨y, hl, hr, ho⟩ := inv_35 est
      exact k_iinc C hd hl hr (cont ho (nxt rfl))
    | if_icmp q o =>
      obtain ⟨rfl, rfl, hb, hh, rfl⟩ := of_decide_eq_true hoi
      obtain ⟨v0, v1, st, rfl, hc⟩ := inv_36 est
      cases q with
      | eq =>
        rcases hc with ⟨hc, ho⟩ | ⟨hc, ho⟩
        · have hc : v1 = v0 := by simpa [cmpB, cnN] using hc
          exact k_icmp_eq C hd hb (fun _ => cont ho (hok.2 b hh)) (fun q => absurd hc q)
        · have hc : ¬ (v1 = v0) := by simpa [cmpB, cnN] using hc
          exact k_icmp_eq C hd hb (fun q => absurd q hc) (fun _ => cont ho (nxt rfl))
      | ne =>
        rcases hc with ⟨hc, ho⟩ | ⟨hc, ho⟩
        · have hc : ¬ v1 = v0 := by simpa [cmpB, cnN] using hc
          exact k_icmp_ne C hd hb (fun _ => cont ho (hok.2 b hh)) (fun q => absurd hc q)
        · have hc : ¬ (¬ v1 = v0) := by simpa [cmpB, cnN] using hc
          exact k_icmp_ne C hd hb (fun q => absurd q hc) (fun _ => cont ho (nxt rfl))
      | lt =>
        rcases hc with ⟨hc, ho⟩ | ⟨hc, ho⟩
        · have hc : v1 < v0 := by simpa [cmpB, cnN] using hc
          exact k_icmp_lt C hd hb (fun _ => cont ho (hok.2 b hh)) (fun q => absurd hc q)
        · have hc : ¬ (v1 < v0) := by simpa [cmpB, cnN] using hc
          exact k_icmp_lt C hd hb (fun q => absurd q hc) (fun _ => cont ho (nxt rfl))
      | ge =>
        rcases hc with ⟨hc, ho⟩ | ⟨hc, ho⟩
        · have hc : v0 ≤ v1 := by simpa [cmpB, cnN] using hc
          exact k_icmp_ge C hd hb (fun _ => cont ho (hok.2 b hh)) (fun q => absurd hc q)
        · have hc : ¬ (v0 ≤ v1) := by simpa [cmpB, cnN] using hc
          exact k_icmp_ge C hd hb (fun q => absurd q hc) (fun _ => cont ho (nxt rfl))
      | gt =>
        rcases hc with ⟨hc, ho⟩ | ⟨hc, ho⟩
        · have hc : v0 < v1 := by simpa [cmpB, cnN] using hc
          exact k_icmp_gt C hd hb (fun _ => cont ho (hok.2 b hh)) (fun q => absurd hc q)
        · have hc : ¬ (v0 < v1) := by simpa [cmpB, cnN] using hc
          exact k_icmp_gt C hd hb (fun q => absurd q hc) (fun _ => cont ho (nxt rfl))
      | le =>
        rcases hc with ⟨hc, ho⟩ | ⟨hc, ho⟩
        · have hc : v1 ≤ v0 := by simpa [cmpB, cnN] using hc
          exact k_icmp_le C hd hb (fun _ => cont ho (hok.2 b hh)) (fun q => absurd hc q)
        · have hc : ¬ (v1 ≤ v0) := by simpa [cmpB, cnN] using hc
          exact k_icmp_le C hd hb (fun q => absurd q hc) (fun _ => cont ho (nxt rfl))
    | ifCond q o =>
      obtain ⟨rfl, rfl, hb, hh, rfl⟩ := of_decide_eq_true hoi
      obtain ⟨v1, st, rfl, hc⟩ := inv_37 est
      cases q with
      | eq =>
        rcases hc with ⟨hc, ho⟩ | ⟨hc, ho⟩
        · have hc : v1 = 0 := by simpa [cmpB, cnN] using hc
          exact k_if_eq C hd hb (fun _ => cont ho (hok.2 b hh)) (fun q => absurd hc q)
        · have hc : ¬ (v1 = 0) := by simpa [cmpB, cnN] using hc
          exact k_if_eq C hd hb (fun q => absurd q hc) (fun _ => cont ho (nxt rfl))
      | ne =>
        rcases hc with ⟨hc, ho⟩ | ⟨hc, ho⟩
        · have hc : ¬ v1 = 0 := by simpa [cmpB, cnN] using hc
          exact k_if_ne C hd hb (fun _ => cont ho (hok.2 b hh)) (fun q => absurd hc q)
        · have hc : ¬ (¬ v1 = 0) := by simpa [cmpB, cnN] using hc
          exact k_if_ne C hd hb (fun q => absurd q hc) (fun _ => cont ho (nxt rfl))
      | lt =>
        rcases hc with ⟨hc, ho⟩ | ⟨hc, ho⟩
        · have hc : v1 < 0 := by simpa [cmpB, cnN] using hc
          exact k_if_lt C hd hb (fun _ => cont ho (hok.2 b hh)) (fun q => absurd hc q)
        · have hc : ¬ (v1 < 0) := by simpa [cmpB, cnN] using hc
          exact k_if_lt C hd hb (fun q => absurd q hc) (fun _ => cont ho (nxt rfl))
      | ge =>
        rcases hc with ⟨hc, ho⟩ | ⟨hc, ho⟩
        · have hc : 0 ≤ v1 := by simpa [cmpB, cnN] using hc
          exact k_if_ge C hd hb (fun _ => cont ho (hok.2 b hh)) (fun q => absurd hc q)
        · have hc : ¬ (0 ≤ v1) := by simpa [cmpB, cnN] using hc
          exact k_if_ge C hd hb (fun q => absurd q hc) (fun _ => cont ho (nxt rfl))
      | gt =>
        rcases hc with ⟨hc, ho⟩ | ⟨hc, ho⟩
        · have hc : 0 < v1 := by simpa [cmpB, cnN] using hc
          exact k_if_gt C hd hb (fun _ => cont ho (hok.2 b hh)) (fun q => absurd hc q)
        · have hc : ¬ (0 < v1) := by simpa [cmpB, cnN] using hc
          exact k_if_gt C hd hb (fun q => absurd q hc) (fun _ => cont ho (nxt rfl))
      | le =>
        rcases hc with ⟨hc, ho⟩ | ⟨hc, ho⟩
        · have hc : v1 ≤ 0 := by simpa [cmpB, cnN] using hc
          exact k_if_le C hd hb (fun _ => cont ho (hok.2 b hh)) (fun q => absurd hc q)
        · have hc : ¬ (v1 ≤ 0) := by simpa [cmpB, cnN] using hc
          exact k_if_le C hd hb (fun q => absurd q hc) (fun _ => cont ho (nxt rfl))
    | ifnull o =>
      obtain ⟨rfl, hb, hh, rfl⟩ := of_decide_eq_true hoi
      obtain ⟨t, q, st, rfl, hc⟩ := inv_38 est
      rcases hc with ⟨hc, ho⟩ | ⟨hc, ho⟩
      · exact k_ifnull C hd hb (fun _ => cont ho (hok.2 b hh)) (fun a' q => by rw [hc] at q; cases q)
      · exact k_ifnull C hd hb (fun q => absurd q hc) (fun _ _ => cont ho (nxt rfl))
    | ifnonnull o =>
      obtain ⟨rfl, hb, hh, rfl⟩ := of_decide_eq_true hoi
      obtain ⟨t, q, st, rfl, hc⟩ := inv_39 est
      rcases hc with ⟨hc, ho⟩ | ⟨hc, ho⟩
      · exact k_ifnonnull C hd hb (fun a' q => by rw [hc] at q; cases q) (fun _ => cont ho (nxt rfl))
      · exact k_ifnonnull C hd hb (fun _ _ => cont ho (hok.2 b hh)) (fun q => absurd q hc)
    | goto o =>
      obtain ⟨rfl, hb, hh, rfl⟩ := of_decide_eq_true hoi
      have ho : some (Sum.inl (σ, (mt i).2 a, ls, st)) = some out := est
      exact k_goto C hd hb (cont (Option.some.inj ho).symm (hok.2 a hh))
    | tableswitch dflt lo hi offs =>
      have hoi2 : (decide (op = 41 ∧ a = offs.size ∧ lo = 0 ∧ hi + 1 = a ∧ (pc : Int) + dflt = b ∧ b ∈ hdM i) && (List.range a).all (fun j => match offs[j]? with | some o => decide ((pc : Int) + o ≥ 0 ∧ ((pc : Int) + o).toNat ∈ hdM i ∧ (mt i).2 (100000 + j) = [(0, ((pc : Int) + o).toNat, 0, 0, 0)]) | none => false)) = true := hoi
      rw [Bool.and_eq_true, decide_eq_true_eq, List.all_eq_true] at hoi2
      obtain ⟨⟨rfl, ha, rfl, hhi, hb, hh⟩, hall⟩ := hoi2
      obtain ⟨v, st, rfl, hc⟩ := inv_41 est
      rcases hc with ⟨hc, ho⟩ | ⟨hc, ho⟩
      · have hj := hall v.toNat (List.mem_range.mpr (by omega))
        cases hof : offs[v.toNat]? with
        | none => rw [hof] at hj; exact nomatch hj
        | some o =>
          rw [hof] at hj
          obtain ⟨h1, h2, h3⟩ := of_decide_eq_true hj
          rw [h3] at ho
          have hck : chkM i ((pc : Int) + o).toNat [(0, ((pc : Int) + o).toNat, 0, 0, 0)] = true := by
            show (decide (((pc : Int) + o).toNat = ((pc : Int) + o).toNat) && decide (((pc : Int) + o).toNat ∈ hdM i)) = true
            simp [h2]
          exact k_swIn C hd (by omega) (by omega) (by rw [Int.sub_zero]; exact hof) (by omega) (cont ho hck)
      · exact k_swOut C hd (by omega) hb (cont ho (hok.2 b hh))
    | getfield k =>
      obtain ⟨h1, h2, h3, rfl, h4⟩ := of_decide_eq_true hoi
      rcases h4 with ⟨rfl, h4⟩ | ⟨rfl, h4⟩ | ⟨rfl, h4⟩
      · obtain ⟨t, q, st, rfl, rfl, ho⟩ := inv_45 est
        exact k_getI C hd h1 h2 h3 h4 (cont ho (nxt rfl))
      · obtain ⟨t, q, st, rfl, rfl, ho⟩ := inv_46 est
        exact k_getL C hd h1 h2 h3 h4 (cont ho (nxt rfl))
      · obtain ⟨t, q, st, rfl, rfl, ho⟩ := inv_47 est
        exact k_getR C hd h1 h2 h3 h4 (cont ho (nxt rfl))
    | putfield k =>
      obtain ⟨h1, h2, h3, rfl, h4, h5⟩ := of_decide_eq_true hoi
      have h5 : (fTb a b).2.2.2 = false ∨ ((fTb a b).2.2.2 = true ∧ meth.name = "<init>" ∧ (fTb a b).1 = cnm (ownM i)) := by
        rcases h5 with h5 | ⟨g1, g2, g3⟩
        · exact Or.inl h5
        · refine Or.inr ⟨g1, ?_, g3⟩
          rw [hname]
          exact of_decide_eq_true g2
      rcases h4 with ⟨rfl, h4, h6⟩ | ⟨rfl, h4⟩ | ⟨rfl, h4⟩
      · obtain ⟨v, t, q, st, rfl, hc, ho⟩ := inv_48 est
        obtain ⟨rfl, hc⟩ := hc
        exact k_putI C hd h1 h2 h3 h5 h4 (by omega) (cont ho (nxt rfl))
      · obtain ⟨v, t, q, st, rfl, rfl, ho⟩ := inv_49 est
        exact k_putL C hd h1 h2 h3 h5 h4 (cont ho (nxt rfl))
      · obtain ⟨u, v, t, q, st, rfl, hc, ho⟩ := inv_50 est
        obtain ⟨rfl, rfl⟩ := hc
        exact k_putR C hd h1 h2 h3 h5 h4 (cont ho (nxt rfl))
    | getstatic k =>
      obtain ⟨rfl, rfl, h1⟩ := of_decide_eq_true hoi
      obtain ⟨q, hq, ho⟩ := inv_51 est
      rcases h1 with ⟨h1, rfl, rfl⟩ | ⟨h1, rfl, rfl⟩ | ⟨h1, rfl, rfl⟩
      · refine k_gets C hd (Or.inl ⟨rfl, rfl⟩) ?_ hq (cont ho (nxt rfl))
        rw [h1]
        exact C.2.2.1 _ (gt_of (tOd_in _ (by simp [tOd])))
      · refine k_gets C hd (Or.inr ⟨rfl, rfl⟩) ?_ hq (cont ho (nxt rfl))
        rw [h1]
        exact C.2.2.1 _ (gt_of (tOd_in _ (by simp [tOd])))
      · exact k_getsN C h1 rfl hd hq (cont ho (nxt rfl))
    | iaload =>
      obtain ⟨rfl, rfl⟩ := of_decide_eq_true hoi
      obtain ⟨v, t, q, st, rfl, hc, ho⟩ := inv_52 est
      obtain ⟨rfl | rfl, hc⟩ := hc
      · exact k_iald C hd (inb_of hc) (cont ho (nxt rfl))
      · exact k_fald C hd (inb_of hc) (cont ho (nxt rfl))
    | laload =>
      obtain ⟨rfl, rfl⟩ := of_decide_eq_true hoi
      obtain ⟨v, t, q, st, rfl, ⟨rfl, hc⟩, ho⟩ := inv_53 est
      exact k_lald C hd (inb_of hc) (cont ho (nxt rfl))
    | baload =>
      obtain ⟨rfl | rfl, rfl⟩ := of_decide_eq_true hoi
      · obtain ⟨v, t, q, st, rfl, ⟨rfl, hc⟩, ho⟩ := inv_54 est
        exact k_bald C hd (inb_of hc) (cont ho (nxt rfl))
      · obtain ⟨v, t, q, st, rfl, ⟨rfl, hc⟩, ho⟩ := inv_55 est
        exact k_zald C hd (inb_of hc) (cont ho (nxt rfl))
    | aaload =>
      obtain ⟨rfl, hat, rfl⟩ := of_decide_eq_true hoi
      obtain ⟨v, t, q, st, rfl, ⟨rfl, hc⟩, ho⟩ := inv_56 est
      exact k_aald C hd hat (inb_of hc) (cont ho (nxt rfl))
    | iastore =>
      obtain ⟨rfl, rfl⟩ := of_decide_eq_true hoi
      obtain ⟨v, w, t, q, st, rfl, ⟨rfl, hc⟩, ho⟩ := inv_57 est
      exact k_iast C hd (inb_of hc) (cont ho (nxt rfl))
    | lastore =>
      obtain ⟨rfl, rfl⟩ := of_decide_eq_true hoi
      obtain ⟨v, w, t, q, st, rfl, ⟨rfl, hc⟩, ho⟩ := inv_58 est
      exact k_last C hd (inb_of hc) (cont ho (nxt rfl))
    | bastore =>
      obtain ⟨rfl | rfl, rfl⟩ := of_decide_eq_true hoi
      · obtain ⟨v, w, t, q, st, rfl, ⟨rfl, hc, hv⟩, ho⟩ := inv_59 est
        exact k_bast C hd (inb_of hc) hv (cont ho (nxt rfl))
      · obtain ⟨v, w, t, q, st, rfl, ⟨rfl, hc, hv⟩, ho⟩ := inv_60 est
        exact k_zast C hd (inb_of hc) hv (cont ho (nxt rfl))
    | aastore =>
      obtain ⟨rfl, hat, rfl⟩ := of_decide_eq_true hoi
      obtain ⟨u, v, w, t, q, st, rfl, ⟨rfl, rfl, hc⟩, ho⟩ := inv_61 est
      exact k_aast C hd hat (inb_of hc) (cont ho (nxt rfl))
    | arraylength =>
      obtain ⟨rfl, rfl⟩ := of_decide_eq_true hoi
      obtain ⟨t, q, st, rfl, ⟨ht, hc⟩, ho⟩ := inv_62 est
      exact k_alen C hd ht hc (cont ho (nxt rfl))
    | newarray y =>
      obtain ⟨rfl, rfl, ht⟩ := of_decide_eq_true hoi
      obtain ⟨v, st, rfl, hc, ho⟩ := inv_63 est
      have hm := mnS ho
      have e1 : nx (mk σ a v.toNat v.toNat) = nx σ + 1 := rfl
      have e2 : sl (mk σ a v.toNat v.toNat) = sl σ + v.toNat := rfl
      have := hm.1
      have := hm.2.1
      exact k_newa C hd ht hc hn0 hs0 (by omega) (by omega) (cont ho (nxt rfl))
    | anewarray k =>
      obtain ⟨rfl, rfl, ht⟩ := of_decide_eq_true hoi
      obtain ⟨v, st, rfl, hc, ho⟩ := inv_64 est
      have hm := mnS ho
      have e1 : nx (mk σ a v.toNat v.toNat) = nx σ + 1 := rfl
      have e2 : sl (mk σ a v.toNat v.toNat) = sl σ + v.toNat := rfl
      have := hm.1
      have := hm.2.1
      rcases ht with ⟨h1, rfl⟩ | ⟨h1, rfl⟩
      · exact k_anew C hd h1 (Or.inl ⟨rfl, rfl⟩) hc hn0 hs0 (by omega) (by omega) (cont ho (nxt rfl))
      · exact k_anew C hd h1 (Or.inr ⟨rfl, rfl⟩) hc hn0 hs0 (by omega) (by omega) (cont ho (nxt rfl))
    | multianewarray k n =>
      obtain ⟨rfl, rfl, ho4, rfl, rfl⟩ := of_decide_eq_true hoi
      obtain ⟨v, w, st, rfl, ⟨rfl, rfl⟩, ho⟩ := inv_65 est
      have hm := mnS ho
      have e1 : nx (mkM σ) = nx σ + 1 + 20 := mkM_nx σ
      have e2 : sl (mkM σ) = sl σ + 20 := mkM_sl σ
      have := hm.1
      have := hm.2.1
      exact k_multi C hd ho4 hn0 hs0 (by omega) (by omega) (cont ho (nxt rfl))
    | new k =>
      obtain ⟨rfl, rfl, h1, h2, rfl⟩ := of_decide_eq_true hoi
      have ho := inv_66 est
      have hm := mnS ho
      have e1 : nx (mk σ a 0 (nFl a)) = nx σ + 1 := rfl
      have e2 : sl (mk σ a 0 (nFl a)) = sl σ + nFl a := rfl
      have := hm.1
      have := hm.2.1
      exact k_new C hd h1 h2 hn0 hs0 (by omega) (by omega) (cont ho (nxt rfl))
    | invokestatic k =>
      obtain ⟨rfl, hcs⟩ := of_decide_eq_true hoi
      rcases hcs with ⟨rfl, hz, hl, hst, ha, rfl, hmx, hzl⟩ | ⟨h69, hl⟩ | ⟨rfl, hl⟩ | ⟨rfl, hl⟩
      · obtain ⟨as, st, rfl, hlen, hw, hwa, ho, hrec⟩ := inv_67 est
        subst ho
        dsimp only at h
        cases d with
        | zero => cases h
        | succ d1 =>
          dsimp only at h
          cases e2 : exec mt n d1 (mt a).2 σ ((mt a).2 0) (entL as (mt a).1) [] with
          | none => rw [e2] at h; cases h
          | some q =>
            rw [e2] at h
            obtain ⟨σ1, r1⟩ := q
            dsimp only at h
            have hmc := exec_mn e2
            have hmf := exec_mn h
            have := hmc.1
            have := hmc.2.1
            have := hmf.1
            have := hmf.2.1
            have hnx2 : chkM i (pc + 3) cs = true := nxt rfl
            intro H locs lsJ hR hl2 hL hO
            have hM : MetI G l d1 a σ as σ1 r1 := met_of ih e2 ha (by omega) (fun v hv => hO.1 v (List.mem_append_left _ (List.mem_reverse.mpr hv)))
            have kk : KW p l e R s m args below meth c Q G n0 s0 σ1 ls (r1 ++ st) (pc + 3) := ih h hi C hcode hname hnx2 hfr hlo (by omega) (by omega) hcells hslots hret
            rcases hl with hl | hl
            · exact k_callS C hd hl hst (iz_all a ha) hlen ha hM (by omega) (by omega) hmx hw hn0 hs0 (by omega) (by omega) (by omega) (by omega) hmc.2.2 kk H locs lsJ hR hl2 hL hO
            · exact k_callSN C hd hl hst (iz_all a ha) hlen ha hM (by omega) (by omega) hmx hw hn0 hs0 (by omega) (by omega) (by omega) (by omega) hmc.2.2 kk H locs lsJ hR hl2 hL hO
      · rcases h69 with rfl | rfl
        · obtain ⟨n', dp, sp, d', q, st, rfl, hh, hw, ho⟩ := inv_69 est
          exact k_cpyI C hd hl hh hw fr1 lo40 (cont ho (nxt rfl))
        · obtain ⟨n', dp, sp, d', q, st, rfl, hh, hw, ho⟩ := inv_70 est
          exact k_cpyL C hd hl hh hw fr1 lo40 (cont ho (nxt rfl))
      · obtain ⟨v0, v1, st, rfl, hw, ho⟩ := inv_75 est
        have := hmn.1
        have := hmn.2.1
        exact k_max C hd hl hw fr1 lo40 (by omega) (by omega) (cont ho (nxt rfl))
      · obtain ⟨v0, v1, st, rfl, hw, ho⟩ := inv_76 est
        have := hmn.1
        have := hmn.2.1
        exact k_min C hd hl hw fr1 lo40 (by omega) (by omega) (cont ho (nxt rfl))
    | invokevirtual k =>
      obtain ⟨rfl, rfl, hz, hl, hin, hse, ha, hu, hcl, hb, hmx, hzl⟩ := of_decide_eq_true hoi
      obtain ⟨as, st, rfl, hlen, hw, hwa, ho, hrec⟩ := inv_67 est
      subst ho
      dsimp only at h
      cases d with
      | zero => cases h
      | succ d1 =>
        dsimp only at h
        cases e2 : exec mt n d1 (mt a).2 σ ((mt a).2 0) (entL as (mt a).1) [] with
        | none => rw [e2] at h; cases h
        | some q =>
          rw [e2] at h
          obtain ⟨σ1, r1⟩ := q
          dsimp only at h
          have hmc := exec_mn e2
          have hmf := exec_mn h
          have := hmc.1
          have := hmc.2.1
          have := hmf.1
          have := hmf.2.1
          have hnx2 : chkM i (pc + 3) cs = true := nxt rfl
          intro H locs lsJ hR hl2 hL hO
          have hM : MetI G l d1 a σ as σ1 r1 := met_of ih e2 ha (by omega) (fun v hv => hO.1 v (List.mem_append_left _ (List.mem_reverse.mpr hv)))
          have kk : KW p l e R s m args below meth c Q G n0 s0 σ1 ls (r1 ++ st) (pc + 3) := ih h hi C hcode hname hnx2 hfr hlo (by omega) (by omega) hcells hslots hret
          rcases hrec with hrec | ⟨q, as0, rfl⟩
          · exact absurd hrec hz
          · exact k_callV C rfl hd hl hin hse (iz_all a ha) hu hcl (by rw [hb] at hlen; simpa using hlen) ha hM (by omega) (by omega) hmx hw hn0 hs0 (by omega) (by omega) (by omega) (by omega) hmc.2.2 kk H locs lsJ hR hl2 hL hO
    | invokespecial k =>
      obtain ⟨rfl, hcs⟩ := of_decide_eq_true hoi
      rcases hcs with ⟨rfl, hl⟩ | ⟨rfl, hz, hl, hin, ha, hnm, hrt, hb, hmx, hzl⟩
      · obtain ⟨t, q, st, rfl, hw, ho⟩ := inv_68 est
        exact k_oinit C hd hl hw fr1 (by omega) (cont ho (nxt rfl))
      · obtain ⟨as, st, rfl, hlen, hw, hwa, ho, hrec⟩ := inv_67 est
        subst ho
        dsimp only at h
        cases d with
        | zero => cases h
        | succ d1 =>
          dsimp only at h
          cases e2 : exec mt n d1 (mt a).2 σ ((mt a).2 0) (entL as (mt a).1) [] with
          | none => rw [e2] at h; cases h
          | some q =>
            rw [e2] at h
            obtain ⟨σ1, r1⟩ := q
            dsimp only at h
            have hmc := exec_mn e2
            have hmf := exec_mn h
            have := hmc.1
            have := hmc.2.1
            have := hmf.1
            have := hmf.2.1
            have hnx2 : chkM i (pc + 3) cs = true := nxt rfl
            intro H locs lsJ hR hl2 hL hO
            have hM : MetI G l d1 a σ as σ1 r1 := met_of ih e2 ha (by omega) (fun v hv => hO.1 v (List.mem_append_left _ (List.mem_reverse.mpr hv)))
            have kk : KW p l e R s m args below meth c Q G n0 s0 σ1 ls (r1 ++ st) (pc + 3) := ih h hi C hcode hname hnx2 hfr hlo (by omega) (by omega) hcells hslots hret
            rcases hrec with hrec | ⟨q, as0, rfl⟩
            · exact absurd hrec hz
            · exact k_callI C rfl hd hl hin (iz_all a ha) hnm hrt (by rw [hb] at hlen; simpa using hlen) ha hM (by omega) (by omega) hmx hw hn0 hs0 (by omega) (by omega) (by omega) (by omega) hmc.2.2 kk H locs lsJ hR hl2 hL hO
    | ireturn =>
      obtain ⟨rfl, rfl, h1⟩ := of_decide_eq_true hoi
      obtain ⟨v, rfl, hv, ho⟩ := inv_71 est
      subst ho
      cases h
      refine hret ls pc (Or.inl ⟨v, rfl, hd, ?_⟩)
      rcases h1 with ⟨rfl, h1⟩ | ⟨rfl, h1⟩
      · exact Or.inl h1
      · exact Or.inr ⟨h1, by omega⟩
    | lreturn =>
      obtain ⟨rfl, rfl, h1⟩ := of_decide_eq_true hoi
      obtain ⟨v, rfl, ho⟩ := inv_72 est
      subst ho
      cases h
      exact hret ls pc (Or.inr (Or.inl ⟨v, rfl, hd, h1⟩))
    | areturn =>
      have hoi2 : (decide (op = 73 ∧ len = 1) && (match (mI i).2.2.1 with | some (.object _) => true | some (.array _) => true | _ => false)) = true := hoi
      rw [Bool.and_eq_true, decide_eq_true_eq] at hoi2
      obtain ⟨⟨rfl, rfl⟩, h1⟩ := hoi2
      obtain ⟨t, v, rfl, ho⟩ := inv_73 est
      subst ho
      cases h
      refine hret ls pc (Or.inr (Or.inr (Or.inl ?_)))
      cases e3 : (mI i).2.2.1 with
      | none => rw [e3] at h1; exact nomatch h1
      | some rt =>
        rw [e3] at h1
        refine ⟨t, v, rt, rfl, hd, rfl, ?_⟩
        cases rt <;> first | exact Or.inl ⟨_, rfl⟩ | exact Or.inr ⟨_, rfl⟩ | exact nomatch h1
    | return_ =>
      obtain ⟨rfl, rfl, h1⟩ := of_decide_eq_true hoi
      obtain ⟨rfl, ho⟩ := inv_74 est
      subst ho
      cases h
      exact hret ls pc (Or.inr (Or.inr (Or.inr ⟨rfl, hd, h1⟩)))
    | _ => exact nomatch (show false = true from hoi)
end
