/-! THE LITTLE MACHINE: ints as Int (every sum, product and difference is looked at), longs as BitVec 64, references with a number for their type -/
abbrev Vl : Type := Int ⊕ (BitVec 64 ⊕ (Nat × Option Nat))
abbrev vI (x : Int) : Vl := .inl x
abbrev vL (x : BitVec 64) : Vl := .inr (.inl x)
abbrev vR (t : Nat) (r : Option Nat) : Vl := .inr (.inr (t, r))
abbrev Ls : Type := List (Option Vl)
/-- op, a, b, c, z -/
abbrev LI : Type := Nat × Nat × Nat × Nat × Int
/-- tags, lengths, ints, longs, references, the next address, slots made so far -/
abbrev St : Type := (Nat → Nat) × (Nat → Nat) × (Nat → Nat → Int) × (Nat → Nat → BitVec 64) × (Nat → Nat → Option Nat) × Nat × Nat
def tg (σ : St) : Nat → Nat := σ.1
def ln (σ : St) : Nat → Nat := σ.2.1
def gI (σ : St) : Nat → Nat → Int := σ.2.2.1
def gL (σ : St) : Nat → Nat → BitVec 64 := σ.2.2.2.1
def gR (σ : St) : Nat → Nat → Option Nat := σ.2.2.2.2.1
def nx (σ : St) : Nat := σ.2.2.2.2.2.1
def sl (σ : St) : Nat := σ.2.2.2.2.2.2
def up1 {α : Type} (f : Nat → α) (a : Nat) (v : α) : Nat → α := fun b => if b = a then v else f b
def up2 {α : Type} (f : Nat → Nat → α) (a k : Nat) (v : α) : Nat → Nat → α := fun b j => if b = a ∧ j = k then v else f b j
def wI (σ : St) (a k : Nat) (v : Int) : St := (tg σ, ln σ, up2 (gI σ) a k v, gL σ, gR σ, nx σ, sl σ)
def wL (σ : St) (a k : Nat) (v : BitVec 64) : St := (tg σ, ln σ, gI σ, up2 (gL σ) a k v, gR σ, nx σ, sl σ)
def wR (σ : St) (a k : Nat) (v : Option Nat) : St := (tg σ, ln σ, gI σ, gL σ, up2 (gR σ) a k v, nx σ, sl σ)
/-- the whole row of an address -/
def aI (σ : St) (a : Nat) (f : Nat → Int) : St := (tg σ, ln σ, up1 (gI σ) a f, gL σ, gR σ, nx σ, sl σ)
def aL (σ : St) (a : Nat) (f : Nat → BitVec 64) : St := (tg σ, ln σ, gI σ, up1 (gL σ) a f, gR σ, nx σ, sl σ)
/-- a new cell of type t, of n places, s slots -/
def mk (σ : St) (t n s : Nat) : St := (up1 (tg σ) (nx σ) t, up1 (ln σ) (nx σ) n, up1 (gI σ) (nx σ) (fun _ => 0), up1 (gL σ) (nx σ) (fun _ => 0), up1 (gR σ) (nx σ) (fun _ => none), nx σ + 1, sl σ + s)
abbrev Rg (x : Int) : Prop := -2147483648 ≤ x ∧ x ≤ 2147483647
theorem Rg_iff (x : Int) : Rg x ↔ (-2147483648 ≤ x ∧ x ≤ 2147483647) := Iff.rfl
def rgB (x : Int) : Bool := decide (-2147483648 ≤ x) && decide (x ≤ 2147483647)
theorem rgB_iff (x : Int) : rgB x = true ↔ Rg x := by simp [rgB, Rg]
def iAnd (a b : Int) : Int := (Int32.ofInt a &&& Int32.ofInt b).toInt
def iOr (a b : Int) : Int := (Int32.ofInt a ||| Int32.ofInt b).toInt
def iXor (a b : Int) : Int := (Int32.ofInt a ^^^ Int32.ofInt b).toInt
def iShl (a b : Int) : Int := (Int32.ofInt a <<< (Int32.ofInt b &&& 31)).toInt
def iShr (a b : Int) : Int := (Int32.ofInt a >>> (Int32.ofInt b &&& 31)).toInt
def iUshr (a b : Int) : Int := ((Int32.ofInt a).toUInt32 >>> ((Int32.ofInt b).toUInt32 &&& Int32.toUInt32 31)).toInt32.toInt
def lShl (x : BitVec 64) (k : Int) : BitVec 64 := (Int64.ofBitVec x <<< ((Int32.ofInt k).toInt64 &&& 63)).toBitVec
def lShr (x : BitVec 64) (k : Int) : BitVec 64 := (Int64.ofBitVec x >>> ((Int32.ofInt k).toInt64 &&& 63)).toBitVec
def lUshr (x : BitVec 64) (k : Int) : BitVec 64 := ((Int64.ofBitVec x).toUInt64 >>> ((Int32.ofInt k).toInt64.toUInt64 &&& Int64.toUInt64 63)).toInt64.toBitVec
def lCmp (x y : BitVec 64) : Int := if y.toInt < x.toInt then 1 else if x.toInt = y.toInt then 0 else -1
def i2b (a : Int) : Int := (Int32.ofInt a).toInt8.toInt32.toInt
def l2i (x : BitVec 64) : Int := (Int64.ofBitVec x).toInt32.toInt
def cat (v : Vl) : Nat := match v with | .inr (.inl _) => 2 | _ => 1
/-- a local below i that is a long is lost when i is written -/
def lInv (ls : Ls) (i : Nat) : Ls := match i with
  | 0 => ls
  | j + 1 => match ls[j]? with
    | some (some (.inr (.inl _))) => ls.set j none
    | _ => ls
def lSet1 (ls : Ls) (i : Nat) (v : Vl) : Ls := (lInv ls i).set i (some v)
def lSet2 (ls : Ls) (i : Nat) (v : Vl) : Ls := ((lInv ls i).set i (some v)).set (i + 1) none
def lEnt (as : List Vl) : Ls := as.flatMap fun v => if cat v = 2 then [some v, none] else [some v]
def entL (as : List Vl) (n : Nat) : Ls := lEnt as ++ List.replicate (n - (lEnt as).length) none
def stW (st : List Vl) : Nat := (st.map cat).sum
def cmpB (c : Nat) (a b : Int) : Bool := match c with
  | 0 => decide (a = b)
  | 1 => !decide (a = b)
  | 2 => decide (a < b)
  | 3 => decide (b ≤ a)
  | 4 => decide (b < a)
  | _ => decide (a ≤ b)
/-- an index that lies within -/
def inbB (i : Int) (n : Nat) : Bool := decide (0 ≤ i) && decide (i < n)
abbrev Out : Type := (St × List LI × Ls × List Vl) ⊕ ((Nat × List Vl × List LI × List Vl) ⊕ List Vl)
def oN (σ : St) (cs : List LI) (ls : Ls) (st : List Vl) : Option Out := some (.inl (σ, cs, ls, st))
def cpyF {α : Type} (f g : Nat → α) (sp dp n : Nat) : Nat → α := fun k => if dp ≤ k ∧ k < dp + n then f (sp + (k - dp)) else g k
def s_load (σ : St) (cs : List LI) (ls : Ls) (st : List Vl) (op a : Nat) : Option Out :=
  if op = 1 then (match ls[a]? with | some (some (.inl x)) => oN σ cs ls (.inl x :: st) | _ => none)
  else if op = 2 then (match ls[a]? with | some (some (.inr (.inl x))) => oN σ cs ls (.inr (.inl x) :: st) | _ => none)
  else if op = 3 then (match ls[a]? with | some (some (.inr (.inr x))) => oN σ cs ls (.inr (.inr x) :: st) | _ => none)
  else none
def s_store (σ : St) (cs : List LI) (ls : Ls) (st : List Vl) (op a : Nat) : Option Out :=
  if op = 4 then (match st with | .inl x :: st => if a < ls.length then oN σ cs (lSet1 ls a (.inl x)) st else none | _ => none)
  else if op = 5 then (match st with | .inr (.inl x) :: st => if a + 1 < ls.length then oN σ cs (lSet2 ls a (.inr (.inl x))) st else none | _ => none)
  else if op = 6 then (match st with | .inr (.inr x) :: st => if a < ls.length then oN σ cs (lSet1 ls a (.inr (.inr x))) st else none | _ => none)
  else none
def s_ar (σ : St) (cs : List LI) (ls : Ls) (st : List Vl) (op : Nat) : Option Out := match st with
  | .inl b :: .inl a :: st =>
    if op = 10 then (if rgB (a + b) then oN σ cs ls (.inl (a + b) :: st) else none)
    else if op = 11 then (if rgB (a - b) then oN σ cs ls (.inl (a - b) :: st) else none)
    else if op = 12 then (if rgB (a * b) then oN σ cs ls (.inl (a * b) :: st) else none)
    else if op = 13 then (if 0 ≤ a ∧ 0 < b then oN σ cs ls (.inl (a / b) :: st) else none)
    else if op = 14 then (if 0 ≤ a ∧ 0 < b then oN σ cs ls (.inl (a % b) :: st) else none)
    else if op = 16 then (oN σ cs ls (.inl (iShl a b) :: st))
    else if op = 17 then (oN σ cs ls (.inl (iShr a b) :: st))
    else if op = 18 then (oN σ cs ls (.inl (iUshr a b) :: st))
    else if op = 19 then (oN σ cs ls (.inl (iAnd a b) :: st))
    else if op = 20 then (oN σ cs ls (.inl (iOr a b) :: st))
    else if op = 21 then (oN σ cs ls (.inl (iXor a b) :: st))
    else none
  | _ => none
def s_lar (σ : St) (cs : List LI) (ls : Ls) (st : List Vl) (op : Nat) : Option Out := match st with
  | .inr (.inl b) :: .inr (.inl a) :: st =>
    if op = 22 then (oN σ cs ls (.inr (.inl (a + b)) :: st))
    else if op = 23 then (oN σ cs ls (.inr (.inl (a - b)) :: st))
    else if op = 25 then (oN σ cs ls (.inr (.inl (a &&& b)) :: st))
    else if op = 26 then (oN σ cs ls (.inr (.inl (a ||| b)) :: st))
    else if op = 27 then (oN σ cs ls (.inr (.inl (a ^^^ b)) :: st))
    else if op = 31 then (oN σ cs ls (.inl (lCmp a b) :: st))
    else none
  | _ => none
def s_lsh (σ : St) (cs : List LI) (ls : Ls) (st : List Vl) (op : Nat) : Option Out := match st with
  | .inl b :: .inr (.inl a) :: st =>
    if op = 28 then (oN σ cs ls (.inr (.inl (lShl a b)) :: st))
    else if op = 29 then (oN σ cs ls (.inr (.inl (lShr a b)) :: st))
    else if op = 30 then (oN σ cs ls (.inr (.inl (lUshr a b)) :: st))
    else none
  | _ => none
def s_un (σ : St) (cs : List LI) (ls : Ls) (st : List Vl) (op : Nat) : Option Out :=
  if op = 24 then (match st with | .inr (.inl a) :: st => oN σ cs ls (.inr (.inl (-a)) :: st) | _ => none)
  else if op = 32 then (match st with | .inl a :: st => oN σ cs ls (.inr (.inl (BitVec.ofInt 64 a)) :: st) | _ => none)
  else if op = 33 then (match st with | .inr (.inl a) :: st => oN σ cs ls (.inl (l2i a) :: st) | _ => none)
  else if op = 34 then (match st with | .inl a :: st => oN σ cs ls (.inl (i2b a) :: st) | _ => none)
  else if op = 42 then (match st with | v :: st => if cat v = 1 then oN σ cs ls (v :: v :: st) else none | _ => none)
  else if op = 43 then (match st with | v :: w :: st => if cat v = 1 ∧ cat w = 1 then oN σ cs ls (v :: w :: v :: w :: st) else none | _ => none)
  else if op = 44 then (match st with | v :: st => if cat v = 1 then oN σ cs ls st else none | _ => none)
  else none
def s_inc (σ : St) (cs : List LI) (ls : Ls) (st : List Vl) (a : Nat) (z : Int) : Option Out := match ls[a]? with
  | some (some (.inl x)) => if rgB (x + z) then oN σ cs (lSet1 ls a (.inl (x + z))) st else none
  | _ => none
def s_br (M : Nat → List LI) (σ : St) (cs : List LI) (ls : Ls) (st : List Vl) (op a b : Nat) : Option Out :=
  if op = 36 then (match st with | .inl y :: .inl x :: st => if cmpB a x y then oN σ (M b) ls st else oN σ cs ls st | _ => none)
  else if op = 37 then (match st with | .inl x :: st => if cmpB a x 0 then oN σ (M b) ls st else oN σ cs ls st | _ => none)
  else if op = 38 then (match st with | .inr (.inr (_, none)) :: st => oN σ (M b) ls st | .inr (.inr (_, some _)) :: st => oN σ cs ls st | _ => none)
  else if op = 39 then (match st with | .inr (.inr (_, none)) :: st => oN σ cs ls st | .inr (.inr (_, some _)) :: st => oN σ (M b) ls st | _ => none)
  else if op = 41 then (match st with | .inl x :: st => if 0 ≤ x ∧ x < a then oN σ (M (100000 + x.toNat)) ls st else oN σ (M b) ls st | _ => none)
  else none
def s_fld (σ : St) (cs : List LI) (ls : Ls) (st : List Vl) (op a b c : Nat) : Option Out :=
  if op = 45 then (match st with | .inr (.inr (t, some q)) :: st => if t = a then oN σ cs ls (.inl (gI σ q b) :: st) else none | _ => none)
  else if op = 46 then (match st with | .inr (.inr (t, some q)) :: st => if t = a then oN σ cs ls (.inr (.inl (gL σ q b)) :: st) else none | _ => none)
  else if op = 47 then (match st with | .inr (.inr (t, some q)) :: st => if t = a then oN σ cs ls (.inr (.inr (c, gR σ q b)) :: st) else none | _ => none)
  else if op = 48 then (match st with | .inl v :: .inr (.inr (t, some q)) :: st => if t = a ∧ (c = 0 ∨ (0 ≤ v ∧ v ≤ 1)) then oN (wI σ q b v) cs ls st else none | _ => none)
  else if op = 49 then (match st with | .inr (.inl v) :: .inr (.inr (t, some q)) :: st => if t = a then oN (wL σ q b v) cs ls st else none | _ => none)
  else if op = 50 then (match st with | .inr (.inr (u, v)) :: .inr (.inr (t, some q)) :: st => if t = a ∧ u = c then oN (wR σ q b v) cs ls st else none | _ => none)
  else none
def s_arr (σ : St) (cs : List LI) (ls : Ls) (st : List Vl) (op a c : Nat) : Option Out :=
  if op = 52 then (match st with | .inl i :: .inr (.inr (t, some q)) :: st => if (t = 14 ∨ t = 20) ∧ inbB i (ln σ q) then oN σ cs ls (.inl (gI σ q i.toNat) :: st) else none | _ => none)
  else if op = 53 then (match st with | .inl i :: .inr (.inr (t, some q)) :: st => if t = 15 ∧ inbB i (ln σ q) then oN σ cs ls (.inr (.inl (gL σ q i.toNat)) :: st) else none | _ => none)
  else if op = 54 then (match st with | .inl i :: .inr (.inr (t, some q)) :: st => if t = 13 ∧ inbB i (ln σ q) then oN σ cs ls (.inl (gI σ q i.toNat) :: st) else none | _ => none)
  else if op = 55 then (match st with | .inl i :: .inr (.inr (t, some q)) :: st => if t = 16 ∧ inbB i (ln σ q) then oN σ cs ls (.inl (gI σ q i.toNat) :: st) else none | _ => none)
  else if op = 56 then (match st with | .inl i :: .inr (.inr (t, some q)) :: st => if t = a ∧ inbB i (ln σ q) then oN σ cs ls (.inr (.inr (c, gR σ q i.toNat)) :: st) else none | _ => none)
  else if op = 57 then (match st with | .inl v :: .inl i :: .inr (.inr (t, some q)) :: st => if t = 14 ∧ inbB i (ln σ q) then oN (wI σ q i.toNat v) cs ls st else none | _ => none)
  else if op = 58 then (match st with | .inr (.inl v) :: .inl i :: .inr (.inr (t, some q)) :: st => if t = 15 ∧ inbB i (ln σ q) then oN (wL σ q i.toNat v) cs ls st else none | _ => none)
  else if op = 59 then (match st with | .inl v :: .inl i :: .inr (.inr (t, some q)) :: st => if t = 13 ∧ inbB i (ln σ q) ∧ -128 ≤ v ∧ v ≤ 127 then oN (wI σ q i.toNat v) cs ls st else none | _ => none)
  else if op = 60 then (match st with | .inl v :: .inl i :: .inr (.inr (t, some q)) :: st => if t = 16 ∧ inbB i (ln σ q) ∧ 0 ≤ v ∧ v ≤ 1 then oN (wI σ q i.toNat v) cs ls st else none | _ => none)
  else if op = 61 then (match st with | .inr (.inr (u, some v)) :: .inl i :: .inr (.inr (t, some q)) :: st => if t = a ∧ u = c ∧ inbB i (ln σ q) then oN (wR σ q i.toNat (some v)) cs ls st else none | _ => none)
  else if op = 62 then (match st with | .inr (.inr (t, some q)) :: st => if (13 ≤ t ∧ t ≤ 20) ∧ (ln σ q : Int) < 2147483648 then oN σ cs ls (.inl (ln σ q) :: st) else none | _ => none)
  else none
/-- n empty rows of longs, one behind the other -/
def mkN (σ : St) : Nat → St
  | 0 => σ
  | n + 1 => mk (mkN σ n) 15 0 0
/-- new long[n][0] -/
def mkX (σ : St) (n : Nat) : St := (tg (mkN (mk σ 19 n n) n), ln (mkN (mk σ 19 n n) n), gI (mkN (mk σ 19 n n) n), gL (mkN (mk σ 19 n n) n), up1 (gR (mkN (mk σ 19 n n) n)) (nx σ) (fun k => if k < n then some (nx σ + 1 + k) else none), nx (mkN (mk σ 19 n n) n), sl (mkN (mk σ 19 n n) n))
def mkM (σ : St) : St := mkX σ 20
def s_new (σ : St) (cs : List LI) (ls : Ls) (st : List Vl) (op a c : Nat) : Option Out :=
  if op = 63 then (match st with | .inl n :: st => if 0 ≤ n ∧ n ≤ 1000000 then oN (mk σ a n.toNat n.toNat) cs ls (.inr (.inr (a, some (nx σ))) :: st) else none | _ => none)
  else if op = 64 then (match st with | .inl n :: st => if 0 ≤ n ∧ n ≤ 1000000 then oN (mk σ a n.toNat n.toNat) cs ls (.inr (.inr (a, some (nx σ))) :: st) else none | _ => none)
  else if op = 66 then oN (mk σ a 0 c) cs ls (.inr (.inr (a, some (nx σ))) :: st)
  else none
def s_cpy (σ : St) (cs : List LI) (ls : Ls) (st : List Vl) (op : Nat) : Option Out := match st with
  | .inl n :: .inl dp :: .inr (.inr (t, some d)) :: .inl sp :: .inr (.inr (u, some q)) :: st =>
    if 0 ≤ n ∧ 0 ≤ dp ∧ 0 ≤ sp ∧ sp + n ≤ ln σ q ∧ dp + n ≤ ln σ d ∧ stW st ≤ 8 then
      if op = 69 then if t = 14 ∧ u = 14 then oN (aI σ d (cpyF (gI σ q) (gI σ d) sp.toNat dp.toNat n.toNat)) cs ls st else none
      else if t = 15 ∧ u = 15 then oN (aL σ d (cpyF (gL σ q) (gL σ d) sp.toNat dp.toNat n.toNat)) cs ls st else none
    else none
  | _ => none
/-- the first n of the stack, the deepest first, and the rest -/
def takeA (n : Nat) (st : List Vl) : Option (List Vl × List Vl) := if n ≤ st.length then some ((st.take n).reverse, st.drop n) else none
def s_inv (cs : List LI) (st : List Vl) (a b c : Nat) (z : Int) : Option Out := match takeA b st with
  | some (as, st') => if stW st' ≤ 8 ∧ (2 * stW as : Int) ≤ z then
      if z % 2 = 0 then some (.inr (.inl (a, as, cs, st')))
      else match as with
        | .inr (.inr (t, some _)) :: _ => if t = c then some (.inr (.inl (a, as, cs, st'))) else none
        | _ => none
    else none
  | none => none
def s_ret (st : List Vl) (op a : Nat) : Option Out :=
  if op = 71 then (match st with | [.inl v] => if a = 0 ∨ (0 ≤ v ∧ v ≤ 1) then some (.inr (.inr [.inl v])) else none | _ => none)
  else if op = 72 then (match st with | [.inr (.inl v)] => some (.inr (.inr [.inr (.inl v)])) | _ => none)
  else if op = 73 then (match st with | [.inr (.inr v)] => some (.inr (.inr [.inr (.inr v)])) | _ => none)
  else if op = 74 then (match st with | [] => some (.inr (.inr [])) | _ => none)
  else none
/-- the number of the two static rows, at the addresses that the start gives -/
def stA (σ : St) (a : Nat) : Option Nat := gR σ 0 (1000 + a)
def iMax (x y : Int) : Int := if x < y then y else x
def iMin (x y : Int) : Int := if y < x then y else x
def s_mm (σ : St) (cs : List LI) (ls : Ls) (st : List Vl) (op : Nat) : Option Out :=
  if op = 75 then (match st with | .inl y :: .inl x :: st => if stW st ≤ 8 then oN σ cs ls (.inl (iMax x y) :: st) else none | _ => none)
  else if op = 76 then (match st with | .inl y :: .inl x :: st => if stW st ≤ 8 then oN σ cs ls (.inl (iMin x y) :: st) else none | _ => none)
  else none
def step (M : Nat → List LI) (σ : St) (cs : List LI) (ls : Ls) (st : List Vl) : Option Out := match cs with
  | [] => none
  | (op, a, b, c, z) :: cs =>
    if op = 0 then oN σ (M a) ls st
    else if op ≤ 3 then s_load σ cs ls st op a
    else if op ≤ 6 then s_store σ cs ls st op a
    else if op = 7 then if rgB z then oN σ cs ls (.inl z :: st) else none
    else if op = 8 then oN σ cs ls (.inr (.inl (BitVec.ofInt 64 z)) :: st)
    else if op = 9 then oN σ cs ls (.inr (.inr (a, none)) :: st)
    else if op = 24 then s_un σ cs ls st op
    else if op ≤ 21 then s_ar σ cs ls st op
    else if op ≤ 27 ∨ op = 31 then s_lar σ cs ls st op
    else if op ≤ 30 then s_lsh σ cs ls st op
    else if op ≤ 34 then s_un σ cs ls st op
    else if op = 35 then s_inc σ cs ls st a z
    else if op ≤ 39 then s_br M σ cs ls st op a b
    else if op = 40 then oN σ (M a) ls st
    else if op = 41 then s_br M σ cs ls st op a b
    else if op ≤ 44 then s_un σ cs ls st op
    else if op ≤ 50 then s_fld σ cs ls st op a b c
    else if op = 51 then match stA σ a with | some q => oN σ cs ls (.inr (.inr (20, some q)) :: st) | none => none
    else if op ≤ 62 then s_arr σ cs ls st op a c
    else if op = 65 then match st with
      | .inl n :: .inl m :: st => if n = 0 ∧ m = 20 then oN (mkM σ) cs ls (.inr (.inr (19, some (nx σ))) :: st) else none
      | _ => none
    else if op ≤ 66 then s_new σ cs ls st op a c
    else if op = 67 then s_inv cs st a b c z
    else if op = 68 then match st with
      | .inr (.inr (_, some _)) :: st => if stW st ≤ 8 then oN σ cs ls st else none
      | _ => none
    else if op ≤ 70 then s_cpy σ cs ls st op
    else if op ≤ 74 then s_ret st op a
    else s_mm σ cs ls st op


/-! running: n steps at most, d calls deep at most -/
def exec (mt : Nat → Nat × (Nat → List LI)) : Nat → Nat → (Nat → List LI) → St → List LI → Ls → List Vl → Option (St × List Vl)
  | 0, _, _, _, _, _, _ => none
  | n + 1, d, M, σ, cs, ls, st => match step M σ cs ls st with
    | none => none
    | some (.inl (σ', cs', ls', st')) => exec mt n d M σ' cs' ls' st'
    | some (.inr (.inl (i, as, cs', st'))) => match d with
      | 0 => none
      | d' + 1 => match exec mt n d' (mt i).2 σ ((mt i).2 0) (entL as (mt i).1) [] with
        | none => none
        | some (σ', r) => exec mt n d M σ' cs' ls (r ++ st')
    | some (.inr (.inr r)) => some (σ, r)
theorem exec_le {mt : Nat → Nat × (Nat → List LI)} : ∀ {n n' d d' : Nat} {M : Nat → List LI} {σ : St} {cs : List LI} {ls : Ls} {st : List Vl} {r : St × List Vl}, n ≤ n' → d ≤ d' → exec mt n d M σ cs ls st = some r → exec mt n' d' M σ cs ls st = some r
  | 0, _, _, _, _, _, _, _, _, _, _, _, h => by simp [exec] at h
  | n + 1, 0, d, d', M, σ, cs, ls, st, r, hn, hd, h => by omega
  | n + 1, n' + 1, d, d', M, σ, cs, ls, st, r, hn, hd, h => by
    have hn : n ≤ n' := by omega
    rw [exec] at h ⊢
    cases e : step M σ cs ls st with
    | none => rw [e] at h; cases h
    | some o =>
      rw [e] at h
      rcases o with ⟨σ', cs', ls', st'⟩ | ⟨i, as, cs', st'⟩ | q
      · exact exec_le hn hd h
      · dsimp only at h ⊢
        cases d with
        | zero => cases h
        | succ d1 =>
          cases d' with
          | zero => omega
          | succ d2 =>
            dsimp only at h ⊢
            cases e2 : exec mt n d1 (mt i).2 σ ((mt i).2 0) (entL as (mt i).1) [] with
            | none => rw [e2] at h; cases h
            | some q =>
              rw [e2] at h
              rw [exec_le hn (by omega) e2]
              exact exec_le hn hd h
      · exact h
/-- from here the method comes to its end with r -/
def Gx (mt : Nat → Nat × (Nat → List LI)) (d : Nat) (M : Nat → List LI) (σ : St) (cs : List LI) (ls : Ls) (st : List Vl) (r : St × List Vl) : Prop := ∃ n, exec mt n d M σ cs ls st = some r
/-- the method i, called so, comes to its end -/
def Ex (mt : Nat → Nat × (Nat → List LI)) (d i : Nat) (σ : St) (as : List Vl) (r : St × List Vl) : Prop := Gx mt d (mt i).2 σ ((mt i).2 0) (entL as (mt i).1) [] r
theorem Ex.up {mt : Nat → Nat × (Nat → List LI)} {d d' i : Nat} {σ : St} {as : List Vl} {r : St × List Vl} (h : Ex mt d i σ as r) (hd : d ≤ d') : Ex mt d' i σ as r := by
  obtain ⟨n, h⟩ := h
  exact ⟨n, exec_le (Nat.le_refl _) hd h⟩
theorem Gx.one {mt : Nat → Nat × (Nat → List LI)} {d : Nat} {M : Nat → List LI} {σ σ' : St} {cs cs' : List LI} {ls ls' : Ls} {st st' : List Vl} {r : St × List Vl} (h : step M σ cs ls st = some (.inl (σ', cs', ls', st'))) (k : Gx mt d M σ' cs' ls' st' r) : Gx mt d M σ cs ls st r := by
  obtain ⟨n, k⟩ := k
  exact ⟨n + 1, by rw [exec, h]; exact k⟩
theorem Gx.ret {mt : Nat → Nat × (Nat → List LI)} {d : Nat} {M : Nat → List LI} {σ : St} {cs : List LI} {ls : Ls} {st r : List Vl} (h : step M σ cs ls st = some (.inr (.inr r))) : Gx mt d M σ cs ls st (σ, r) := ⟨1, by rw [exec, h]⟩
theorem Gx.call {mt : Nat → Nat × (Nat → List LI)} {d d' i : Nat} {M : Nat → List LI} {σ σ' : St} {cs cs' : List LI} {ls : Ls} {st st' as q : List Vl} {r : St × List Vl} (h : step M σ cs ls st = some (.inr (.inl (i, as, cs', st')))) (hd : d' < d) (hc : Ex mt d' i σ as (σ', q)) (k : Gx mt d M σ' cs' ls (q ++ st') r) : Gx mt d M σ cs ls st r := by
  obtain ⟨n, k⟩ := k
  obtain ⟨n2, hc⟩ := hc
  obtain ⟨d1, rfl⟩ : ∃ d1, d = d1 + 1 := ⟨d - 1, by omega⟩
  refine ⟨max n n2 + 1, ?_⟩
  rw [exec, h]
  dsimp only
  rw [exec_le (Nat.le_max_right n n2) (by omega) hc]
  exact exec_le (Nat.le_max_left n n2) (Nat.le_refl _) k
theorem go_fall {mt : Nat → Nat × (Nat → List LI)} {d : Nat} {M : Nat → List LI} {σ : St} {cs : List LI} {ls : Ls} {st : List Vl} {r : St × List Vl} {xa xb xc : Nat} {xz : Int}  (k : Gx mt d M σ (M xa) ls st r) : Gx mt d M σ ((0, xa, xb, xc, xz) :: cs) ls st r := Gx.one (by simp [step, oN, true_and]) k
theorem go_loadI {mt : Nat → Nat × (Nat → List LI)} {d : Nat} {M : Nat → List LI} {σ : St} {cs : List LI} {ls : Ls} {st : List Vl} {r : St × List Vl} {xa xb xc : Nat} {xz : Int} {x : Int} (h : ls[xa]? = some (some (vI x))) (k : Gx mt d M σ cs ls (vI x :: st) r) : Gx mt d M σ ((1, xa, xb, xc, xz) :: cs) ls st r := Gx.one (by simp [step, oN, s_load, h]) k
theorem go_loadL {mt : Nat → Nat × (Nat → List LI)} {d : Nat} {M : Nat → List LI} {σ : St} {cs : List LI} {ls : Ls} {st : List Vl} {r : St × List Vl} {xa xb xc : Nat} {xz : Int} {x : BitVec 64} (h : ls[xa]? = some (some (vL x))) (k : Gx mt d M σ cs ls (vL x :: st) r) : Gx mt d M σ ((2, xa, xb, xc, xz) :: cs) ls st r := Gx.one (by simp [step, oN, s_load, h]) k
theorem go_loadA {mt : Nat → Nat × (Nat → List LI)} {d : Nat} {M : Nat → List LI} {σ : St} {cs : List LI} {ls : Ls} {st : List Vl} {r : St × List Vl} {xa xb xc : Nat} {xz : Int} {t : Nat} {q : Option Nat} (h : ls[xa]? = some (some (vR t q))) (k : Gx mt d M σ cs ls (vR t q :: st) r) : Gx mt d M σ ((3, xa, xb, xc, xz) :: cs) ls st r := Gx.one (by simp [step, oN, s_load, h]) k
theorem go_stoI {mt : Nat → Nat × (Nat → List LI)} {d : Nat} {M : Nat → List LI} {σ : St} {cs : List LI} {ls : Ls} {st : List Vl} {r : St × List Vl} {xa xb xc : Nat} {xz : Int} {x : Int} {ls' : Ls} (h : (decide (xa < ls.length)) = true) (e : lSet1 ls xa (vI x) = ls') (k : Gx mt d M σ cs ls' st r) : Gx mt d M σ ((4, xa, xb, xc, xz) :: cs) ls (vI x :: st) r := Gx.one (by simp [step, oN, s_store, of_decide_eq_true h, ← e]) k
theorem go_stoL {mt : Nat → Nat × (Nat → List LI)} {d : Nat} {M : Nat → List LI} {σ : St} {cs : List LI} {ls : Ls} {st : List Vl} {r : St × List Vl} {xa xb xc : Nat} {xz : Int} {x : BitVec 64} {ls' : Ls} (h : (decide (xa + 1 < ls.length)) = true) (e : lSet2 ls xa (vL x) = ls') (k : Gx mt d M σ cs ls' st r) : Gx mt d M σ ((5, xa, xb, xc, xz) :: cs) ls (vL x :: st) r := Gx.one (by simp [step, oN, s_store, of_decide_eq_true h, ← e]) k
theorem go_stoA {mt : Nat → Nat × (Nat → List LI)} {d : Nat} {M : Nat → List LI} {σ : St} {cs : List LI} {ls : Ls} {st : List Vl} {r : St × List Vl} {xa xb xc : Nat} {xz : Int} {t : Nat} {q : Option Nat} {ls' : Ls} (h : (decide (xa < ls.length)) = true) (e : lSet1 ls xa (vR t q) = ls') (k : Gx mt d M σ cs ls' st r) : Gx mt d M σ ((6, xa, xb, xc, xz) :: cs) ls (vR t q :: st) r := Gx.one (by simp [step, oN, s_store, of_decide_eq_true h, ← e]) k
theorem go_pushI {mt : Nat → Nat × (Nat → List LI)} {d : Nat} {M : Nat → List LI} {σ : St} {cs : List LI} {ls : Ls} {st : List Vl} {r : St × List Vl} {xa xb xc : Nat} {xz : Int} (h : rgB xz = true) (k : Gx mt d M σ cs ls (vI xz :: st) r) : Gx mt d M σ ((7, xa, xb, xc, xz) :: cs) ls st r := Gx.one (by simp [step, oN, h]) k
theorem go_pushL {mt : Nat → Nat × (Nat → List LI)} {d : Nat} {M : Nat → List LI} {σ : St} {cs : List LI} {ls : Ls} {st : List Vl} {r : St × List Vl} {xa xb xc : Nat} {xz : Int} {x : BitVec 64} (h : BitVec.ofInt 64 xz = x) (k : Gx mt d M σ cs ls (vL x :: st) r) : Gx mt d M σ ((8, xa, xb, xc, xz) :: cs) ls st r := Gx.one (by simp [step, oN, h]) k
theorem go_null {mt : Nat → Nat × (Nat → List LI)} {d : Nat} {M : Nat → List LI} {σ : St} {cs : List LI} {ls : Ls} {st : List Vl} {r : St × List Vl} {xa xb xc : Nat} {xz : Int}  (k : Gx mt d M σ cs ls (vR xa none :: st) r) : Gx mt d M σ ((9, xa, xb, xc, xz) :: cs) ls st r := Gx.one (by simp [step, oN, true_and]) k
theorem go_iadd {mt : Nat → Nat × (Nat → List LI)} {d : Nat} {M : Nat → List LI} {σ : St} {cs : List LI} {ls : Ls} {st : List Vl} {r : St × List Vl} {xa xb xc : Nat} {xz : Int} {p q : Int} (h : Rg (p + q)) (k : Gx mt d M σ cs ls (vI (p + q) :: st) r) : Gx mt d M σ ((10, xa, xb, xc, xz) :: cs) ls (vI q :: vI p :: st) r := Gx.one (by simp [step, oN, s_ar, (rgB_iff _).mpr h]) k
theorem go_isub {mt : Nat → Nat × (Nat → List LI)} {d : Nat} {M : Nat → List LI} {σ : St} {cs : List LI} {ls : Ls} {st : List Vl} {r : St × List Vl} {xa xb xc : Nat} {xz : Int} {p q : Int} (h : Rg (p - q)) (k : Gx mt d M σ cs ls (vI (p - q) :: st) r) : Gx mt d M σ ((11, xa, xb, xc, xz) :: cs) ls (vI q :: vI p :: st) r := Gx.one (by simp [step, oN, s_ar, (rgB_iff _).mpr h]) k
theorem go_imul {mt : Nat → Nat × (Nat → List LI)} {d : Nat} {M : Nat → List LI} {σ : St} {cs : List LI} {ls : Ls} {st : List Vl} {r : St × List Vl} {xa xb xc : Nat} {xz : Int} {p q : Int} (h : Rg (p * q)) (k : Gx mt d M σ cs ls (vI (p * q) :: st) r) : Gx mt d M σ ((12, xa, xb, xc, xz) :: cs) ls (vI q :: vI p :: st) r := Gx.one (by simp [step, oN, s_ar, (rgB_iff _).mpr h]) k
theorem go_idiv {mt : Nat → Nat × (Nat → List LI)} {d : Nat} {M : Nat → List LI} {σ : St} {cs : List LI} {ls : Ls} {st : List Vl} {r : St × List Vl} {xa xb xc : Nat} {xz : Int} {p q : Int} (h : 0 ≤ p ∧ 0 < q) (k : Gx mt d M σ cs ls (vI (p / q) :: st) r) : Gx mt d M σ ((13, xa, xb, xc, xz) :: cs) ls (vI q :: vI p :: st) r := Gx.one (by simp [step, oN, s_ar, h.1, h.2]) k
theorem go_irem {mt : Nat → Nat × (Nat → List LI)} {d : Nat} {M : Nat → List LI} {σ : St} {cs : List LI} {ls : Ls} {st : List Vl} {r : St × List Vl} {xa xb xc : Nat} {xz : Int} {p q : Int} (h : 0 ≤ p ∧ 0 < q) (k : Gx mt d M σ cs ls (vI (p % q) :: st) r) : Gx mt d M σ ((14, xa, xb, xc, xz) :: cs) ls (vI q :: vI p :: st) r := Gx.one (by simp [step, oN, s_ar, h.1, h.2]) k
theorem go_ishl {mt : Nat → Nat × (Nat → List LI)} {d : Nat} {M : Nat → List LI} {σ : St} {cs : List LI} {ls : Ls} {st : List Vl} {r : St × List Vl} {xa xb xc : Nat} {xz : Int} {p q x : Int} (h : iShl p q = x) (k : Gx mt d M σ cs ls (vI x :: st) r) : Gx mt d M σ ((16, xa, xb, xc, xz) :: cs) ls (vI q :: vI p :: st) r := Gx.one (by simp [step, oN, s_ar, h]) k
theorem go_ishr {mt : Nat → Nat × (Nat → List LI)} {d : Nat} {M : Nat → List LI} {σ : St} {cs : List LI} {ls : Ls} {st : List Vl} {r : St × List Vl} {xa xb xc : Nat} {xz : Int} {p q x : Int} (h : iShr p q = x) (k : Gx mt d M σ cs ls (vI x :: st) r) : Gx mt d M σ ((17, xa, xb, xc, xz) :: cs) ls (vI q :: vI p :: st) r := Gx.one (by simp [step, oN, s_ar, h]) k
theorem go_iushr {mt : Nat → Nat × (Nat → List LI)} {d : Nat} {M : Nat → List LI} {σ : St} {cs : List LI} {ls : Ls} {st : List Vl} {r : St × List Vl} {xa xb xc : Nat} {xz : Int} {p q x : Int} (h : iUshr p q = x) (k : Gx mt d M σ cs ls (vI x :: st) r) : Gx mt d M σ ((18, xa, xb, xc, xz) :: cs) ls (vI q :: vI p :: st) r := Gx.one (by simp [step, oN, s_ar, h]) k
theorem go_iand {mt : Nat → Nat × (Nat → List LI)} {d : Nat} {M : Nat → List LI} {σ : St} {cs : List LI} {ls : Ls} {st : List Vl} {r : St × List Vl} {xa xb xc : Nat} {xz : Int} {p q x : Int} (h : iAnd p q = x) (k : Gx mt d M σ cs ls (vI x :: st) r) : Gx mt d M σ ((19, xa, xb, xc, xz) :: cs) ls (vI q :: vI p :: st) r := Gx.one (by simp [step, oN, s_ar, h]) k
theorem go_ior {mt : Nat → Nat × (Nat → List LI)} {d : Nat} {M : Nat → List LI} {σ : St} {cs : List LI} {ls : Ls} {st : List Vl} {r : St × List Vl} {xa xb xc : Nat} {xz : Int} {p q x : Int} (h : iOr p q = x) (k : Gx mt d M σ cs ls (vI x :: st) r) : Gx mt d M σ ((20, xa, xb, xc, xz) :: cs) ls (vI q :: vI p :: st) r := Gx.one (by simp [step, oN, s_ar, h]) k
theorem go_ixor {mt : Nat → Nat × (Nat → List LI)} {d : Nat} {M : Nat → List LI} {σ : St} {cs : List LI} {ls : Ls} {st : List Vl} {r : St × List Vl} {xa xb xc : Nat} {xz : Int} {p q x : Int} (h : iXor p q = x) (k : Gx mt d M σ cs ls (vI x :: st) r) : Gx mt d M σ ((21, xa, xb, xc, xz) :: cs) ls (vI q :: vI p :: st) r := Gx.one (by simp [step, oN, s_ar, h]) k
theorem go_ladd {mt : Nat → Nat × (Nat → List LI)} {d : Nat} {M : Nat → List LI} {σ : St} {cs : List LI} {ls : Ls} {st : List Vl} {r : St × List Vl} {xa xb xc : Nat} {xz : Int} {p q : BitVec 64} (k : Gx mt d M σ cs ls (vL (p + q) :: st) r) : Gx mt d M σ ((22, xa, xb, xc, xz) :: cs) ls (vL q :: vL p :: st) r := Gx.one (by simp [step, oN, s_lar]) k
theorem go_lsub {mt : Nat → Nat × (Nat → List LI)} {d : Nat} {M : Nat → List LI} {σ : St} {cs : List LI} {ls : Ls} {st : List Vl} {r : St × List Vl} {xa xb xc : Nat} {xz : Int} {p q : BitVec 64} (k : Gx mt d M σ cs ls (vL (p - q) :: st) r) : Gx mt d M σ ((23, xa, xb, xc, xz) :: cs) ls (vL q :: vL p :: st) r := Gx.one (by simp [step, oN, s_lar]) k
theorem go_land {mt : Nat → Nat × (Nat → List LI)} {d : Nat} {M : Nat → List LI} {σ : St} {cs : List LI} {ls : Ls} {st : List Vl} {r : St × List Vl} {xa xb xc : Nat} {xz : Int} {p q : BitVec 64} (k : Gx mt d M σ cs ls (vL (p &&& q) :: st) r) : Gx mt d M σ ((25, xa, xb, xc, xz) :: cs) ls (vL q :: vL p :: st) r := Gx.one (by simp [step, oN, s_lar]) k
theorem go_lor {mt : Nat → Nat × (Nat → List LI)} {d : Nat} {M : Nat → List LI} {σ : St} {cs : List LI} {ls : Ls} {st : List Vl} {r : St × List Vl} {xa xb xc : Nat} {xz : Int} {p q : BitVec 64} (k : Gx mt d M σ cs ls (vL (p ||| q) :: st) r) : Gx mt d M σ ((26, xa, xb, xc, xz) :: cs) ls (vL q :: vL p :: st) r := Gx.one (by simp [step, oN, s_lar]) k
theorem go_lxor {mt : Nat → Nat × (Nat → List LI)} {d : Nat} {M : Nat → List LI} {σ : St} {cs : List LI} {ls : Ls} {st : List Vl} {r : St × List Vl} {xa xb xc : Nat} {xz : Int} {p q : BitVec 64} (k : Gx mt d M σ cs ls (vL (p ^^^ q) :: st) r) : Gx mt d M σ ((27, xa, xb, xc, xz) :: cs) ls (vL q :: vL p :: st) r := Gx.one (by simp [step, oN, s_lar]) k
theorem go_lcmp {mt : Nat → Nat × (Nat → List LI)} {d : Nat} {M : Nat → List LI} {σ : St} {cs : List LI} {ls : Ls} {st : List Vl} {r : St × List Vl} {xa xb xc : Nat} {xz : Int} {p q : BitVec 64} {x : Int} (h : lCmp p q = x) (k : Gx mt d M σ cs ls (vI x :: st) r) : Gx mt d M σ ((31, xa, xb, xc, xz) :: cs) ls (vL q :: vL p :: st) r := Gx.one (by simp [step, oN, s_lar, h]) k
theorem go_lshl {mt : Nat → Nat × (Nat → List LI)} {d : Nat} {M : Nat → List LI} {σ : St} {cs : List LI} {ls : Ls} {st : List Vl} {r : St × List Vl} {xa xb xc : Nat} {xz : Int} {p x : BitVec 64} {q : Int} (h : lShl p q = x) (k : Gx mt d M σ cs ls (vL x :: st) r) : Gx mt d M σ ((28, xa, xb, xc, xz) :: cs) ls (vI q :: vL p :: st) r := Gx.one (by simp [step, oN, s_lsh, h]) k
theorem go_lshr {mt : Nat → Nat × (Nat → List LI)} {d : Nat} {M : Nat → List LI} {σ : St} {cs : List LI} {ls : Ls} {st : List Vl} {r : St × List Vl} {xa xb xc : Nat} {xz : Int} {p x : BitVec 64} {q : Int} (h : lShr p q = x) (k : Gx mt d M σ cs ls (vL x :: st) r) : Gx mt d M σ ((29, xa, xb, xc, xz) :: cs) ls (vI q :: vL p :: st) r := Gx.one (by simp [step, oN, s_lsh, h]) k
theorem go_lushr {mt : Nat → Nat × (Nat → List LI)} {d : Nat} {M : Nat → List LI} {σ : St} {cs : List LI} {ls : Ls} {st : List Vl} {r : St × List Vl} {xa xb xc : Nat} {xz : Int} {p x : BitVec 64} {q : Int} (h : lUshr p q = x) (k : Gx mt d M σ cs ls (vL x :: st) r) : Gx mt d M σ ((30, xa, xb, xc, xz) :: cs) ls (vI q :: vL p :: st) r := Gx.one (by simp [step, oN, s_lsh, h]) k
theorem go_lneg {mt : Nat → Nat × (Nat → List LI)} {d : Nat} {M : Nat → List LI} {σ : St} {cs : List LI} {ls : Ls} {st : List Vl} {r : St × List Vl} {xa xb xc : Nat} {xz : Int} {p : BitVec 64} (k : Gx mt d M σ cs ls (vL (-p) :: st) r) : Gx mt d M σ ((24, xa, xb, xc, xz) :: cs) ls (vL p :: st) r := Gx.one (by simp [step, oN, s_un]) k
theorem go_i2l {mt : Nat → Nat × (Nat → List LI)} {d : Nat} {M : Nat → List LI} {σ : St} {cs : List LI} {ls : Ls} {st : List Vl} {r : St × List Vl} {xa xb xc : Nat} {xz : Int} {p : Int} (k : Gx mt d M σ cs ls (vL (BitVec.ofInt 64 p) :: st) r) : Gx mt d M σ ((32, xa, xb, xc, xz) :: cs) ls (vI p :: st) r := Gx.one (by simp [step, oN, s_un]) k
theorem go_l2i {mt : Nat → Nat × (Nat → List LI)} {d : Nat} {M : Nat → List LI} {σ : St} {cs : List LI} {ls : Ls} {st : List Vl} {r : St × List Vl} {xa xb xc : Nat} {xz : Int} {p : BitVec 64} {x : Int} (h : l2i p = x) (k : Gx mt d M σ cs ls (vI x :: st) r) : Gx mt d M σ ((33, xa, xb, xc, xz) :: cs) ls (vL p :: st) r := Gx.one (by simp [step, oN, s_un, h]) k
theorem go_i2b {mt : Nat → Nat × (Nat → List LI)} {d : Nat} {M : Nat → List LI} {σ : St} {cs : List LI} {ls : Ls} {st : List Vl} {r : St × List Vl} {xa xb xc : Nat} {xz : Int} {p x : Int} (h : i2b p = x) (k : Gx mt d M σ cs ls (vI x :: st) r) : Gx mt d M σ ((34, xa, xb, xc, xz) :: cs) ls (vI p :: st) r := Gx.one (by simp [step, oN, s_un, h]) k
theorem go_iinc {mt : Nat → Nat × (Nat → List LI)} {d : Nat} {M : Nat → List LI} {σ : St} {cs : List LI} {ls : Ls} {st : List Vl} {r : St × List Vl} {xa xb xc : Nat} {xz : Int} {x : Int} {ls' : Ls} (h : ls[xa]? = some (some (vI x))) (hr : Rg (x + xz)) (e : lSet1 ls xa (vI (x + xz)) = ls') (k : Gx mt d M σ cs ls' st r) : Gx mt d M σ ((35, xa, xb, xc, xz) :: cs) ls st r := Gx.one (by simp [step, oN, s_inc, h, (rgB_iff _).mpr hr, ← e]) k
theorem go_goto {mt : Nat → Nat × (Nat → List LI)} {d : Nat} {M : Nat → List LI} {σ : St} {cs : List LI} {ls : Ls} {st : List Vl} {r : St × List Vl} {xa xb xc : Nat} {xz : Int}  (k : Gx mt d M σ (M xa) ls st r) : Gx mt d M σ ((40, xa, xb, xc, xz) :: cs) ls st r := Gx.one (by simp [step, oN, true_and]) k
theorem go_dupI {mt : Nat → Nat × (Nat → List LI)} {d : Nat} {M : Nat → List LI} {σ : St} {cs : List LI} {ls : Ls} {st : List Vl} {r : St × List Vl} {xa xb xc : Nat} {xz : Int} {x : Int} (k : Gx mt d M σ cs ls (vI x :: vI x :: st) r) : Gx mt d M σ ((42, xa, xb, xc, xz) :: cs) ls (vI x :: st) r := Gx.one (by simp [step, oN, s_un, cat]) k
theorem go_dupA {mt : Nat → Nat × (Nat → List LI)} {d : Nat} {M : Nat → List LI} {σ : St} {cs : List LI} {ls : Ls} {st : List Vl} {r : St × List Vl} {xa xb xc : Nat} {xz : Int} {t : Nat} {q : Option Nat} (k : Gx mt d M σ cs ls (vR t q :: vR t q :: st) r) : Gx mt d M σ ((42, xa, xb, xc, xz) :: cs) ls (vR t q :: st) r := Gx.one (by simp [step, oN, s_un, cat]) k
theorem go_dup2 {mt : Nat → Nat × (Nat → List LI)} {d : Nat} {M : Nat → List LI} {σ : St} {cs : List LI} {ls : Ls} {st : List Vl} {r : St × List Vl} {xa xb xc : Nat} {xz : Int} {x : Int} {t : Nat} {q : Option Nat} (k : Gx mt d M σ cs ls (vI x :: vR t q :: vI x :: vR t q :: st) r) : Gx mt d M σ ((43, xa, xb, xc, xz) :: cs) ls (vI x :: vR t q :: st) r := Gx.one (by simp [step, oN, s_un, cat]) k
theorem go_popI {mt : Nat → Nat × (Nat → List LI)} {d : Nat} {M : Nat → List LI} {σ : St} {cs : List LI} {ls : Ls} {st : List Vl} {r : St × List Vl} {xa xb xc : Nat} {xz : Int} {x : Int} (k : Gx mt d M σ cs ls st r) : Gx mt d M σ ((44, xa, xb, xc, xz) :: cs) ls (vI x :: st) r := Gx.one (by simp [step, oN, s_un, cat]) k
theorem go_popA {mt : Nat → Nat × (Nat → List LI)} {d : Nat} {M : Nat → List LI} {σ : St} {cs : List LI} {ls : Ls} {st : List Vl} {r : St × List Vl} {xa xb xc : Nat} {xz : Int} {t : Nat} {q : Option Nat} (k : Gx mt d M σ cs ls st r) : Gx mt d M σ ((44, xa, xb, xc, xz) :: cs) ls (vR t q :: st) r := Gx.one (by simp [step, oN, s_un, cat]) k
theorem go_getI {mt : Nat → Nat × (Nat → List LI)} {d : Nat} {M : Nat → List LI} {σ : St} {cs : List LI} {ls : Ls} {st : List Vl} {r : St × List Vl} {xa xb xc : Nat} {xz : Int} {q : Nat} (k : Gx mt d M σ cs ls (vI (gI σ q xb) :: st) r) : Gx mt d M σ ((45, xa, xb, xc, xz) :: cs) ls (vR xa (some q) :: st) r := Gx.one (by simp [step, oN, s_fld]) k
theorem go_getL {mt : Nat → Nat × (Nat → List LI)} {d : Nat} {M : Nat → List LI} {σ : St} {cs : List LI} {ls : Ls} {st : List Vl} {r : St × List Vl} {xa xb xc : Nat} {xz : Int} {q : Nat} (k : Gx mt d M σ cs ls (vL (gL σ q xb) :: st) r) : Gx mt d M σ ((46, xa, xb, xc, xz) :: cs) ls (vR xa (some q) :: st) r := Gx.one (by simp [step, oN, s_fld]) k
theorem go_getR {mt : Nat → Nat × (Nat → List LI)} {d : Nat} {M : Nat → List LI} {σ : St} {cs : List LI} {ls : Ls} {st : List Vl} {r : St × List Vl} {xa xb xc : Nat} {xz : Int} {q : Nat} {v : Option Nat} (h : gR σ q xb = v) (k : Gx mt d M σ cs ls (vR xc v :: st) r) : Gx mt d M σ ((47, xa, xb, xc, xz) :: cs) ls (vR xa (some q) :: st) r := Gx.one (by simp [step, oN, s_fld, h]) k
theorem go_putI {mt : Nat → Nat × (Nat → List LI)} {d : Nat} {M : Nat → List LI} {σ : St} {cs : List LI} {ls : Ls} {st : List Vl} {r : St × List Vl} {xa xb xc : Nat} {xz : Int} {q : Nat} {v : Int} (k : Gx mt d M (wI σ q xb v) cs ls st r) : Gx mt d M σ ((48, xa, xb, 0, xz) :: cs) ls (vI v :: vR xa (some q) :: st) r := Gx.one (by simp [step, oN, s_fld]) k
theorem go_putZ {mt : Nat → Nat × (Nat → List LI)} {d : Nat} {M : Nat → List LI} {σ : St} {cs : List LI} {ls : Ls} {st : List Vl} {r : St × List Vl} {xa xb xc : Nat} {xz : Int} {q : Nat} {v : Int} (h : 0 ≤ v ∧ v ≤ 1) (k : Gx mt d M (wI σ q xb v) cs ls st r) : Gx mt d M σ ((48, xa, xb, 1, xz) :: cs) ls (vI v :: vR xa (some q) :: st) r := Gx.one (by simp [step, oN, s_fld, h.1, h.2]) k
theorem go_putL {mt : Nat → Nat × (Nat → List LI)} {d : Nat} {M : Nat → List LI} {σ : St} {cs : List LI} {ls : Ls} {st : List Vl} {r : St × List Vl} {xa xb xc : Nat} {xz : Int} {q : Nat} {v : BitVec 64} (k : Gx mt d M (wL σ q xb v) cs ls st r) : Gx mt d M σ ((49, xa, xb, xc, xz) :: cs) ls (vL v :: vR xa (some q) :: st) r := Gx.one (by simp [step, oN, s_fld]) k
theorem go_putR {mt : Nat → Nat × (Nat → List LI)} {d : Nat} {M : Nat → List LI} {σ : St} {cs : List LI} {ls : Ls} {st : List Vl} {r : St × List Vl} {xa xb xc : Nat} {xz : Int} {q : Nat} {v : Option Nat} (k : Gx mt d M (wR σ q xb v) cs ls st r) : Gx mt d M σ ((50, xa, xb, xc, xz) :: cs) ls (vR xc v :: vR xa (some q) :: st) r := Gx.one (by simp [step, oN, s_fld]) k
theorem go_gets {mt : Nat → Nat × (Nat → List LI)} {d : Nat} {M : Nat → List LI} {σ : St} {cs : List LI} {ls : Ls} {st : List Vl} {r : St × List Vl} {xa xb xc : Nat} {xz : Int} {q : Nat} (h : stA σ xa = some q) (k : Gx mt d M σ cs ls (vR 20 (some q) :: st) r) : Gx mt d M σ ((51, xa, xb, xc, xz) :: cs) ls st r := Gx.one (by simp [step, oN, h]) k
theorem go_iald {mt : Nat → Nat × (Nat → List LI)} {d : Nat} {M : Nat → List LI} {σ : St} {cs : List LI} {ls : Ls} {st : List Vl} {r : St × List Vl} {xa xb xc : Nat} {xz : Int} {q : Nat} {i : Int} (h : 0 ≤ i ∧ i < (ln σ q : Int)) (k : Gx mt d M σ cs ls (vI (gI σ q i.toNat) :: st) r) : Gx mt d M σ ((52, xa, xb, xc, xz) :: cs) ls (vI i :: vR 14 (some q) :: st) r := Gx.one (by simp [step, oN, s_arr, inbB, h.1, h.2]) k
theorem go_fald {mt : Nat → Nat × (Nat → List LI)} {d : Nat} {M : Nat → List LI} {σ : St} {cs : List LI} {ls : Ls} {st : List Vl} {r : St × List Vl} {xa xb xc : Nat} {xz : Int} {q : Nat} {i : Int} (h : 0 ≤ i ∧ i < (ln σ q : Int)) (k : Gx mt d M σ cs ls (vI (gI σ q i.toNat) :: st) r) : Gx mt d M σ ((52, xa, xb, xc, xz) :: cs) ls (vI i :: vR 20 (some q) :: st) r := Gx.one (by simp [step, oN, s_arr, inbB, h.1, h.2]) k
theorem go_lald {mt : Nat → Nat × (Nat → List LI)} {d : Nat} {M : Nat → List LI} {σ : St} {cs : List LI} {ls : Ls} {st : List Vl} {r : St × List Vl} {xa xb xc : Nat} {xz : Int} {q : Nat} {i : Int} (h : 0 ≤ i ∧ i < (ln σ q : Int)) (k : Gx mt d M σ cs ls (vL (gL σ q i.toNat) :: st) r) : Gx mt d M σ ((53, xa, xb, xc, xz) :: cs) ls (vI i :: vR 15 (some q) :: st) r := Gx.one (by simp [step, oN, s_arr, inbB, h.1, h.2]) k
theorem go_bald {mt : Nat → Nat × (Nat → List LI)} {d : Nat} {M : Nat → List LI} {σ : St} {cs : List LI} {ls : Ls} {st : List Vl} {r : St × List Vl} {xa xb xc : Nat} {xz : Int} {q : Nat} {i : Int} (h : 0 ≤ i ∧ i < (ln σ q : Int)) (k : Gx mt d M σ cs ls (vI (gI σ q i.toNat) :: st) r) : Gx mt d M σ ((54, xa, xb, xc, xz) :: cs) ls (vI i :: vR 13 (some q) :: st) r := Gx.one (by simp [step, oN, s_arr, inbB, h.1, h.2]) k
theorem go_zald {mt : Nat → Nat × (Nat → List LI)} {d : Nat} {M : Nat → List LI} {σ : St} {cs : List LI} {ls : Ls} {st : List Vl} {r : St × List Vl} {xa xb xc : Nat} {xz : Int} {q : Nat} {i : Int} (h : 0 ≤ i ∧ i < (ln σ q : Int)) (k : Gx mt d M σ cs ls (vI (gI σ q i.toNat) :: st) r) : Gx mt d M σ ((55, xa, xb, xc, xz) :: cs) ls (vI i :: vR 16 (some q) :: st) r := Gx.one (by simp [step, oN, s_arr, inbB, h.1, h.2]) k
theorem go_aald {mt : Nat → Nat × (Nat → List LI)} {d : Nat} {M : Nat → List LI} {σ : St} {cs : List LI} {ls : Ls} {st : List Vl} {r : St × List Vl} {xa xb xc : Nat} {xz : Int} {q : Nat} {i : Int} {v : Option Nat} (h : 0 ≤ i ∧ i < (ln σ q : Int)) (e : gR σ q i.toNat = v) (k : Gx mt d M σ cs ls (vR xc v :: st) r) : Gx mt d M σ ((56, xa, xb, xc, xz) :: cs) ls (vI i :: vR xa (some q) :: st) r := Gx.one (by simp [step, oN, s_arr, inbB, h.1, h.2, e]) k
theorem go_iast {mt : Nat → Nat × (Nat → List LI)} {d : Nat} {M : Nat → List LI} {σ : St} {cs : List LI} {ls : Ls} {st : List Vl} {r : St × List Vl} {xa xb xc : Nat} {xz : Int} {q : Nat} {i v : Int} (h : 0 ≤ i ∧ i < (ln σ q : Int)) (k : Gx mt d M (wI σ q i.toNat v) cs ls st r) : Gx mt d M σ ((57, xa, xb, xc, xz) :: cs) ls (vI v :: vI i :: vR 14 (some q) :: st) r := Gx.one (by simp [step, oN, s_arr, inbB, h.1, h.2]) k
theorem go_last {mt : Nat → Nat × (Nat → List LI)} {d : Nat} {M : Nat → List LI} {σ : St} {cs : List LI} {ls : Ls} {st : List Vl} {r : St × List Vl} {xa xb xc : Nat} {xz : Int} {q : Nat} {i : Int} {v : BitVec 64} (h : 0 ≤ i ∧ i < (ln σ q : Int)) (k : Gx mt d M (wL σ q i.toNat v) cs ls st r) : Gx mt d M σ ((58, xa, xb, xc, xz) :: cs) ls (vL v :: vI i :: vR 15 (some q) :: st) r := Gx.one (by simp [step, oN, s_arr, inbB, h.1, h.2]) k
theorem go_bast {mt : Nat → Nat × (Nat → List LI)} {d : Nat} {M : Nat → List LI} {σ : St} {cs : List LI} {ls : Ls} {st : List Vl} {r : St × List Vl} {xa xb xc : Nat} {xz : Int} {q : Nat} {i v : Int} (h : 0 ≤ i ∧ i < (ln σ q : Int)) (hv : -128 ≤ v ∧ v ≤ 127) (k : Gx mt d M (wI σ q i.toNat v) cs ls st r) : Gx mt d M σ ((59, xa, xb, xc, xz) :: cs) ls (vI v :: vI i :: vR 13 (some q) :: st) r := Gx.one (by simp [step, oN, s_arr, inbB, h.1, h.2, hv.1, hv.2]) k
theorem go_zast {mt : Nat → Nat × (Nat → List LI)} {d : Nat} {M : Nat → List LI} {σ : St} {cs : List LI} {ls : Ls} {st : List Vl} {r : St × List Vl} {xa xb xc : Nat} {xz : Int} {q : Nat} {i v : Int} (h : 0 ≤ i ∧ i < (ln σ q : Int)) (hv : 0 ≤ v ∧ v ≤ 1) (k : Gx mt d M (wI σ q i.toNat v) cs ls st r) : Gx mt d M σ ((60, xa, xb, xc, xz) :: cs) ls (vI v :: vI i :: vR 16 (some q) :: st) r := Gx.one (by simp [step, oN, s_arr, inbB, h.1, h.2, hv.1, hv.2]) k
theorem go_aast {mt : Nat → Nat × (Nat → List LI)} {d : Nat} {M : Nat → List LI} {σ : St} {cs : List LI} {ls : Ls} {st : List Vl} {r : St × List Vl} {xa xb xc : Nat} {xz : Int} {q v : Nat} {i : Int} (h : 0 ≤ i ∧ i < (ln σ q : Int)) (k : Gx mt d M (wR σ q i.toNat (some v)) cs ls st r) : Gx mt d M σ ((61, xa, xb, xc, xz) :: cs) ls (vR xc (some v) :: vI i :: vR xa (some q) :: st) r := Gx.one (by simp [step, oN, s_arr, inbB, h.1, h.2]) k
theorem go_alen {mt : Nat → Nat × (Nat → List LI)} {d : Nat} {M : Nat → List LI} {σ : St} {cs : List LI} {ls : Ls} {st : List Vl} {r : St × List Vl} {xa xb xc : Nat} {xz : Int} {q t : Nat} (h : (ln σ q : Int) < 2147483648) (ht : (decide (13 ≤ t) && decide (t ≤ 20)) = true) (k : Gx mt d M σ cs ls (vI (ln σ q) :: st) r) : Gx mt d M σ ((62, xa, xb, xc, xz) :: cs) ls (vR t (some q) :: st) r := Gx.one (by simp [step, oN, s_arr, h, (by simpa using ht : 13 ≤ t ∧ t ≤ 20)]) k
theorem go_newa {mt : Nat → Nat × (Nat → List LI)} {d : Nat} {M : Nat → List LI} {σ : St} {cs : List LI} {ls : Ls} {st : List Vl} {r : St × List Vl} {xa xb xc : Nat} {xz : Int} {n : Int} (h : 0 ≤ n ∧ n ≤ 1000000) (k : Gx mt d M (mk σ xa n.toNat n.toNat) cs ls (vR xa (some (nx σ)) :: st) r) : Gx mt d M σ ((63, xa, xb, xc, xz) :: cs) ls (vI n :: st) r := Gx.one (by simp [step, oN, s_new, h.1, h.2]) k
theorem go_anew {mt : Nat → Nat × (Nat → List LI)} {d : Nat} {M : Nat → List LI} {σ : St} {cs : List LI} {ls : Ls} {st : List Vl} {r : St × List Vl} {xa xb xc : Nat} {xz : Int} {n : Int} (h : 0 ≤ n ∧ n ≤ 1000000) (k : Gx mt d M (mk σ xa n.toNat n.toNat) cs ls (vR xa (some (nx σ)) :: st) r) : Gx mt d M σ ((64, xa, xb, xc, xz) :: cs) ls (vI n :: st) r := Gx.one (by simp [step, oN, s_new, h.1, h.2]) k
theorem go_multi {mt : Nat → Nat × (Nat → List LI)} {d : Nat} {M : Nat → List LI} {σ : St} {cs : List LI} {ls : Ls} {st : List Vl} {r : St × List Vl} {xa xb xc : Nat} {xz : Int}  (k : Gx mt d M (mkM σ) cs ls (vR 19 (some (nx σ)) :: st) r) : Gx mt d M σ ((65, xa, xb, xc, xz) :: cs) ls (vI 0 :: vI 20 :: st) r := Gx.one (by simp [step, oN, true_and]) k
theorem go_new {mt : Nat → Nat × (Nat → List LI)} {d : Nat} {M : Nat → List LI} {σ : St} {cs : List LI} {ls : Ls} {st : List Vl} {r : St × List Vl} {xa xb xc : Nat} {xz : Int}  (k : Gx mt d M (mk σ xa 0 xc) cs ls (vR xa (some (nx σ)) :: st) r) : Gx mt d M σ ((66, xa, xb, xc, xz) :: cs) ls st r := Gx.one (by simp [step, oN, s_new]) k
theorem go_oinit {mt : Nat → Nat × (Nat → List LI)} {d : Nat} {M : Nat → List LI} {σ : St} {cs : List LI} {ls : Ls} {st : List Vl} {r : St × List Vl} {xa xb xc : Nat} {xz : Int} {t q : Nat} (h : (decide (stW st ≤ 8)) = true) (k : Gx mt d M σ cs ls st r) : Gx mt d M σ ((68, xa, xb, xc, xz) :: cs) ls (vR t (some q) :: st) r := Gx.one (by simp [step, oN, of_decide_eq_true h]) k
theorem go_cpyI {mt : Nat → Nat × (Nat → List LI)} {d : Nat} {M : Nat → List LI} {σ : St} {cs : List LI} {ls : Ls} {st : List Vl} {r : St × List Vl} {xa xb xc : Nat} {xz : Int} {q e : Nat} {n dp sp : Int} (h : 0 ≤ n ∧ 0 ≤ dp ∧ 0 ≤ sp ∧ sp + n ≤ (ln σ q : Int) ∧ dp + n ≤ (ln σ e : Int)) (hw : (decide (stW st ≤ 8)) = true) (k : Gx mt d M (aI σ e (cpyF (gI σ q) (gI σ e) sp.toNat dp.toNat n.toNat)) cs ls st r) : Gx mt d M σ ((69, xa, xb, xc, xz) :: cs) ls (vI n :: vI dp :: vR 14 (some e) :: vI sp :: vR 14 (some q) :: st) r := Gx.one (by simp [step, oN, s_cpy, h.1, h.2.1, h.2.2.1, h.2.2.2.1, h.2.2.2.2, of_decide_eq_true hw]) k
theorem go_cpyL {mt : Nat → Nat × (Nat → List LI)} {d : Nat} {M : Nat → List LI} {σ : St} {cs : List LI} {ls : Ls} {st : List Vl} {r : St × List Vl} {xa xb xc : Nat} {xz : Int} {q e : Nat} {n dp sp : Int} (h : 0 ≤ n ∧ 0 ≤ dp ∧ 0 ≤ sp ∧ sp + n ≤ (ln σ q : Int) ∧ dp + n ≤ (ln σ e : Int)) (hw : (decide (stW st ≤ 8)) = true) (k : Gx mt d M (aL σ e (cpyF (gL σ q) (gL σ e) sp.toNat dp.toNat n.toNat)) cs ls st r) : Gx mt d M σ ((70, xa, xb, xc, xz) :: cs) ls (vI n :: vI dp :: vR 15 (some e) :: vI sp :: vR 15 (some q) :: st) r := Gx.one (by simp [step, oN, s_cpy, h.1, h.2.1, h.2.2.1, h.2.2.2.1, h.2.2.2.2, of_decide_eq_true hw]) k
theorem go_icmp_eq {mt : Nat → Nat × (Nat → List LI)} {d : Nat} {M : Nat → List LI} {σ : St} {cs : List LI} {ls : Ls} {st : List Vl} {r : St × List Vl} {xa xb xc : Nat} {xz : Int} {x y : Int} (kt : x = y → Gx mt d M σ (M xb) ls st r) (kf : ¬ x = y → Gx mt d M σ cs ls st r) : Gx mt d M σ ((36, 0, xb, xc, xz) :: cs) ls (vI y :: vI x :: st) r := by
  by_cases h : x = y
  · exact Gx.one (by simp [step, oN, s_br, cmpB, h]) (kt h)
  · exact Gx.one (by simp [step, oN, s_br, cmpB, h]) (kf (by simpa using h))
theorem go_if_eq {mt : Nat → Nat × (Nat → List LI)} {d : Nat} {M : Nat → List LI} {σ : St} {cs : List LI} {ls : Ls} {st : List Vl} {r : St × List Vl} {xa xb xc : Nat} {xz : Int} {x : Int} (kt : x = 0 → Gx mt d M σ (M xb) ls st r) (kf : ¬ x = 0 → Gx mt d M σ cs ls st r) : Gx mt d M σ ((37, 0, xb, xc, xz) :: cs) ls (vI x :: st) r := by
  by_cases h : x = 0
  · exact Gx.one (by simp [step, oN, s_br, cmpB, h]) (kt h)
  · exact Gx.one (by simp [step, oN, s_br, cmpB, h]) (kf (by simpa using h))
theorem go_icmp_ne {mt : Nat → Nat × (Nat → List LI)} {d : Nat} {M : Nat → List LI} {σ : St} {cs : List LI} {ls : Ls} {st : List Vl} {r : St × List Vl} {xa xb xc : Nat} {xz : Int} {x y : Int} (kt : ¬ x = y → Gx mt d M σ (M xb) ls st r) (kf : x = y → Gx mt d M σ cs ls st r) : Gx mt d M σ ((36, 1, xb, xc, xz) :: cs) ls (vI y :: vI x :: st) r := by
  by_cases h : ¬ x = y
  · exact Gx.one (by simp [step, oN, s_br, cmpB, h]) (kt h)
  · exact Gx.one (by simp [step, oN, s_br, cmpB, h]) (kf (by simpa using h))
theorem go_if_ne {mt : Nat → Nat × (Nat → List LI)} {d : Nat} {M : Nat → List LI} {σ : St} {cs : List LI} {ls : Ls} {st : List Vl} {r : St × List Vl} {xa xb xc : Nat} {xz : Int} {x : Int} (kt : ¬ x = 0 → Gx mt d M σ (M xb) ls st r) (kf : x = 0 → Gx mt d M σ cs ls st r) : Gx mt d M σ ((37, 1, xb, xc, xz) :: cs) ls (vI x :: st) r := by
  by_cases h : ¬ x = 0
  · exact Gx.one (by simp [step, oN, s_br, cmpB, h]) (kt h)
  · exact Gx.one (by simp [step, oN, s_br, cmpB, h]) (kf (by simpa using h))
theorem go_icmp_lt {mt : Nat → Nat × (Nat → List LI)} {d : Nat} {M : Nat → List LI} {σ : St} {cs : List LI} {ls : Ls} {st : List Vl} {r : St × List Vl} {xa xb xc : Nat} {xz : Int} {x y : Int} (kt : x < y → Gx mt d M σ (M xb) ls st r) (kf : ¬ x < y → Gx mt d M σ cs ls st r) : Gx mt d M σ ((36, 2, xb, xc, xz) :: cs) ls (vI y :: vI x :: st) r := by
  by_cases h : x < y
  · exact Gx.one (by simp [step, oN, s_br, cmpB, h]) (kt h)
  · exact Gx.one (by simp [step, oN, s_br, cmpB, h]) (kf (by simpa using h))
theorem go_if_lt {mt : Nat → Nat × (Nat → List LI)} {d : Nat} {M : Nat → List LI} {σ : St} {cs : List LI} {ls : Ls} {st : List Vl} {r : St × List Vl} {xa xb xc : Nat} {xz : Int} {x : Int} (kt : x < 0 → Gx mt d M σ (M xb) ls st r) (kf : ¬ x < 0 → Gx mt d M σ cs ls st r) : Gx mt d M σ ((37, 2, xb, xc, xz) :: cs) ls (vI x :: st) r := by
  by_cases h : x < 0
  · exact Gx.one (by simp [step, oN, s_br, cmpB, h]) (kt h)
  · exact Gx.one (by simp [step, oN, s_br, cmpB, h]) (kf (by simpa using h))
theorem go_icmp_ge {mt : Nat → Nat × (Nat → List LI)} {d : Nat} {M : Nat → List LI} {σ : St} {cs : List LI} {ls : Ls} {st : List Vl} {r : St × List Vl} {xa xb xc : Nat} {xz : Int} {x y : Int} (kt : y ≤ x → Gx mt d M σ (M xb) ls st r) (kf : ¬ y ≤ x → Gx mt d M σ cs ls st r) : Gx mt d M σ ((36, 3, xb, xc, xz) :: cs) ls (vI y :: vI x :: st) r := by
  by_cases h : y ≤ x
  · exact Gx.one (by simp [step, oN, s_br, cmpB, h]) (kt h)
  · exact Gx.one (by simp [step, oN, s_br, cmpB, h]) (kf (by simpa using h))
theorem go_if_ge {mt : Nat → Nat × (Nat → List LI)} {d : Nat} {M : Nat → List LI} {σ : St} {cs : List LI} {ls : Ls} {st : List Vl} {r : St × List Vl} {xa xb xc : Nat} {xz : Int} {x : Int} (kt : 0 ≤ x → Gx mt d M σ (M xb) ls st r) (kf : ¬ 0 ≤ x → Gx mt d M σ cs ls st r) : Gx mt d M σ ((37, 3, xb, xc, xz) :: cs) ls (vI x :: st) r := by
  by_cases h : 0 ≤ x
  · exact Gx.one (by simp [step, oN, s_br, cmpB, h]) (kt h)
  · exact Gx.one (by simp [step, oN, s_br, cmpB, h]) (kf (by simpa using h))
theorem go_icmp_gt {mt : Nat → Nat × (Nat → List LI)} {d : Nat} {M : Nat → List LI} {σ : St} {cs : List LI} {ls : Ls} {st : List Vl} {r : St × List Vl} {xa xb xc : Nat} {xz : Int} {x y : Int} (kt : y < x → Gx mt d M σ (M xb) ls st r) (kf : ¬ y < x → Gx mt d M σ cs ls st r) : Gx mt d M σ ((36, 4, xb, xc, xz) :: cs) ls (vI y :: vI x :: st) r := by
  by_cases h : y < x
  · exact Gx.one (by simp [step, oN, s_br, cmpB, h]) (kt h)
  · exact Gx.one (by simp [step, oN, s_br, cmpB, h]) (kf (by simpa using h))
theorem go_if_gt {mt : Nat → Nat × (Nat → List LI)} {d : Nat} {M : Nat → List LI} {σ : St} {cs : List LI} {ls : Ls} {st : List Vl} {r : St × List Vl} {xa xb xc : Nat} {xz : Int} {x : Int} (kt : 0 < x → Gx mt d M σ (M xb) ls st r) (kf : ¬ 0 < x → Gx mt d M σ cs ls st r) : Gx mt d M σ ((37, 4, xb, xc, xz) :: cs) ls (vI x :: st) r := by
  by_cases h : 0 < x
  · exact Gx.one (by simp [step, oN, s_br, cmpB, h]) (kt h)
  · exact Gx.one (by simp [step, oN, s_br, cmpB, h]) (kf (by simpa using h))
theorem go_icmp_le {mt : Nat → Nat × (Nat → List LI)} {d : Nat} {M : Nat → List LI} {σ : St} {cs : List LI} {ls : Ls} {st : List Vl} {r : St × List Vl} {xa xb xc : Nat} {xz : Int} {x y : Int} (kt : x ≤ y → Gx mt d M σ (M xb) ls st r) (kf : ¬ x ≤ y → Gx mt d M σ cs ls st r) : Gx mt d M σ ((36, 5, xb, xc, xz) :: cs) ls (vI y :: vI x :: st) r := by
  by_cases h : x ≤ y
  · exact Gx.one (by simp [step, oN, s_br, cmpB, h]) (kt h)
  · exact Gx.one (by simp [step, oN, s_br, cmpB, h]) (kf (by simpa using h))
theorem go_if_le {mt : Nat → Nat × (Nat → List LI)} {d : Nat} {M : Nat → List LI} {σ : St} {cs : List LI} {ls : Ls} {st : List Vl} {r : St × List Vl} {xa xb xc : Nat} {xz : Int} {x : Int} (kt : x ≤ 0 → Gx mt d M σ (M xb) ls st r) (kf : ¬ x ≤ 0 → Gx mt d M σ cs ls st r) : Gx mt d M σ ((37, 5, xb, xc, xz) :: cs) ls (vI x :: st) r := by
  by_cases h : x ≤ 0
  · exact Gx.one (by simp [step, oN, s_br, cmpB, h]) (kt h)
  · exact Gx.one (by simp [step, oN, s_br, cmpB, h]) (kf (by simpa using h))
theorem go_ifnull {mt : Nat → Nat × (Nat → List LI)} {d : Nat} {M : Nat → List LI} {σ : St} {cs : List LI} {ls : Ls} {st : List Vl} {r : St × List Vl} {xa xb xc : Nat} {xz : Int} {t : Nat} {q : Option Nat} (kt : q = none → Gx mt d M σ (M xb) ls st r) (kf : ∀ a, q = some a → Gx mt d M σ cs ls st r) : Gx mt d M σ ((38, xa, xb, xc, xz) :: cs) ls (vR t q :: st) r := by
  cases q with
  | none => exact Gx.one (by simp [step, oN, s_br]) (kt rfl)
  | some a => exact Gx.one (by simp [step, oN, s_br]) (kf a rfl)
theorem go_ifnonnull {mt : Nat → Nat × (Nat → List LI)} {d : Nat} {M : Nat → List LI} {σ : St} {cs : List LI} {ls : Ls} {st : List Vl} {r : St × List Vl} {xa xb xc : Nat} {xz : Int} {t : Nat} {q : Option Nat} (kt : ∀ a, q = some a → Gx mt d M σ (M xb) ls st r) (kf : q = none → Gx mt d M σ cs ls st r) : Gx mt d M σ ((39, xa, xb, xc, xz) :: cs) ls (vR t q :: st) r := by
  cases q with
  | none => exact Gx.one (by simp [step, oN, s_br]) (kf rfl)
  | some a => exact Gx.one (by simp [step, oN, s_br]) (kt a rfl)
theorem go_swIn {mt : Nat → Nat × (Nat → List LI)} {d : Nat} {M : Nat → List LI} {σ : St} {cs : List LI} {ls : Ls} {st : List Vl} {r : St × List Vl} {xa xb xc : Nat} {xz : Int} {x : Int} (h : 0 ≤ x ∧ x < xa) (k : Gx mt d M σ (M (100000 + x.toNat)) ls st r) : Gx mt d M σ ((41, xa, xb, xc, xz) :: cs) ls (vI x :: st) r := Gx.one (by simp [step, oN, s_br, h.1, h.2]) k
theorem go_swOut {mt : Nat → Nat × (Nat → List LI)} {d : Nat} {M : Nat → List LI} {σ : St} {cs : List LI} {ls : Ls} {st : List Vl} {r : St × List Vl} {xa xb xc : Nat} {xz : Int} {x : Int} (h : ¬ (0 ≤ x ∧ x < xa)) (k : Gx mt d M σ (M xb) ls st r) : Gx mt d M σ ((41, xa, xb, xc, xz) :: cs) ls (vI x :: st) r := Gx.one (by simp only [step, s_br, oN]; rw [if_neg h]; rfl) k
theorem go_retI {mt : Nat → Nat × (Nat → List LI)} {d : Nat} {M : Nat → List LI} {σ : St} {cs : List LI} {ls : Ls} {st : List Vl} {xa xb xc : Nat} {xz : Int} {v : Int} : Gx mt d M σ ((71, 0, xb, xc, xz) :: cs) ls [vI v] (σ, [vI v]) := Gx.ret rfl
theorem go_retZ {mt : Nat → Nat × (Nat → List LI)} {d : Nat} {M : Nat → List LI} {σ : St} {cs : List LI} {ls : Ls} {st : List Vl} {xa xb xc : Nat} {xz : Int} {v : Int} (h : 0 ≤ v ∧ v ≤ 1) : Gx mt d M σ ((71, 1, xb, xc, xz) :: cs) ls [vI v] (σ, [vI v]) := Gx.ret (show (if (1 : Nat) = 0 ∨ (0 ≤ v ∧ v ≤ 1) then (some (.inr (.inr [vI v])) : Option Out) else none) = _ from if_pos (Or.inr h))
theorem go_retL {mt : Nat → Nat × (Nat → List LI)} {d : Nat} {M : Nat → List LI} {σ : St} {cs : List LI} {ls : Ls} {st : List Vl} {xa xb xc : Nat} {xz : Int} {v : BitVec 64} : Gx mt d M σ ((72, xa, xb, xc, xz) :: cs) ls [vL v] (σ, [vL v]) := Gx.ret rfl
theorem go_retA {mt : Nat → Nat × (Nat → List LI)} {d : Nat} {M : Nat → List LI} {σ : St} {cs : List LI} {ls : Ls} {st : List Vl} {xa xb xc : Nat} {xz : Int} {t : Nat} {v : Option Nat} : Gx mt d M σ ((73, xa, xb, xc, xz) :: cs) ls [vR t v] (σ, [vR t v]) := Gx.ret rfl
theorem go_retV {mt : Nat → Nat × (Nat → List LI)} {d : Nat} {M : Nat → List LI} {σ : St} {cs : List LI} {ls : Ls} {st : List Vl} {xa xb xc : Nat} {xz : Int} : Gx mt d M σ ((74, xa, xb, xc, xz) :: cs) ls [] (σ, []) := Gx.ret rfl
theorem go_max {mt : Nat → Nat × (Nat → List LI)} {d : Nat} {M : Nat → List LI} {σ : St} {cs : List LI} {ls : Ls} {st : List Vl} {r : St × List Vl} {xa xb xc : Nat} {xz : Int} {x y : Int} (hw : decide (stW st ≤ 8) = true) (k : Gx mt d M σ cs ls (vI (iMax x y) :: st) r) : Gx mt d M σ ((75, xa, xb, xc, xz) :: cs) ls (vI y :: vI x :: st) r := Gx.one (if_pos (of_decide_eq_true hw)) k
theorem go_min {mt : Nat → Nat × (Nat → List LI)} {d : Nat} {M : Nat → List LI} {σ : St} {cs : List LI} {ls : Ls} {st : List Vl} {r : St × List Vl} {xa xb xc : Nat} {xz : Int} {x y : Int} (hw : decide (stW st ≤ 8) = true) (k : Gx mt d M σ cs ls (vI (iMin x y) :: st) r) : Gx mt d M σ ((76, xa, xb, xc, xz) :: cs) ls (vI y :: vI x :: st) r := Gx.one (if_pos (of_decide_eq_true hw)) k
theorem go_callS {mt : Nat → Nat × (Nat → List LI)} {d : Nat} {M : Nat → List LI} {σ : St} {cs : List LI} {ls : Ls} {st : List Vl} {r : St × List Vl} {xa xb xc : Nat} {xz : Int} {d' : Nat} {σ' : St} {as st' q : List Vl} (e : takeA xb st = some (as, st')) (hw : (decide (stW st' ≤ 8) && decide ((2 * stW as : Int) ≤ xz) && decide (xz % 2 = 0)) = true) (hd : decide (d' < d) = true) (hc : Ex mt d' xa σ as (σ', q)) (k : Gx mt d M σ' cs ls (q ++ st') r) : Gx mt d M σ ((67, xa, xb, xc, xz) :: cs) ls st r := by
  simp only [Bool.and_eq_true, decide_eq_true_eq] at hw
  exact Gx.call (by simp only [step]; simp [s_inv, e, hw.1.1, hw.1.2, hw.2]) (of_decide_eq_true hd) hc k
theorem go_callV {mt : Nat → Nat × (Nat → List LI)} {d : Nat} {M : Nat → List LI} {σ : St} {cs : List LI} {ls : Ls} {st : List Vl} {r : St × List Vl} {xa xb xc : Nat} {xz : Int} {d' : Nat} {a : Nat} {σ' : St} {as st' q : List Vl} (e : takeA xb st = some (vR xc (some a) :: as, st')) (hw : (decide (stW st' ≤ 8) && decide ((2 * stW (vR xc (some a) :: as) : Int) ≤ xz) && !decide (xz % 2 = 0)) = true) (hd : decide (d' < d) = true) (hc : Ex mt d' xa σ (vR xc (some a) :: as) (σ', q)) (k : Gx mt d M σ' cs ls (q ++ st') r) : Gx mt d M σ ((67, xa, xb, xc, xz) :: cs) ls st r := by
  simp only [Bool.and_eq_true, Bool.not_eq_true', decide_eq_true_eq, decide_eq_false_iff_not] at hw
  exact Gx.call (by simp only [step]; simp [s_inv, e, hw.1.1, hw.1.2, hw.2]) (of_decide_eq_true hd) hc k
