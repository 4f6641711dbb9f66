/-! the code tables are the bytecode -/
def cnN (q : ClassFile.Cond) : Nat := match q with
  | .eq => 0
  | .ne => 1
  | .lt => 2
  | .ge => 3
  | .gt => 4
  | .le => 5
def okI (own pc : Nat) (ini : Bool) (hs : List Nat) (cd : Nat → List LI) (ret : Option FieldType) (li : LI) (ins : Instr) (len : Nat) : Bool := match li with
  | (op, a, b, c, z) => match ins with
    | .iload k => decide (op = 1 ∧ a = k ∧ len = 2)
    | .iload_n k => decide (op = 1 ∧ a = k.val ∧ len = 1)
    | .lload k => decide (op = 2 ∧ a = k ∧ len = 2)
    | .lload_n k => decide (op = 2 ∧ a = k.val ∧ len = 1)
    | .aload k => decide (op = 3 ∧ a = k ∧ len = 2)
    | .aload_n k => decide (op = 3 ∧ a = k.val ∧ len = 1)
    | .istore k => decide (op = 4 ∧ a = k ∧ len = 2)
    | .istore_n k => decide (op = 4 ∧ a = k.val ∧ len = 1)
    | .lstore k => decide (op = 5 ∧ a = k ∧ len = 2)
    | .lstore_n k => decide (op = 5 ∧ a = k.val ∧ len = 1)
    | .astore k => decide (op = 6 ∧ a = k ∧ len = 2)
    | .astore_n k => decide (op = 6 ∧ a = k.val ∧ len = 1)
    | .iconst n => decide (op = 7 ∧ n = z ∧ len = 1)
    | .bipush n => decide (op = 7 ∧ (Int8.ofInt n).toInt32 = Int32.ofInt z ∧ len = 2)
    | .sipush n => decide (op = 7 ∧ (Int16.ofInt n).toInt32 = Int32.ofInt z ∧ len = 3)
    | .ldc i => decide (op = 7 ∧ (own, i, z) ∈ tKI ∧ len = 2)
    | .ldc_w i => decide (op = 7 ∧ (own, i, z) ∈ tKI ∧ len = 3)
    | .lconst n => decide (op = 8 ∧ Int64.ofNat n.val = Int64.ofBitVec (BitVec.ofInt 64 z) ∧ len = 1)
    | .ldc2_w i => decide (op = 8 ∧ (own, i, z) ∈ tKL ∧ len = 3)
    | .aconst_null => decide (op = 9 ∧ len = 1)
    | .iadd => decide (op = 10 ∧ len = 1)
    | .isub => decide (op = 11 ∧ len = 1)
    | .imul => decide (op = 12 ∧ len = 1)
    | .idiv => decide (op = 13 ∧ len = 1)
    | .irem => decide (op = 14 ∧ len = 1)
    | .ishl => decide (op = 16 ∧ len = 1)
    | .ishr => decide (op = 17 ∧ len = 1)
    | .iushr => decide (op = 18 ∧ len = 1)
    | .iand => decide (op = 19 ∧ len = 1)
    | .ior => decide (op = 20 ∧ len = 1)
    | .ixor => decide (op = 21 ∧ len = 1)
    | .ladd => decide (op = 22 ∧ len = 1)
    | .lsub => decide (op = 23 ∧ len = 1)
    | .lneg => decide (op = 24 ∧ len = 1)
    | .land => decide (op = 25 ∧ len = 1)
    | .lor => decide (op = 26 ∧ len = 1)
    | .lxor => decide (op = 27 ∧ len = 1)
    | .lshl => decide (op = 28 ∧ len = 1)
    | .lshr => decide (op = 29 ∧ len = 1)
    | .lushr => decide (op = 30 ∧ len = 1)
    | .lcmp => decide (op = 31 ∧ len = 1)
    | .i2l => decide (op = 32 ∧ len = 1)
    | .l2i => decide (op = 33 ∧ len = 1)
    | .i2b => decide (op = 34 ∧ len = 1)
    | .dup => decide (op = 42 ∧ len = 1)
    | .dup2 => decide (op = 43 ∧ len = 1)
    | .pop => decide (op = 44 ∧ len = 1)
    | .iinc i n => decide (op = 35 ∧ a = i ∧ z = n ∧ len = 3)
    | .if_icmp q o => decide (op = 36 ∧ a = cnN q ∧ (pc : Int) + o = b ∧ b ∈ hs ∧ len = 3)
    | .ifCond q o => decide (op = 37 ∧ a = cnN q ∧ (pc : Int) + o = b ∧ b ∈ hs ∧ len = 3)
    | .ifnull o => decide (op = 38 ∧ (pc : Int) + o = b ∧ b ∈ hs ∧ len = 3)
    | .ifnonnull o => decide (op = 39 ∧ (pc : Int) + o = b ∧ b ∈ hs ∧ len = 3)
    | .goto o => decide (op = 40 ∧ (pc : Int) + o = a ∧ a ∈ hs ∧ len = 3)
    | .tableswitch dflt lo hi offs => decide (op = 41 ∧ a = offs.size ∧ lo = 0 ∧ hi + 1 = a ∧ (pc : Int) + dflt = b ∧ b ∈ hs) && (List.range a).all (fun j => match offs[j]? with | some o => decide ((pc : Int) + o ≥ 0 ∧ ((pc : Int) + o).toNat ∈ hs ∧ cd (100000 + j) = [(0, ((pc : Int) + o).toNat, 0, 0, 0)]) | none => false)
    | .getfield i => decide ((own, i, a, b) ∈ tFL ∧ a < 13 ∧ b < nFl a ∧ len = 3 ∧ ((op = 45 ∧ fKd a b ≤ 1) ∨ (op = 46 ∧ fKd a b = 2) ∨ (op = 47 ∧ fKd a b = c + 3)))
    | .putfield i => decide ((own, i, a, b) ∈ tFL ∧ a < 13 ∧ b < nFl a ∧ len = 3 ∧ ((op = 48 ∧ fKd a b = c ∧ c ≤ 1) ∨ (op = 49 ∧ fKd a b = 2) ∨ (op = 50 ∧ fKd a b = c + 3)) ∧ ((fTb a b).2.2.2 = false ∨ ((fTb a b).2.2.2 = true ∧ ini = true ∧ (fTb a b).1 = cnm own)))
    | .getstatic i => decide (op = 51 ∧ len = 3 ∧ ((own = 11 ∧ i = 348 ∧ a = 0) ∨ (own = 11 ∧ i = 351 ∧ a = 1) ∨ (own = 4 ∧ i = 121 ∧ a = 1)))
    | .iaload => decide ((op = 52) ∧ len = 1)
    | .laload => decide ((op = 53) ∧ len = 1)
    | .baload => decide ((op = 54 ∨ op = 55) ∧ len = 1)
    | .iastore => decide ((op = 57) ∧ len = 1)
    | .lastore => decide ((op = 58) ∧ len = 1)
    | .bastore => decide ((op = 59 ∨ op = 60) ∧ len = 1)
    | .arraylength => decide ((op = 62) ∧ len = 1)
    | .aaload => decide (op = 56 ∧ (a, c) ∈ [(17, 7), (18, 10), (19, 15)] ∧ len = 1)
    | .aastore => decide (op = 61 ∧ (a, c) ∈ [(17, 7), (18, 10), (19, 15)] ∧ len = 1)
    | .newarray y => decide (op = 63 ∧ len = 2 ∧ ((y = .byte ∧ a = 13) ∨ (y = .int ∧ a = 14) ∨ (y = .long ∧ a = 15) ∨ (y = .boolean ∧ a = 16)))
    | .anewarray i => decide (op = 64 ∧ len = 3 ∧ (((own, i, 7) ∈ tNA ∧ a = 17) ∨ ((own, i, 10) ∈ tNA ∧ a = 18)))
    | .multianewarray i n => decide (op = 65 ∧ len = 4 ∧ own = 2 ∧ i = 11 ∧ n = 2)
    | .new i => decide (op = 66 ∧ len = 3 ∧ (own, i, a) ∈ tCL ∧ a < 13 ∧ c = nFl a)
    | .invokestatic i => decide (len = 3 ∧ ((op = 67 ∧ z % 2 = 0 ∧ ((own, i, a) ∈ tML ∨ (own, i, a) ∈ tMN) ∧ a ∈ tSt ∧ a < 316 ∧ b = mPn a ∧ (mt a).1 ≤ 40 ∧ z ≤ 2 * (mt a).1 + 1) ∨ ((op = 69 ∨ op = 70) ∧ (own, i) ∈ tAC) ∨ (op = 75 ∧ (own, i) ∈ tMx) ∨ (op = 76 ∧ (own, i) ∈ tMi)))
    | .invokevirtual i => decide (len = 3 ∧ op = 67 ∧ ¬ z % 2 = 0 ∧ (own, i, a) ∈ tML ∧ a ∈ tIn ∧ a ∈ tSe ∧ a < 316 ∧ c < 13 ∧ (mI a).1.cls = cnm c ∧ b = mPn a + 1 ∧ (mt a).1 ≤ 40 ∧ z ≤ 2 * (mt a).1 + 1)
    | .invokespecial i => decide (len = 3 ∧ ((op = 68 ∧ (own, i) ∈ tOI) ∨ (op = 67 ∧ ¬ z % 2 = 0 ∧ (own, i, a) ∈ tML ∧ a ∈ tIn ∧ a < 316 ∧ (mI a).1.name = "<init>" ∧ (mI a).2.2.1 = none ∧ b = mPn a + 1 ∧ (mt a).1 ≤ 40 ∧ z ≤ 2 * (mt a).1 + 1)))
    | .ireturn => decide (op = 71 ∧ len = 1 ∧ ((a = 0 ∧ ret = some .int) ∨ (a = 1 ∧ ret = some .boolean)))
    | .lreturn => decide (op = 72 ∧ len = 1 ∧ ret = some .long)
    | .areturn => decide (op = 73 ∧ len = 1) && (match ret with | some (.object _) => true | some (.array _) => true | _ => false)
    | .return_ => decide (op = 74 ∧ len = 1 ∧ ret = none)
    | _ => false
/-- a row behind which nothing of the block comes -/
def endB (op : Nat) : Bool := decide (op = 40 ∨ op = 41 ∨ op = 71 ∨ op = 72 ∨ op = 73 ∨ op = 74)
def chk (own : Nat) (ini : Bool) (hs : List Nat) (cd : Nat → List LI) (ret : Option FieldType) (by_ : ByteArray) : Nat → List LI → Bool
  | _, [] => false
  | pc, li :: cs => if li.1 = 0 then decide (li.2.1 = pc) && decide (pc ∈ hs) else match decode by_ pc with
    | .ok (ins, len) => okI own pc ini hs cd ret li ins len && (endB li.1 || chk own ini hs cd ret by_ (pc + len) cs)
    | .error _ => false
def ownM (i : Nat) : Nat := (mI i).2.2.2
def iniM (i : Nat) : Bool := decide ((mI i).1.name = "<init>")
def hdM (i : Nat) : List Nat := mHd.getD i []
def chkM (i pc : Nat) (cs : List LI) : Bool := chk (ownM i) (iniM i) (hdM i) (mt i).2 (mI i).2.2.1 (mI i).2.1 pc cs
def okM (i : Nat) : Bool := decide (0 ∈ hdM i) && (hdM i).all (fun h => chkM i h ((mt i).2 h))
set_option maxRecDepth 100000 in
theorem okM_0 : ∀ i, 0 ≤ i → i < 22 → okM i = true := by
  have h : ∀ j, j < 22 → okM (0 + j) = true := by decide +kernel
  intro i h1 h2
  have := h (i - 0) (by omega)
  rw [show 0 + (i - 0) = i by omega] at this
  exact this
set_option maxRecDepth 100000 in
theorem okM_1 : ∀ i, 22 ≤ i → i < 45 → okM i = true := by
  have h : ∀ j, j < 23 → okM (22 + j) = true := by decide +kernel
  intro i h1 h2
  have := h (i - 22) (by omega)
  rw [show 22 + (i - 22) = i by omega] at this
  exact this
set_option maxRecDepth 100000 in
theorem okM_2 : ∀ i, 45 ≤ i → i < 63 → okM i = true := by
  have h : ∀ j, j < 18 → okM (45 + j) = true := by decide +kernel
  intro i h1 h2
  have := h (i - 45) (by omega)
  rw [show 45 + (i - 45) = i by omega] at this
  exact this
set_option maxRecDepth 100000 in
theorem okM_3 : ∀ i, 63 ≤ i → i < 84 → okM i = true := by
  have h : ∀ j, j < 21 → okM (63 + j) = true := by decide +kernel
  intro i h1 h2
  have := h (i - 63) (by omega)
  rw [show 63 + (i - 63) = i by omega] at this
  exact this
set_option maxRecDepth 100000 in
theorem okM_4 : ∀ i, 84 ≤ i → i < 103 → okM i = true := by
  have h : ∀ j, j < 19 → okM (84 + j) = true := by decide +kernel
  intro i h1 h2
  have := h (i - 84) (by omega)
  rw [show 84 + (i - 84) = i by omega] at this
  exact this
set_option maxRecDepth 100000 in
theorem okM_5 : ∀ i, 103 ≤ i → i < 118 → okM i = true := by
  have h : ∀ j, j < 15 → okM (103 + j) = true := by decide +kernel
  intro i h1 h2
  have := h (i - 103) (by omega)
  rw [show 103 + (i - 103) = i by omega] at this
  exact this
set_option maxRecDepth 100000 in
theorem okM_6 : ∀ i, 118 ≤ i → i < 140 → okM i = true := by
  have h : ∀ j, j < 22 → okM (118 + j) = true := by decide +kernel
  intro i h1 h2
  have := h (i - 118) (by omega)
  rw [show 118 + (i - 118) = i by omega] at this
  exact this
set_option maxRecDepth 100000 in
theorem okM_7 : ∀ i, 140 ≤ i → i < 161 → okM i = true := by
  have h : ∀ j, j < 21 → okM (140 + j) = true := by decide +kernel
  intro i h1 h2
  have := h (i - 140) (by omega)
  rw [show 140 + (i - 140) = i by omega] at this
  exact this
set_option maxRecDepth 100000 in
theorem okM_8 : ∀ i, 161 ≤ i → i < 198 → okM i = true := by
  have h : ∀ j, j < 37 → okM (161 + j) = true := by decide +kernel
  intro i h1 h2
  have := h (i - 161) (by omega)
  rw [show 161 + (i - 161) = i by omega] at this
  exact this
set_option maxRecDepth 100000 in
theorem okM_9 : ∀ i, 198 ≤ i → i < 217 → okM i = true := by
  have h : ∀ j, j < 19 → okM (198 + j) = true := by decide +kernel
  intro i h1 h2
  have := h (i - 198) (by omega)
  rw [show 198 + (i - 198) = i by omega] at this
  exact this
set_option maxRecDepth 100000 in
theorem okM_10 : ∀ i, 217 ≤ i → i < 225 → okM i = true := by
  have h : ∀ j, j < 8 → okM (217 + j) = true := by decide +kernel
  intro i h1 h2
  have := h (i - 217) (by omega)
  rw [show 217 + (i - 217) = i by omega] at this
  exact this
set_option maxRecDepth 100000 in
theorem okM_11 : ∀ i, 225 ≤ i → i < 239 → okM i = true := by
  have h : ∀ j, j < 14 → okM (225 + j) = true := by decide +kernel
  intro i h1 h2
  have := h (i - 225) (by omega)
  rw [show 225 + (i - 225) = i by omega] at this
  exact this
set_option maxRecDepth 100000 in
theorem okM_12 : ∀ i, 239 ≤ i → i < 255 → okM i = true := by
  have h : ∀ j, j < 16 → okM (239 + j) = true := by decide +kernel
  intro i h1 h2
  have := h (i - 239) (by omega)
  rw [show 239 + (i - 239) = i by omega] at this
  exact this
set_option maxRecDepth 100000 in
theorem okM_13 : ∀ i, 255 ≤ i → i < 269 → okM i = true := by
  have h : ∀ j, j < 14 → okM (255 + j) = true := by decide +kernel
  intro i h1 h2
  have := h (i - 255) (by omega)
  rw [show 255 + (i - 255) = i by omega] at this
  exact this
set_option maxRecDepth 100000 in
theorem okM_14 : ∀ i, 269 ≤ i → i < 278 → okM i = true := by
  have h : ∀ j, j < 9 → okM (269 + j) = true := by decide +kernel
  intro i h1 h2
  have := h (i - 269) (by omega)
  rw [show 269 + (i - 269) = i by omega] at this
  exact this
set_option maxRecDepth 100000 in
theorem okM_15 : ∀ i, 278 ≤ i → i < 290 → okM i = true := by
  have h : ∀ j, j < 12 → okM (278 + j) = true := by decide +kernel
  intro i h1 h2
  have := h (i - 278) (by omega)
  rw [show 278 + (i - 278) = i by omega] at this
  exact this
set_option maxRecDepth 100000 in
theorem okM_16 : ∀ i, 290 ≤ i → i < 302 → okM i = true := by
  have h : ∀ j, j < 12 → okM (290 + j) = true := by decide +kernel
  intro i h1 h2
  have := h (i - 290) (by omega)
  rw [show 290 + (i - 290) = i by omega] at this
  exact this
set_option maxRecDepth 100000 in
theorem okM_17 : ∀ i, 302 ≤ i → i < 315 → okM i = true := by
  have h : ∀ j, j < 13 → okM (302 + j) = true := by decide +kernel
  intro i h1 h2
  have := h (i - 302) (by omega)
  rw [show 302 + (i - 302) = i by omega] at this
  exact this
set_option maxRecDepth 100000 in
theorem okM_18 : ∀ i, 315 ≤ i → i < 316 → okM i = true := by
  have h : ∀ j, j < 1 → okM (315 + j) = true := by decide +kernel
  intro i h1 h2
  have := h (i - 315) (by omega)
  rw [show 315 + (i - 315) = i by omega] at this
  exact this
