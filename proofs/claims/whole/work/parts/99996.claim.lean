/-! THE CLAIM OUT OF ONE WALK OF THE LAW'S BODY. Your part is whole_start (and what it stands on); all else here is the same for every law, but numbers. -/
def R_law : String := "WishWaysLaw"
def lw_P (b : Addr) (xs : List Int32) (args : Array Value) (s : State) : Prop := args = #[.ref b] ∧ s.IntsAt b xs ∧ xs.length ≤ 3072 ∧ (Jvm.Cond.and given_1 narrow_1).before args s = true
def lw_Q (_ : Array Value) (s : State) (o : Outcome) (t : State) : Prop := o = .returned (some (.int 1)) ∧ Framed s o t [] 600000 7302250
def lw_Z (below : List Frame) (a : Array Value) (s : State) : State → Prop := fun t => ∃ o, t.status = .running ∧ Ended t below o ∧ lw_Q a s o t
/-- the law's own end, with 1 on the stack, nothing written that was there before, its room as the claim has it -/
theorem lw_ret {p : Program} {l : Launch} {e : Env} {s : State} {m : MethodId} {below : List Frame} {meth : Method} {c : Code} {b : Nat} (hx : p.tables.exec = Jvm.exec) (hb : c.code = code) (hr : meth.sig.returnType = ret) (hlocks : meth.locks = false) {pc : Nat} {H : Heap} {ls : Array Slot} (hdg : decode code pc = .ok (.ireturn, 1)) : W p l e room_1 s m #[Value.ref b] below meth c H [] 600000 7302250 (lw_Z below #[Value.ref b] s) (F0 m pc ls [.int 1]) := by
  intro T hT X
  obtain ⟨fs, hret, hrun, hended, hW, hframe⟩ := X.leave (v := some (.int 1)) (hlocks := hlocks) (fun h => by rw [hr] at h; cases h)
  have hmeth' : T.vm.method? m = some meth := X.method'
  refine ⟨T.setFrames fs, ?_, .returned (some (.int 1)), hrun, hended, rfl, ⟨_, rfl⟩, hW, hframe⟩
  jvm_step X.here [X.here.top, hx, hb, hdg, hmeth', hr, ret, narrow_b1]
  (try refine ⟨rfl, ?_⟩); (try refine ⟨rfl, ?_⟩)
  first | (intro acts; rw [hret _ acts rfl rfl rfl]) | rw [hret _ _ rfl rfl rfl]
  exact Steps.refl _
/-- what holds at the law's entry: the machine, the code, the tables' words (any of lw_tbl by 'hts w (by decide +kernel)'), the script of L ints xs at the cell b, what the Statement gives of the start (any of its parts by flat_of_before) -/
def lw_At (p : Program) (s : State) (m : MethodId) (meth : Method) (c : Code) (b L : Nat) (xs : Nat → Int32) : Prop :=
  p.tables.exec = Jvm.exec ∧ c.code = code ∧ meth.sig.returnType = ret ∧ c.maxLocals = 4 ∧ s.vm.findClass R_law = some m.cls ∧ (∀ w ∈ lw_tbl, w.before #[Value.ref b] s = true) ∧ va_X b L xs s s.heap ∧ b < s.heap.size ∧ meth.locks = false ∧ (Jvm.Cond.and given_1 narrow_1).before #[Value.ref b] s = true ∧ meth.name = x.name
theorem sbn_mono {s t : State} {L : List Loc} {n k n' k' : Nat} (h : s.sameButNew t L n k) (hn : n ≤ n') (hk : k ≤ k') : s.sameButNew t L n' k' := by
  obtain ⟨a1, a2, a3, a4, a5, a6⟩ := h
  exact ⟨a1, a2, Nat.le_trans a3 (Nat.add_le_add_left hn _), a4, Nat.le_trans a5 hk, a6⟩
theorem lw_fin {p : Program} {l : Launch} {e : Env} {s : State} {m : MethodId} {below : List Frame} {meth : Method} {c : Code} {b : Nat} (hx : p.tables.exec = Jvm.exec) (hb : c.code = code) (hr : meth.sig.returnType = ret) (hlocks : meth.locks = false) {pc n k : Nat} {H : Heap} {ls : Array Slot} (hdg : decode code pc = .ok (.ireturn, 1)) (hn : n ≤ 600000) (hk : k ≤ 7302250) : W p l e room_1 s m #[Value.ref b] below meth c H [] n k (lw_Z below #[Value.ref b] s) (F0 m pc ls [.int 1]) := fun T hT X => lw_ret (b := b) hx hb hr hlocks hdg T hT ⟨X.admits, X.cas, X.clock, X.frames, X.room, X.hears, X.method, X.code, X.here, X.tail, X.warmed, X.limits, X.bytes, sbn_mono X.same hn hk⟩
theorem st_kn {s : State} {b t0 t1 : Nat} {gc : Nat → ClassId} {gd : Nat → Nat → Nat} {ga : Nat → ClassId} (hts : ∀ w ∈ lw_tbl, w.before #[Value.ref b] s = true) (h1 : ∀ (c : Nat) (q : vw_C), vwCl[c]? = some q → u_Kn s q.1 q.2.1 q.2.2 (gc c) (gd c)) (h2 : (∀ t, 13 ≤ t → t < 20 → ArrOfT s (ga t) (aTy t) ∧ va_RA s (ga t) (aTy t)) ∧ ∃ kA : Class, s.vm.classes[ga 19]? = some kA ∧ kA.kind = .array (ga 15) (.array .long)) (z0 : va_Z "WishWays" "SHIFT" "[I" (.ref t0) (fun q => s.heap.size ≤ q) s s.heap) (z1 : va_Z "WishWays" "GREATEST" "[I" (.ref t1) (fun q => s.heap.size ≤ q) s s.heap) (hZ : ∀ (a : Nat) (cell : Cell), (a = b ∨ a = t0 ∨ a = t1) → s.heap[a]? = some cell → s.isArrayOf cell .int) : KN (s.heap.size, s.heap, gc, gd, ga, (fun a => a = b ∨ a = t0 ∨ a = t1), fun i => if i = 0 then t0 else t1) s := by
  refine ⟨h1, h2.1, h2.2, ⟨va_AO.of (A := #[Value.ref b]) (hts (.arrayOver (.object RX7)) (tNg_in _ (List.mem_of_getElem? (i := 0) rfl))), va_AO.of (A := #[Value.ref b]) (hts (.arrayOver (.object RX10)) (tNg_in _ (List.mem_of_getElem? (i := 1) rfl))), hts (.arrayOver (.array .long)) (tNg_in _ (List.mem_of_getElem? (i := 2) rfl))⟩, fun w hw => ?_, hts (.fieldLinkNest (cnm 4) 121 "WishWays" "GREATEST" "[I" "WishWays") (tNg_in _ (List.mem_of_getElem? (i := 5) rfl)), ⟨z0, z1⟩, hZ⟩
  have hw2 := hts w (tMN_in w hw)
  obtain ⟨t, _, rfl⟩ := List.mem_map.mp hw
  exact hw2
-- ===== YOUR PART BEGINS =====
/-- YOUR PART: from the entry, for every script of at most 3072 ints, the law comes to its end with true -/
theorem whole_start {p : Program} {e : Env} {s : State} {m : MethodId} {below : List Frame} {meth : Method} {c : Code} (l : Launch) {b L : Nat} {xs : Nat → Int32} (hL : L ≤ 3072) (C0 : lw_At p s m meth c b L xs) : W p l e room_1 s m #[Value.ref b] below meth c s.heap [] 0 0 (lw_Z below #[Value.ref b] s) (entryFrame m ([Value.ref b] : List Value).toArray 4) := by
  obtain ⟨hx, hbd, hret, hml, hown, hts, hX, hbl, hlocks, hgv, hname⟩ := C0
  have hs := flat_of_before _ hgv
  have hA : ∀ a : Nat, a < s.heap.size → ¬ (fun q : Nat => s.heap.size ≤ q) a := fun a ha h => absurd ha (Nat.not_lt.mpr h)
  obtain ⟨t0, v0, d0, T1, T2, T3, T4, T5, T6, _⟩ := va_Tof (args := #[Value.ref b]) (s := s) (tm := .static "WishWays" "SHIFT" "[I") (ty := .int) (N := 4) (f := fun j => .int (Int32.ofInt (shf j))) (A := fun q => s.heap.size ≤ q) (by decide) (hs _ (by decide +kernel)) (va_eqt (hs _ (by decide +kernel))) (fun j hj => by
    have e : j = 0 ∨ j = 1 ∨ j = 2 ∨ j = 3 := by omega
    rcases e with rfl | rfl | rfl | rfl
    · exact va_eqt (z := 4) (hs _ (by decide +kernel))
    · exact va_eqt (z := 2) (hs _ (by decide +kernel))
    · exact va_eqt (z := 0) (hs _ (by decide +kernel))
    · exact va_eqt (z := 6) (hs _ (by decide +kernel))) hA
  obtain ⟨t1, v1, d1, G1, G2, G3, G4, G5, G6, _⟩ := va_Tof (args := #[Value.ref b]) (s := s) (tm := .static "WishWays" "GREATEST" "[I") (ty := .int) (N := 4) (f := fun j => .int (Int32.ofInt (grt j))) (A := fun q => s.heap.size ≤ q) (by decide) (hs _ (by decide +kernel)) (va_eqt (hs _ (by decide +kernel))) (fun j hj => by
    have e : j = 0 ∨ j = 1 ∨ j = 2 ∨ j = 3 := by omega
    rcases e with rfl | rfl | rfl | rfl
    · exact va_eqt (z := 3) (hs _ (by decide +kernel))
    · exact va_eqt (z := 3) (hs _ (by decide +kernel))
    · exact va_eqt (z := 3) (hs _ (by decide +kernel))
    · exact va_eqt (z := 7) (hs _ (by decide +kernel))) hA
  have b0 : t0 ≠ b := fun e0 => by
    have h := hs (.not (.eq (.arg 0) (.static "WishWays" "SHIFT" "[I"))) (by decide +kernel)
    have w : (Term.arg 0).eval #[Value.ref b] s none [] s = some (.ref b) := rfl
    rw [e0] at v0
    simp [Cond.before, Cond.holds, Cond.value, w, v0] at h
  have b1 : t1 ≠ b := fun e0 => by
    have h := hs (.not (.eq (.arg 0) (.static "WishWays" "GREATEST" "[I"))) (by decide +kernel)
    have w : (Term.arg 0).eval #[Value.ref b] s none [] s = some (.ref b) := rfl
    rw [e0] at v1
    simp [Cond.before, Cond.holds, Cond.value, w, v1] at h
  have b01 : t1 ≠ t0 := fun e0 => by
    rw [e0] at G1
    cases T1.symm.trans G1
    have q := (T6 0 (by omega)).symm.trans (G6 0 (by omega))
    have q2 : Int32.ofInt (shf 0) = Int32.ofInt (grt 0) := Value.int.inj (Option.some.inj q)
    exact absurd q2 (by decide)
  have l0 : t0 < s.heap.size := (Array.getElem?_eq_some_iff.mp T1).1
  have l1 : t1 < s.heap.size := (Array.getElem?_eq_some_iff.mp G1).1
  obtain ⟨scr, X1, X2, X3, X4, X5⟩ := hX
  obtain ⟨gc, gd, hcl⟩ := st_cls hts
  obtain ⟨ga, har⟩ := st_arr hts
  have hini : (Cond.initialized "WishWays").before #[Value.ref b] s = true := hts _ (tCi_in _ (List.mem_map.mpr ⟨11, by decide, rfl⟩)).1
  have z0 := va_Zref (A := fun q => s.heap.size ≤ q) (hts (.laysStatic "WishWays" "SHIFT" "[I") (tNg_in _ (List.mem_of_getElem? (i := 4) rfl))) hini v0 hA
  have z1 := va_Zref (A := fun q => s.heap.size ≤ q) (hts (.laysStatic "WishWays" "GREATEST" "[I") (tNg_in _ (List.mem_of_getElem? (i := 3) rfl))) hini v1 hA
  have kn := st_kn (gc := gc) (gd := gd) (ga := ga) hts hcl har z0 z1 (fun a cell ha hc => by
    rcases ha with e | e | e
    · rw [e, X1] at hc
      cases hc
      exact X2
    · rw [e, T1] at hc
      cases hc
      exact T2
    · rw [e, G1] at hc
      cases hc
      exact G2)
  have rel := st_rel (gc := gc) (gd := gd) (ga := ga) (X := fun j => (xs j).toInt) hbl l0 l1 (by omega : L < 2147483648) (fun j => rg_of (xs j)) b0 b1 b01 ⟨X1, X3, ⟨by omega, by rw [X4]⟩, fun j hj => by rw [X5 j hj, ofInt_toInt]⟩ ⟨T1, T3, ⟨T4, T5⟩, T6⟩ ⟨G1, G3, ⟨G4, G5⟩, G6⟩
  obtain ⟨hS, hlo⟩ := st_stat (b := b) (L := L) (X := fun j => (xs j).toInt) b0 b1 b01 l0 l1
  obtain ⟨σ', f', g', ⟨n, hrun⟩, hnx, hsl⟩ := law_run (σ := st_s b t0 t1 L s.heap.size) (f := st_f b t0 (fun j => (xs j).toInt)) (g := fun _ _ => 0) (b := b) (L := L) hS hlo (Nat.lt_of_le_of_lt (Nat.zero_le _) hbl) hbl (fun a k => by
    show (if a = 0 ∧ k = 1000 then some t0 else if a = 0 ∧ k = 1001 then some t1 else none) ≠ some b
    split
    · exact fun h => b0 (Option.some.inj h)
    · split
      · exact fun h => b1 (Option.some.inj h)
      · exact fun h => by cases h) (fun j => by
    show Rg (st_f b t0 (fun j => (xs j).toInt) b j)
    unfold st_f
    rw [if_pos rfl]
    exact rg_of (xs j)) (if_pos rfl) hL
  have n0 : nx (st_s b t0 t1 L s.heap.size) = s.heap.size := rfl
  have s0 : sl (st_s b t0 t1 L s.heap.size) = 0 := rfl
  rw [n0] at hnx
  rw [s0] at hsl
  have hok := okM_all 316 (by decide)
  unfold okM at hok
  rw [Bool.and_eq_true, decide_eq_true_eq, List.all_eq_true] at hok
  have own : cnm (ownM 316) = R_law := by decide +kernel
  have C : Cx (s.heap.size, s.heap, gc, gd, ga, (fun a => a = b ∨ a = t0 ∨ a = t1), fun i => if i = 0 then t0 else t1) (ownM 316) p s m #[Value.ref b] := ⟨hx, by rw [own]; exact hown, fun w hw => hts w (List.mem_filter.mp hw).1, kn⟩
  have key := snd_all (s.heap.size, s.heap, gc, gd, ga, (fun a => a = b ∨ a = t0 ∨ a = t1), fun i => if i = 0 then t0 else t1) l n (i := 316) hrun (by decide) (p := p) (e := e) (R := room_1) (s := s) (m := m) (args := #[Value.ref b]) (below := below) (meth := meth) (c := c) (Q := lw_Z below #[Value.ref b] s) (n0 := s.heap.size) (s0 := 0) (pc := 0) C (hbd.trans rfl) (hname.trans rfl) (hok.2 0 hok.1) (by decide) (by decide) (Nat.le_refl _) (Nat.le_refl _) (by show nx σ' - s.heap.size ≤ 600000; omega) (by show sl σ' - 0 ≤ 7302250; omega) (fun ls' pc' hret' H locs lsJ hR' hlo' hL' hO' => by
    refine va_forget (fun q hq => hlo' q hq) ?_
    rcases hret' with ⟨v, hv, hd, _⟩ | ⟨v, hv, _⟩ | ⟨t, z, rt, hv, _⟩ | ⟨hv, _⟩
    · rw [hbd] at hd
      rw [show List.map cv [vI 1] = [Value.int 1] from rfl]
      exact lw_fin hx hbd hret hlocks hd (by show nx σ' - s.heap.size ≤ 600000; omega) (by show sl σ' - 0 ≤ 7302250; omega)
    · cases hv
    · cases hv
    · cases hv) s.heap [] _ rel (fun q hq => by simp at hq) (by rw [hml]; exact ent_LR (as := [vR 20 (some b)]) (n := 4) (by show (1 : Nat) ≤ 4; decide)) (ent_OK (as := [vR 20 (some b)]) (fun v hv => by
    cases List.mem_singleton.mp hv
    exact ⟨by decide, if_pos (Or.inl rfl)⟩))
  rw [show nx (il (st_s b t0 t1 L s.heap.size) (st_f b t0 (fun j => (xs j).toInt)) (fun _ _ => 0)) - s.heap.size = 0 from Nat.sub_self _] at key
  rw [lg_entry_eq]
  exact key
-- ===== YOUR PART ENDS =====
set_option maxHeartbeats 4000000 in
theorem lw_walk (l : Launch) (b : Addr) (xs : List Int32) : MetFree l x (headSpec (Jvm.Cond.code x code maxLocals ret :: tables_1) room_1) (lw_P b xs) (fun _ _ _ _ _ => True) lw_Q := by
  refine MetFree.of_bodyS (code := code) (maxLocals := maxLocals) (ret := ret) (by decide) ?_ ?_
  · intro args s m h hn
    obtain ⟨meth, c, h1, h2, h3, h4, h5, h6, -, -⟩ := Cond.code_spec hn (atoms_spec (ws := Jvm.Cond.code x code maxLocals ret :: tables_1) h _ List.mem_cons_self)
    exact ⟨meth, c, h1, h2, h3, h4, h5, h6⟩
  · intro p e s m args below meth c s₁ B hml0 hP _
    obtain ⟨rfl, hx, hbd, hgv⟩ := hP
    obtain ⟨scr, harrAt, hlist, hof, hsmall⟩ := hx
    obtain ⟨hcb, hkn, -, -⟩ := State.arrayAt?_spec harrAt
    have hown : s.vm.findClass R_law = some m.cls := findClass_of_methodNamed B.named
    have hts0 : ∀ c ∈ (Jvm.Cond.code x code maxLocals ret :: tables_1), c.before #[Value.ref b] s = true := atoms_spec (ws := Jvm.Cond.code x code maxLocals ret :: tables_1) B.pre
    have hts : ∀ w ∈ lw_tbl, w.before #[Value.ref b] s = true := k2_hts_sels lw_privs (fun w hw => hts0 w (List.mem_cons_of_mem _ hw)) lw_privs_ok
    have hml : c.maxLocals = 4 := B.maxLocals_eq (hts0 _ List.mem_cons_self)
    have X₀ : Stand p l e room_1 s m #[Value.ref b] below meth c s₁ [] 0 0 := Stand.of_body B
    have hh0 : s₁.heap = s.heap := by rw [B.state]; rfl
    have hsz : scr.slots.size = xs.length := by rw [← Array.length_toList, hlist, List.length_map]
    have hval : ∀ j : Nat, j < xs.length → scr.slots[j]? = some (.int (xs.getD j 0)) := fun j hj => by
      rw [← Array.getElem?_toList, hlist]
      simp [hj]
    have hbl : b < s.heap.size := (Array.getElem?_eq_some_iff.mp hcb).1
    have hX : va_X b xs.length (fun j => xs.getD j 0) s s.heap := ⟨scr, hcb, hof, hkn, hsz, hval⟩
    have K : W p l e room_1 s m #[Value.ref b] below meth c s₁.heap [] 0 0 (lw_Z below #[Value.ref b] s) (entryFrame m ([Value.ref b] : List Value).toArray 4) := by
      rw [hh0]
      exact whole_start l hbd ⟨B.exec, B.bytes, B.returns, hml, hown, hts, hX, hbl, B.notSynchronized, hgv, (name_of_methodNamed B.named B.method).1⟩
    obtain ⟨t, a1, o, b1, b2, b3⟩ := K s₁ rfl X₀
    exact ⟨t, o, a1, b1, b2, b3⟩
theorem lw_pre_spec {args : Array Value} {s : State} (h : (Jvm.Cond.and given_1 narrow_1).before args s = true) (hr : rest_1_c.before args s = true) : ∃ (b : Addr) (xs : List Int32), lw_P b xs args s := by
  have hs := flat_of_before _ h
  have hq := flat_of_before _ hr
  have hc : (Cond.count 1).before args s = true := hs _ (by decide +kernel)
  have harr : (Cond.arrayOf (.arg 0) .int).before args s = true := hs _ (by decide +kernel)
  have hle : (Cond.le (.length (.arg 0)) (.int 3072)).before args s = true := hs _ (by decide +kernel)
  have hlen : (Cond.isInt (.length (.arg 0))).before args s = true := hq _ (by decide +kernel)
  have hall : (Cond.all (.arg 0) (.isInt (.elem (.arg 0) (.index 0)))).before args s = true := hq _ (by decide +kernel)
  obtain ⟨b, xs, hb, hx⟩ := State.ints_of_pre rfl harr hlen hall
  have hsm : xs.length < 2 ^ 31 := hx.choose_spec.2.2.2
  have hev : (Term.length (.arg 0)).eval args s none [] s = some (.int xs.length.toInt32) := hx.length_eval hb
  have hv := Cond.le_ints hev (show (Term.int 3072).eval args s none [] s = some (.int 3072) from rfl)
  have hd : xs.length.toInt32 ≤ 3072 := by
    simpa [Cond.before, Cond.holds, hv] using hle
  have hN : xs.length ≤ 3072 := (Int32.ofNat_le_ofNat hsm (by decide)).mp (show Int32.ofNat xs.length ≤ Int32.ofNat 3072 from hd)
  exact ⟨b, xs, Cond.one_arg hc (show args[0]? = some (.ref b) from hb), hx, hN, h⟩
theorem lw_comes (l : Launch) : Comes l x (Jvm.Cond.code x code maxLocals ret :: tables_1) room_1 (fun tb e args s => Calls_1 tb e args s ∧ rest_1 tb e args s ∧ Pre_1 tb e args s)
    (fun _ _ args s o t => lw_Q args s o t) := by
  intro p e ha hc hk s m args below hf hfit hheap happ hpre
  obtain ⟨b, xs, hP⟩ := lw_pre_spec hpre.2.2 hpre.2.1
  obtain ⟨k, o, h1, h2, h3, hQ⟩ := lw_walk l b xs p e ha hc hk s m args below hf ((Spec.applies_iff_loose hf).mp happ).1 hP trivial
  exact ⟨k, o, h1, h2, h3, hQ⟩
theorem lw_frame {s t : State} {o : Outcome} {args : Array Value} (h : Framed s o t [] 600000 7302250) :
    Framed s o t (fieldLocs frame_1_writes args s ++ arrayLocs frame_1_arrays args s ++ staticLocs frame_1_statics s) 600000 7302250 := h
theorem lw_limb (L : Cond) (hL : ∀ (args : Array Value) (s t : State), L.after args s (.returned (some (.int 1))) t = true) :
    ArmFor flags0 classFile x code maxLocals ret World_1 tables_1 room_1 Calls_1 rest_1 Pre_1
      (fun tb e a s o t => postC L tb e a s o t ∧ Framed s o t (fieldLocs frame_1_writes a s ++ arrayLocs frame_1_arrays a s ++ staticLocs frame_1_statics s) 600000 7302250) := by
  intro l _ _ _ p e ha hc hk s m args below hf hfit hheap happ hpre
  obtain ⟨k, o, h1, h2, h3, rfl, hF⟩ := lw_comes l p e ha hc hk s m args below hf hfit hheap happ hpre
  exact ⟨k, _, h1, h2, h3, hL args s _, lw_frame hF⟩
theorem i_vc : Claimed_1_1 ∧ Claimed_1_2 := ⟨lw_limb limb_1_1 (fun args s t => by simp [limb_1_1, Cond.after, Cond.holds, Cond.value]), lw_limb limb_1_2 (fun args s t => Cond.after_iff.mpr (by
  first | (rw [show limb_1_2 = Cond.eq .result (.int 1) from rfl, Cond.eq_ints (x := 1) (y := 1) rfl rfl]; simp; done) | (simp [limb_1_2, Cond.value, Term.eval]; done)))⟩
