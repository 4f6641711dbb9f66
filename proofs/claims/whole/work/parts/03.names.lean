-- ===== PART A: goes FIRST, ahead of the names: the tables' words, and 'selects' of the private methods out of them =====
/-- a private method of a class that the tables say can be made, by its rows of tables_1 -/
def lw_okq (q : MethodName × Nat) : Prop := (q.1.cls ≠ "java/lang/invoke/MethodHandle" ∧ q.1.cls ≠ "java/lang/invoke/VarHandle") ∧ Cond.instantiable q.1.cls q.2 ∈ tables_1 ∧ Cond.privateMethod q.1 ∈ tables_1 ∧ Cond.instanceMethod q.1 ∈ tables_1
theorem lw_p0 : lw_okq (⟨"WishWays", "takeBytes", "(I)V"⟩, 14) := ⟨⟨by decide +kernel, by decide +kernel⟩, List.mem_of_getElem? (i := 20) (by decide +kernel), List.mem_of_getElem? (i := 388) (by decide +kernel), List.mem_of_getElem? (i := 389) (by decide +kernel)⟩
theorem lw_p1 : lw_okq (⟨"WishWays", "wishAt", "(I)LWishWays$Wish;"⟩, 14) := ⟨⟨by decide +kernel, by decide +kernel⟩, List.mem_of_getElem? (i := 20) (by decide +kernel), List.mem_of_getElem? (i := 609) (by decide +kernel), List.mem_of_getElem? (i := 610) (by decide +kernel)⟩
theorem lw_p2 : lw_okq (⟨"WishWays", "mayTouch", "(II)Z"⟩, 14) := ⟨⟨by decide +kernel, by decide +kernel⟩, List.mem_of_getElem? (i := 20) (by decide +kernel), List.mem_of_getElem? (i := 673) (by decide +kernel), List.mem_of_getElem? (i := 674) (by decide +kernel)⟩
theorem lw_p3 : lw_okq (⟨"WishWays", "firstByRank", "(I)I"⟩, 14) := ⟨⟨by decide +kernel, by decide +kernel⟩, List.mem_of_getElem? (i := 20) (by decide +kernel), List.mem_of_getElem? (i := 693) (by decide +kernel), List.mem_of_getElem? (i := 694) (by decide +kernel)⟩
theorem lw_p4 : lw_okq (⟨"WishWays$Teller", "put", "(LWishWays$Tree;III)V"⟩, 4) := ⟨⟨by decide +kernel, by decide +kernel⟩, List.mem_of_getElem? (i := 125) (by decide +kernel), List.mem_of_getElem? (i := 1028) (by decide +kernel), List.mem_of_getElem? (i := 1029) (by decide +kernel)⟩
theorem lw_p5 : lw_okq (⟨"WishWays$Teller", "putBare", "(LWishWays$Tree;II)V"⟩, 4) := ⟨⟨by decide +kernel, by decide +kernel⟩, List.mem_of_getElem? (i := 125) (by decide +kernel), List.mem_of_getElem? (i := 1039) (by decide +kernel), List.mem_of_getElem? (i := 1040) (by decide +kernel)⟩
theorem lw_p6 : lw_okq (⟨"WishWaysModel", "put", "(I)V"⟩, 79) := ⟨⟨by decide +kernel, by decide +kernel⟩, List.mem_of_getElem? (i := 1200) (by decide +kernel), List.mem_of_getElem? (i := 1451) (by decide +kernel), List.mem_of_getElem? (i := 1452) (by decide +kernel)⟩
theorem lw_p7 : lw_okq (⟨"WishWaysModel", "wanted", "()Z"⟩, 79) := ⟨⟨by decide +kernel, by decide +kernel⟩, List.mem_of_getElem? (i := 1200) (by decide +kernel), List.mem_of_getElem? (i := 1467) (by decide +kernel), List.mem_of_getElem? (i := 1468) (by decide +kernel)⟩
theorem lw_p8 : lw_okq (⟨"WishWaysModel", "blanks", "()V"⟩, 79) := ⟨⟨by decide +kernel, by decide +kernel⟩, List.mem_of_getElem? (i := 1200) (by decide +kernel), List.mem_of_getElem? (i := 1471) (by decide +kernel), List.mem_of_getElem? (i := 1472) (by decide +kernel)⟩
theorem lw_p9 : lw_okq (⟨"WishWaysModel", "sign", "()I"⟩, 79) := ⟨⟨by decide +kernel, by decide +kernel⟩, List.mem_of_getElem? (i := 1200) (by decide +kernel), List.mem_of_getElem? (i := 1475) (by decide +kernel), List.mem_of_getElem? (i := 1476) (by decide +kernel)⟩
theorem lw_p10 : lw_okq (⟨"WishWaysModel", "fails", "(II)V"⟩, 79) := ⟨⟨by decide +kernel, by decide +kernel⟩, List.mem_of_getElem? (i := 1200) (by decide +kernel), List.mem_of_getElem? (i := 1479) (by decide +kernel), List.mem_of_getElem? (i := 1480) (by decide +kernel)⟩
theorem lw_p11 : lw_okq (⟨"WishWaysModel", "isDigit", "()Z"⟩, 79) := ⟨⟨by decide +kernel, by decide +kernel⟩, List.mem_of_getElem? (i := 1200) (by decide +kernel), List.mem_of_getElem? (i := 1483) (by decide +kernel), List.mem_of_getElem? (i := 1484) (by decide +kernel)⟩
theorem lw_p12 : lw_okq (⟨"WishWaysModel", "counts", "(I)V"⟩, 79) := ⟨⟨by decide +kernel, by decide +kernel⟩, List.mem_of_getElem? (i := 1200) (by decide +kernel), List.mem_of_getElem? (i := 1489) (by decide +kernel), List.mem_of_getElem? (i := 1490) (by decide +kernel)⟩
theorem lw_p13 : lw_okq (⟨"WishWaysModel", "node", "(III)V"⟩, 79) := ⟨⟨by decide +kernel, by decide +kernel⟩, List.mem_of_getElem? (i := 1200) (by decide +kernel), List.mem_of_getElem? (i := 1493) (by decide +kernel), List.mem_of_getElem? (i := 1494) (by decide +kernel)⟩
theorem lw_p14 : lw_okq (⟨"WishWaysModel", "isLetter", "()Z"⟩, 79) := ⟨⟨by decide +kernel, by decide +kernel⟩, List.mem_of_getElem? (i := 1200) (by decide +kernel), List.mem_of_getElem? (i := 1497) (by decide +kernel), List.mem_of_getElem? (i := 1498) (by decide +kernel)⟩
theorem lw_p15 : lw_okq (⟨"WishWaysModel", "atom", "(I)V"⟩, 79) := ⟨⟨by decide +kernel, by decide +kernel⟩, List.mem_of_getElem? (i := 1200) (by decide +kernel), List.mem_of_getElem? (i := 1503) (by decide +kernel), List.mem_of_getElem? (i := 1504) (by decide +kernel)⟩
def lw_privs_1 : List (MethodName × Nat) := [(⟨"WishWays", "takeBytes", "(I)V"⟩, 14), (⟨"WishWays", "wishAt", "(I)LWishWays$Wish;"⟩, 14), (⟨"WishWays", "mayTouch", "(II)Z"⟩, 14), (⟨"WishWays", "firstByRank", "(I)I"⟩, 14), (⟨"WishWays$Teller", "put", "(LWishWays$Tree;III)V"⟩, 4), (⟨"WishWays$Teller", "putBare", "(LWishWays$Tree;II)V"⟩, 4), (⟨"WishWaysModel", "put", "(I)V"⟩, 79), (⟨"WishWaysModel", "wanted", "()Z"⟩, 79), (⟨"WishWaysModel", "blanks", "()V"⟩, 79), (⟨"WishWaysModel", "sign", "()I"⟩, 79), (⟨"WishWaysModel", "fails", "(II)V"⟩, 79), (⟨"WishWaysModel", "isDigit", "()Z"⟩, 79), (⟨"WishWaysModel", "counts", "(I)V"⟩, 79), (⟨"WishWaysModel", "node", "(III)V"⟩, 79), (⟨"WishWaysModel", "isLetter", "()Z"⟩, 79), (⟨"WishWaysModel", "atom", "(I)V"⟩, 79)]
theorem lw_r1 : ∀ q ∈ lw_privs_1, lw_okq q := List.forall_mem_cons.mpr ⟨lw_p0, List.forall_mem_cons.mpr ⟨lw_p1, List.forall_mem_cons.mpr ⟨lw_p2, List.forall_mem_cons.mpr ⟨lw_p3, List.forall_mem_cons.mpr ⟨lw_p4, List.forall_mem_cons.mpr ⟨lw_p5, List.forall_mem_cons.mpr ⟨lw_p6, List.forall_mem_cons.mpr ⟨lw_p7, List.forall_mem_cons.mpr ⟨lw_p8, List.forall_mem_cons.mpr ⟨lw_p9, List.forall_mem_cons.mpr ⟨lw_p10, List.forall_mem_cons.mpr ⟨lw_p11, List.forall_mem_cons.mpr ⟨lw_p12, List.forall_mem_cons.mpr ⟨lw_p13, List.forall_mem_cons.mpr ⟨lw_p14, List.forall_mem_cons.mpr ⟨lw_p15, fun _ h => absurd h List.not_mem_nil⟩⟩⟩⟩⟩⟩⟩⟩⟩⟩⟩⟩⟩⟩⟩⟩
theorem lw_p16 : lw_okq (⟨"WishWaysModel", "field", "()I"⟩, 79) := ⟨⟨by decide +kernel, by decide +kernel⟩, List.mem_of_getElem? (i := 1200) (by decide +kernel), List.mem_of_getElem? (i := 1507) (by decide +kernel), List.mem_of_getElem? (i := 1508) (by decide +kernel)⟩
theorem lw_p17 : lw_okq (⟨"WishWaysModel", "number", "(I)I"⟩, 79) := ⟨⟨by decide +kernel, by decide +kernel⟩, List.mem_of_getElem? (i := 1200) (by decide +kernel), List.mem_of_getElem? (i := 1511) (by decide +kernel), List.mem_of_getElem? (i := 1512) (by decide +kernel)⟩
theorem lw_p18 : lw_okq (⟨"WishWaysModel", "behind", "()Z"⟩, 79) := ⟨⟨by decide +kernel, by decide +kernel⟩, List.mem_of_getElem? (i := 1200) (by decide +kernel), List.mem_of_getElem? (i := 1515) (by decide +kernel), List.mem_of_getElem? (i := 1516) (by decide +kernel)⟩
theorem lw_p19 : lw_okq (⟨"WishWaysModel", "makes", "(I)V"⟩, 79) := ⟨⟨by decide +kernel, by decide +kernel⟩, List.mem_of_getElem? (i := 1200) (by decide +kernel), List.mem_of_getElem? (i := 1519) (by decide +kernel), List.mem_of_getElem? (i := 1520) (by decide +kernel)⟩
theorem lw_p20 : lw_okq (⟨"WishWaysModel", "top", "()I"⟩, 79) := ⟨⟨by decide +kernel, by decide +kernel⟩, List.mem_of_getElem? (i := 1200) (by decide +kernel), List.mem_of_getElem? (i := 1523) (by decide +kernel), List.mem_of_getElem? (i := 1524) (by decide +kernel)⟩
theorem lw_p21 : lw_okq (⟨"WishWaysModel", "join", "(I)V"⟩, 79) := ⟨⟨by decide +kernel, by decide +kernel⟩, List.mem_of_getElem? (i := 1200) (by decide +kernel), List.mem_of_getElem? (i := 1527) (by decide +kernel), List.mem_of_getElem? (i := 1528) (by decide +kernel)⟩
theorem lw_p22 : lw_okq (⟨"WishWaysModel", "works", "(I)V"⟩, 79) := ⟨⟨by decide +kernel, by decide +kernel⟩, List.mem_of_getElem? (i := 1200) (by decide +kernel), List.mem_of_getElem? (i := 1531) (by decide +kernel), List.mem_of_getElem? (i := 1532) (by decide +kernel)⟩
theorem lw_p23 : lw_okq (⟨"WishWaysModel", "closes", "(I)V"⟩, 79) := ⟨⟨by decide +kernel, by decide +kernel⟩, List.mem_of_getElem? (i := 1200) (by decide +kernel), List.mem_of_getElem? (i := 1535) (by decide +kernel), List.mem_of_getElem? (i := 1536) (by decide +kernel)⟩
theorem lw_p24 : lw_okq (⟨"WishWaysModel", "follows", "(II)V"⟩, 79) := ⟨⟨by decide +kernel, by decide +kernel⟩, List.mem_of_getElem? (i := 1200) (by decide +kernel), List.mem_of_getElem? (i := 1539) (by decide +kernel), List.mem_of_getElem? (i := 1540) (by decide +kernel)⟩
theorem lw_p25 : lw_okq (⟨"WishWaysModel", "leaf", "(IIII)V"⟩, 79) := ⟨⟨by decide +kernel, by decide +kernel⟩, List.mem_of_getElem? (i := 1200) (by decide +kernel), List.mem_of_getElem? (i := 1543) (by decide +kernel), List.mem_of_getElem? (i := 1544) (by decide +kernel)⟩
theorem lw_p26 : lw_okq (⟨"WishWaysModel", "isWish", "(I)Z"⟩, 79) := ⟨⟨by decide +kernel, by decide +kernel⟩, List.mem_of_getElem? (i := 1200) (by decide +kernel), List.mem_of_getElem? (i := 1557) (by decide +kernel), List.mem_of_getElem? (i := 1558) (by decide +kernel)⟩
theorem lw_p27 : lw_okq (⟨"WishWaysModel", "many", "(II)I"⟩, 79) := ⟨⟨by decide +kernel, by decide +kernel⟩, List.mem_of_getElem? (i := 1200) (by decide +kernel), List.mem_of_getElem? (i := 1565) (by decide +kernel), List.mem_of_getElem? (i := 1566) (by decide +kernel)⟩
theorem lw_p28 : lw_okq (⟨"WishWaysModel", "kth", "(III)I"⟩, 79) := ⟨⟨by decide +kernel, by decide +kernel⟩, List.mem_of_getElem? (i := 1200) (by decide +kernel), List.mem_of_getElem? (i := 1569) (by decide +kernel), List.mem_of_getElem? (i := 1570) (by decide +kernel)⟩
theorem lw_p29 : lw_okq (⟨"WishWaysModel", "makesOf", "(III)Z"⟩, 79) := ⟨⟨by decide +kernel, by decide +kernel⟩, List.mem_of_getElem? (i := 1200) (by decide +kernel), List.mem_of_getElem? (i := 1573) (by decide +kernel), List.mem_of_getElem? (i := 1574) (by decide +kernel)⟩
theorem lw_p30 : lw_okq (⟨"WishWaysModel", "unlike", "(III)I"⟩, 79) := ⟨⟨by decide +kernel, by decide +kernel⟩, List.mem_of_getElem? (i := 1200) (by decide +kernel), List.mem_of_getElem? (i := 1586) (by decide +kernel), List.mem_of_getElem? (i := 1587) (by decide +kernel)⟩
theorem lw_p31 : lw_okq (⟨"WishWaysModel", "unlikeMany", "()I"⟩, 79) := ⟨⟨by decide +kernel, by decide +kernel⟩, List.mem_of_getElem? (i := 1200) (by decide +kernel), List.mem_of_getElem? (i := 1641) (by decide +kernel), List.mem_of_getElem? (i := 1642) (by decide +kernel)⟩
def lw_privs_2 : List (MethodName × Nat) := [(⟨"WishWaysModel", "field", "()I"⟩, 79), (⟨"WishWaysModel", "number", "(I)I"⟩, 79), (⟨"WishWaysModel", "behind", "()Z"⟩, 79), (⟨"WishWaysModel", "makes", "(I)V"⟩, 79), (⟨"WishWaysModel", "top", "()I"⟩, 79), (⟨"WishWaysModel", "join", "(I)V"⟩, 79), (⟨"WishWaysModel", "works", "(I)V"⟩, 79), (⟨"WishWaysModel", "closes", "(I)V"⟩, 79), (⟨"WishWaysModel", "follows", "(II)V"⟩, 79), (⟨"WishWaysModel", "leaf", "(IIII)V"⟩, 79), (⟨"WishWaysModel", "isWish", "(I)Z"⟩, 79), (⟨"WishWaysModel", "many", "(II)I"⟩, 79), (⟨"WishWaysModel", "kth", "(III)I"⟩, 79), (⟨"WishWaysModel", "makesOf", "(III)Z"⟩, 79), (⟨"WishWaysModel", "unlike", "(III)I"⟩, 79), (⟨"WishWaysModel", "unlikeMany", "()I"⟩, 79)]
theorem lw_r2 : ∀ q ∈ lw_privs_2, lw_okq q := List.forall_mem_cons.mpr ⟨lw_p16, List.forall_mem_cons.mpr ⟨lw_p17, List.forall_mem_cons.mpr ⟨lw_p18, List.forall_mem_cons.mpr ⟨lw_p19, List.forall_mem_cons.mpr ⟨lw_p20, List.forall_mem_cons.mpr ⟨lw_p21, List.forall_mem_cons.mpr ⟨lw_p22, List.forall_mem_cons.mpr ⟨lw_p23, List.forall_mem_cons.mpr ⟨lw_p24, List.forall_mem_cons.mpr ⟨lw_p25, List.forall_mem_cons.mpr ⟨lw_p26, List.forall_mem_cons.mpr ⟨lw_p27, List.forall_mem_cons.mpr ⟨lw_p28, List.forall_mem_cons.mpr ⟨lw_p29, List.forall_mem_cons.mpr ⟨lw_p30, List.forall_mem_cons.mpr ⟨lw_p31, fun _ h => absurd h List.not_mem_nil⟩⟩⟩⟩⟩⟩⟩⟩⟩⟩⟩⟩⟩⟩⟩⟩
theorem lw_p32 : lw_okq (⟨"WishWaysModel", "isUnlike", "(I)Z"⟩, 79) := ⟨⟨by decide +kernel, by decide +kernel⟩, List.mem_of_getElem? (i := 1200) (by decide +kernel), List.mem_of_getElem? (i := 1645) (by decide +kernel), List.mem_of_getElem? (i := 1646) (by decide +kernel)⟩
theorem lw_p33 : lw_okq (⟨"WishWaysModel", "endsAs", "(II)I"⟩, 79) := ⟨⟨by decide +kernel, by decide +kernel⟩, List.mem_of_getElem? (i := 1200) (by decide +kernel), List.mem_of_getElem? (i := 1661) (by decide +kernel), List.mem_of_getElem? (i := 1662) (by decide +kernel)⟩
theorem lw_p34 : lw_okq (⟨"WishWaysModel", "step", "(II)I"⟩, 79) := ⟨⟨by decide +kernel, by decide +kernel⟩, List.mem_of_getElem? (i := 1200) (by decide +kernel), List.mem_of_getElem? (i := 1665) (by decide +kernel), List.mem_of_getElem? (i := 1666) (by decide +kernel)⟩
theorem lw_p35 : lw_okq (⟨"WishWaysModel", "rowFor", "(II)I"⟩, 79) := ⟨⟨by decide +kernel, by decide +kernel⟩, List.mem_of_getElem? (i := 1200) (by decide +kernel), List.mem_of_getElem? (i := 1669) (by decide +kernel), List.mem_of_getElem? (i := 1670) (by decide +kernel)⟩
theorem lw_p36 : lw_okq (⟨"WishWaysModel", "shownBut", "(II)I"⟩, 79) := ⟨⟨by decide +kernel, by decide +kernel⟩, List.mem_of_getElem? (i := 1200) (by decide +kernel), List.mem_of_getElem? (i := 1690) (by decide +kernel), List.mem_of_getElem? (i := 1691) (by decide +kernel)⟩
theorem lw_p37 : lw_okq (⟨"WishWaysModel", "enters", "(I)Z"⟩, 79) := ⟨⟨by decide +kernel, by decide +kernel⟩, List.mem_of_getElem? (i := 1200) (by decide +kernel), List.mem_of_getElem? (i := 1694) (by decide +kernel), List.mem_of_getElem? (i := 1695) (by decide +kernel)⟩
theorem lw_p38 : lw_okq (⟨"WishWaysModel", "isShown", "(III)Z"⟩, 79) := ⟨⟨by decide +kernel, by decide +kernel⟩, List.mem_of_getElem? (i := 1200) (by decide +kernel), List.mem_of_getElem? (i := 1698) (by decide +kernel), List.mem_of_getElem? (i := 1699) (by decide +kernel)⟩
theorem lw_p39 : lw_okq (⟨"WishWaysModel", "deal", "(II)I"⟩, 79) := ⟨⟨by decide +kernel, by decide +kernel⟩, List.mem_of_getElem? (i := 1200) (by decide +kernel), List.mem_of_getElem? (i := 1710) (by decide +kernel), List.mem_of_getElem? (i := 1711) (by decide +kernel)⟩
theorem lw_p40 : lw_okq (⟨"WishWaysModel", "dealsAlike", "(III)Z"⟩, 79) := ⟨⟨by decide +kernel, by decide +kernel⟩, List.mem_of_getElem? (i := 1200) (by decide +kernel), List.mem_of_getElem? (i := 1717) (by decide +kernel), List.mem_of_getElem? (i := 1718) (by decide +kernel)⟩
theorem lw_p41 : lw_okq (⟨"WishWaysModel", "ends", "()V"⟩, 79) := ⟨⟨by decide +kernel, by decide +kernel⟩, List.mem_of_getElem? (i := 1200) (by decide +kernel), List.mem_of_getElem? (i := 1725) (by decide +kernel), List.mem_of_getElem? (i := 1726) (by decide +kernel)⟩
theorem lw_p42 : lw_okq (⟨"WishWaysModel", "isNeither", "(II)Z"⟩, 79) := ⟨⟨by decide +kernel, by decide +kernel⟩, List.mem_of_getElem? (i := 1200) (by decide +kernel), List.mem_of_getElem? (i := 1729) (by decide +kernel), List.mem_of_getElem? (i := 1730) (by decide +kernel)⟩
theorem lw_p43 : lw_okq (⟨"WishWaysModel", "placeBehind", "(I)I"⟩, 79) := ⟨⟨by decide +kernel, by decide +kernel⟩, List.mem_of_getElem? (i := 1200) (by decide +kernel), List.mem_of_getElem? (i := 1741) (by decide +kernel), List.mem_of_getElem? (i := 1742) (by decide +kernel)⟩
theorem lw_p44 : lw_okq (⟨"WishWaysModel", "hasRoom", "(I)Z"⟩, 79) := ⟨⟨by decide +kernel, by decide +kernel⟩, List.mem_of_getElem? (i := 1200) (by decide +kernel), List.mem_of_getElem? (i := 1763) (by decide +kernel), List.mem_of_getElem? (i := 1764) (by decide +kernel)⟩
theorem lw_p45 : lw_okq (⟨"WishWaysModel", "root", "(IZ)I"⟩, 79) := ⟨⟨by decide +kernel, by decide +kernel⟩, List.mem_of_getElem? (i := 1200) (by decide +kernel), List.mem_of_getElem? (i := 1780) (by decide +kernel), List.mem_of_getElem? (i := 1781) (by decide +kernel)⟩
theorem lw_p46 : lw_okq (⟨"WishWaysModel", "plus", "(IIZ)I"⟩, 79) := ⟨⟨by decide +kernel, by decide +kernel⟩, List.mem_of_getElem? (i := 1200) (by decide +kernel), List.mem_of_getElem? (i := 1784) (by decide +kernel), List.mem_of_getElem? (i := 1785) (by decide +kernel)⟩
theorem lw_p47 : lw_okq (⟨"WishWaysModel", "alike", "(III)I"⟩, 79) := ⟨⟨by decide +kernel, by decide +kernel⟩, List.mem_of_getElem? (i := 1200) (by decide +kernel), List.mem_of_getElem? (i := 1788) (by decide +kernel), List.mem_of_getElem? (i := 1789) (by decide +kernel)⟩
def lw_privs_3 : List (MethodName × Nat) := [(⟨"WishWaysModel", "isUnlike", "(I)Z"⟩, 79), (⟨"WishWaysModel", "endsAs", "(II)I"⟩, 79), (⟨"WishWaysModel", "step", "(II)I"⟩, 79), (⟨"WishWaysModel", "rowFor", "(II)I"⟩, 79), (⟨"WishWaysModel", "shownBut", "(II)I"⟩, 79), (⟨"WishWaysModel", "enters", "(I)Z"⟩, 79), (⟨"WishWaysModel", "isShown", "(III)Z"⟩, 79), (⟨"WishWaysModel", "deal", "(II)I"⟩, 79), (⟨"WishWaysModel", "dealsAlike", "(III)Z"⟩, 79), (⟨"WishWaysModel", "ends", "()V"⟩, 79), (⟨"WishWaysModel", "isNeither", "(II)Z"⟩, 79), (⟨"WishWaysModel", "placeBehind", "(I)I"⟩, 79), (⟨"WishWaysModel", "hasRoom", "(I)Z"⟩, 79), (⟨"WishWaysModel", "root", "(IZ)I"⟩, 79), (⟨"WishWaysModel", "plus", "(IIZ)I"⟩, 79), (⟨"WishWaysModel", "alike", "(III)I"⟩, 79)]
theorem lw_r3 : ∀ q ∈ lw_privs_3, lw_okq q := List.forall_mem_cons.mpr ⟨lw_p32, List.forall_mem_cons.mpr ⟨lw_p33, List.forall_mem_cons.mpr ⟨lw_p34, List.forall_mem_cons.mpr ⟨lw_p35, List.forall_mem_cons.mpr ⟨lw_p36, List.forall_mem_cons.mpr ⟨lw_p37, List.forall_mem_cons.mpr ⟨lw_p38, List.forall_mem_cons.mpr ⟨lw_p39, List.forall_mem_cons.mpr ⟨lw_p40, List.forall_mem_cons.mpr ⟨lw_p41, List.forall_mem_cons.mpr ⟨lw_p42, List.forall_mem_cons.mpr ⟨lw_p43, List.forall_mem_cons.mpr ⟨lw_p44, List.forall_mem_cons.mpr ⟨lw_p45, List.forall_mem_cons.mpr ⟨lw_p46, List.forall_mem_cons.mpr ⟨lw_p47, fun _ h => absurd h List.not_mem_nil⟩⟩⟩⟩⟩⟩⟩⟩⟩⟩⟩⟩⟩⟩⟩⟩
theorem lw_p48 : lw_okq (⟨"WishWaysModel", "then", "(IIZ)I"⟩, 79) := ⟨⟨by decide +kernel, by decide +kernel⟩, List.mem_of_getElem? (i := 1200) (by decide +kernel), List.mem_of_getElem? (i := 1792) (by decide +kernel), List.mem_of_getElem? (i := 1793) (by decide +kernel)⟩
theorem lw_p49 : lw_okq (⟨"WishWaysModel", "isOfField", "(II)Z"⟩, 79) := ⟨⟨by decide +kernel, by decide +kernel⟩, List.mem_of_getElem? (i := 1200) (by decide +kernel), List.mem_of_getElem? (i := 1796) (by decide +kernel), List.mem_of_getElem? (i := 1797) (by decide +kernel)⟩
theorem lw_p50 : lw_okq (⟨"WishWaysModel", "star", "(IZ)I"⟩, 79) := ⟨⟨by decide +kernel, by decide +kernel⟩, List.mem_of_getElem? (i := 1200) (by decide +kernel), List.mem_of_getElem? (i := 1800) (by decide +kernel), List.mem_of_getElem? (i := 1801) (by decide +kernel)⟩
theorem lw_p51 : lw_okq (⟨"WishWaysModel", "later", "(I)V"⟩, 79) := ⟨⟨by decide +kernel, by decide +kernel⟩, List.mem_of_getElem? (i := 1200) (by decide +kernel), List.mem_of_getElem? (i := 1804) (by decide +kernel), List.mem_of_getElem? (i := 1805) (by decide +kernel)⟩
theorem lw_p52 : lw_okq (⟨"WishWaysModel", "put1", "(I)V"⟩, 79) := ⟨⟨by decide +kernel, by decide +kernel⟩, List.mem_of_getElem? (i := 1200) (by decide +kernel), List.mem_of_getElem? (i := 1808) (by decide +kernel), List.mem_of_getElem? (i := 1809) (by decide +kernel)⟩
theorem lw_p53 : lw_okq (⟨"WishWaysModel", "tells", "(I)V"⟩, 79) := ⟨⟨by decide +kernel, by decide +kernel⟩, List.mem_of_getElem? (i := 1200) (by decide +kernel), List.mem_of_getElem? (i := 1812) (by decide +kernel), List.mem_of_getElem? (i := 1813) (by decide +kernel)⟩
theorem lw_p54 : lw_okq (⟨"WishWaysModel", "laterNode", "(IZ)V"⟩, 79) := ⟨⟨by decide +kernel, by decide +kernel⟩, List.mem_of_getElem? (i := 1200) (by decide +kernel), List.mem_of_getElem? (i := 1816) (by decide +kernel), List.mem_of_getElem? (i := 1817) (by decide +kernel)⟩
theorem lw_p55 : lw_okq (⟨"WishWaysModel", "isCables", "(I)Z"⟩, 79) := ⟨⟨by decide +kernel, by decide +kernel⟩, List.mem_of_getElem? (i := 1200) (by decide +kernel), List.mem_of_getElem? (i := 1836) (by decide +kernel), List.mem_of_getElem? (i := 1837) (by decide +kernel)⟩
theorem lw_p56 : lw_okq (⟨"WishWaysModel", "isKnown", "(II)Z"⟩, 79) := ⟨⟨by decide +kernel, by decide +kernel⟩, List.mem_of_getElem? (i := 1200) (by decide +kernel), List.mem_of_getElem? (i := 1840) (by decide +kernel), List.mem_of_getElem? (i := 1841) (by decide +kernel)⟩
theorem lw_p57 : lw_okq (⟨"WishWaysModel", "reached", "(II)I"⟩, 79) := ⟨⟨by decide +kernel, by decide +kernel⟩, List.mem_of_getElem? (i := 1200) (by decide +kernel), List.mem_of_getElem? (i := 1844) (by decide +kernel), List.mem_of_getElem? (i := 1845) (by decide +kernel)⟩
theorem lw_p58 : lw_okq (⟨"WishWaysModel", "rightFor", "(II)I"⟩, 79) := ⟨⟨by decide +kernel, by decide +kernel⟩, List.mem_of_getElem? (i := 1200) (by decide +kernel), List.mem_of_getElem? (i := 1862) (by decide +kernel), List.mem_of_getElem? (i := 1863) (by decide +kernel)⟩
theorem lw_p59 : lw_okq (⟨"WishWaysModel", "asTold", "()V"⟩, 79) := ⟨⟨by decide +kernel, by decide +kernel⟩, List.mem_of_getElem? (i := 1200) (by decide +kernel), List.mem_of_getElem? (i := 1878) (by decide +kernel), List.mem_of_getElem? (i := 1879) (by decide +kernel)⟩
theorem lw_p60 : lw_okq (⟨"WishWaysModel", "seenAs", "(II)I"⟩, 79) := ⟨⟨by decide +kernel, by decide +kernel⟩, List.mem_of_getElem? (i := 1200) (by decide +kernel), List.mem_of_getElem? (i := 1882) (by decide +kernel), List.mem_of_getElem? (i := 1883) (by decide +kernel)⟩
theorem lw_p61 : lw_okq (⟨"WishWaysModel", "endsByTicks", "()V"⟩, 79) := ⟨⟨by decide +kernel, by decide +kernel⟩, List.mem_of_getElem? (i := 1200) (by decide +kernel), List.mem_of_getElem? (i := 1890) (by decide +kernel), List.mem_of_getElem? (i := 1891) (by decide +kernel)⟩
def lw_privs_4 : List (MethodName × Nat) := [(⟨"WishWaysModel", "then", "(IIZ)I"⟩, 79), (⟨"WishWaysModel", "isOfField", "(II)Z"⟩, 79), (⟨"WishWaysModel", "star", "(IZ)I"⟩, 79), (⟨"WishWaysModel", "later", "(I)V"⟩, 79), (⟨"WishWaysModel", "put1", "(I)V"⟩, 79), (⟨"WishWaysModel", "tells", "(I)V"⟩, 79), (⟨"WishWaysModel", "laterNode", "(IZ)V"⟩, 79), (⟨"WishWaysModel", "isCables", "(I)Z"⟩, 79), (⟨"WishWaysModel", "isKnown", "(II)Z"⟩, 79), (⟨"WishWaysModel", "reached", "(II)I"⟩, 79), (⟨"WishWaysModel", "rightFor", "(II)I"⟩, 79), (⟨"WishWaysModel", "asTold", "()V"⟩, 79), (⟨"WishWaysModel", "seenAs", "(II)I"⟩, 79), (⟨"WishWaysModel", "endsByTicks", "()V"⟩, 79)]
theorem lw_r4 : ∀ q ∈ lw_privs_4, lw_okq q := List.forall_mem_cons.mpr ⟨lw_p48, List.forall_mem_cons.mpr ⟨lw_p49, List.forall_mem_cons.mpr ⟨lw_p50, List.forall_mem_cons.mpr ⟨lw_p51, List.forall_mem_cons.mpr ⟨lw_p52, List.forall_mem_cons.mpr ⟨lw_p53, List.forall_mem_cons.mpr ⟨lw_p54, List.forall_mem_cons.mpr ⟨lw_p55, List.forall_mem_cons.mpr ⟨lw_p56, List.forall_mem_cons.mpr ⟨lw_p57, List.forall_mem_cons.mpr ⟨lw_p58, List.forall_mem_cons.mpr ⟨lw_p59, List.forall_mem_cons.mpr ⟨lw_p60, List.forall_mem_cons.mpr ⟨lw_p61, fun _ h => absurd h List.not_mem_nil⟩⟩⟩⟩⟩⟩⟩⟩⟩⟩⟩⟩⟩⟩
def lw_privs : List (MethodName × Nat) := lw_privs_1 ++ (lw_privs_2 ++ (lw_privs_3 ++ (lw_privs_4)))
def lw_tbl : List Cond := k2_sels lw_privs ++ tables_1
theorem lw_privs_ok : ∀ q ∈ lw_privs, lw_okq q := by
  show ∀ q ∈ lw_privs_1 ++ (lw_privs_2 ++ (lw_privs_3 ++ (lw_privs_4))), lw_okq q
  exact List.forall_mem_append.mpr ⟨lw_r1, List.forall_mem_append.mpr ⟨lw_r2, List.forall_mem_append.mpr ⟨lw_r3, lw_r4⟩⟩⟩
/-! names -/
def RX0 : String := "WishWays$Cabling"
def TX0 : u_T := fun k => match k with
  | 0 => ("WishWays$Cabling", "ends", "[I", true)
  | 1 => ("WishWays$Cabling", "otherEnds", "[I", true)
  | 2 => ("WishWays$Cabling", "size", "I", false)
  | _ => ("WishWays$Cabling", "edgeBoxes", "I", false)
def tyX0 : Nat → FieldType := fun k => match k with
  | 0 => .array .int
  | 1 => .array .int
  | 2 => .int
  | _ => .int
abbrev wsX00 : List Cond := u_ws RX0 TX0 4
theorem nmX0 : ∀ a, a < 4 → ∀ b, b < 4 → a ≠ b → (TX0 a).2.1 ≠ (TX0 b).2.1 := by decide +kernel
theorem tyX0_ok : ∀ k, k < 4 → parseFieldDescriptor (TX0 k).2.2.1 = some (tyX0 k) := by decide +kernel
abbrev cX0_init : ByteArray := prog_2_method_1_code
def yX0_init : MethodName := ⟨RX0, "<init>", "()V"⟩
abbrev cX0_lay : ByteArray := prog_2_method_2_code
def yX0_lay : MethodName := ⟨RX0, "lay", "(II)I"⟩
abbrev cX0_areThere : ByteArray := prog_2_method_3_code
def yX0_areThere : MethodName := ⟨RX0, "areThere", "(I)Z"⟩
abbrev cX0_knownWith : ByteArray := prog_2_method_4_code
def yX0_knownWith : MethodName := ⟨RX0, "knownWith", "(I)I"⟩
abbrev cX0_isOnRing : ByteArray := prog_2_method_5_code
def yX0_isOnRing : MethodName := ⟨RX0, "isOnRing", "(II)Z"⟩
abbrev cX0_groupOf : ByteArray := prog_2_method_6_code
def yX0_groupOf : MethodName := ⟨RX0, "groupOf", "(I)I"⟩
abbrev cX0_fewestTaps : ByteArray := prog_2_method_7_code
def yX0_fewestTaps : MethodName := ⟨RX0, "fewestTaps", "(I)I"⟩
def RX1 : String := "WishWays$Ledger"
def TX1 : u_T := fun k => match k with
  | 0 => ("WishWays$Ledger", "room", "[I", true)
  | 1 => ("WishWays$Ledger", "chosen", "I", false)
  | 2 => ("WishWays$Ledger", "chosenValue", "I", false)
  | 3 => ("WishWays$Ledger", "sent", "[I", true)
  | _ => ("WishWays$Ledger", "received", "[I", true)
def tyX1 : Nat → FieldType := fun k => match k with
  | 0 => .array .int
  | 1 => .int
  | 2 => .int
  | 3 => .array .int
  | _ => .array .int
abbrev wsX10 : List Cond := u_ws RX1 TX1 5
theorem nmX1 : ∀ a, a < 5 → ∀ b, b < 5 → a ≠ b → (TX1 a).2.1 ≠ (TX1 b).2.1 := by decide +kernel
theorem tyX1_ok : ∀ k, k < 5 → parseFieldDescriptor (TX1 k).2.2.1 = some (tyX1 k) := by decide +kernel
abbrev cX1_init : ByteArray := prog_3_method_1_code
def yX1_init : MethodName := ⟨RX1, "<init>", "()V"⟩
abbrev cX1_setRoom : ByteArray := prog_3_method_2_code
def yX1_setRoom : MethodName := ⟨RX1, "setRoom", "(II)I"⟩
abbrev cX1_choose : ByteArray := prog_3_method_3_code
def yX1_choose : MethodName := ⟨RX1, "choose", "([LWishWays$Wish;I)V"⟩
abbrev cX1_valueTogether : ByteArray := prog_3_method_4_code
def yX1_valueTogether : MethodName := ⟨RX1, "valueTogether", "([LWishWays$Wish;I)I"⟩
abbrev cX1_hasRoomFor : ByteArray := prog_3_method_5_code
def yX1_hasRoomFor : MethodName := ⟨RX1, "hasRoomFor", "([LWishWays$Wish;I)Z"⟩
abbrev cX1_tellCount : ByteArray := prog_3_method_6_code
def yX1_tellCount : MethodName := ⟨RX1, "tellCount", "(IIZI)I"⟩
abbrev cX1_fewestLiars : ByteArray := prog_3_method_7_code
def yX1_fewestLiars : MethodName := ⟨RX1, "fewestLiars", "()I"⟩
abbrev cX1_explain : ByteArray := prog_3_method_8_code
def yX1_explain : MethodName := ⟨RX1, "explain", "(I)Z"⟩
def RX2 : String := "WishWays$Maker"
def TX2 : u_T := fun k => match k with
  | 0 => ("WishWays$Maker", "waiting", "[[J", true)
  | 1 => ("WishWays$Maker", "sum", "[J", true)
  | _ => ("WishWays$Maker", "used", "I", false)
def tyX2 : Nat → FieldType := fun k => match k with
  | 0 => .array (.array .long)
  | 1 => .array .long
  | _ => .int
abbrev wsX20 : List Cond := u_ws RX2 TX2 3
theorem nmX2 : ∀ a, a < 3 → ∀ b, b < 3 → a ≠ b → (TX2 a).2.1 ≠ (TX2 b).2.1 := by decide +kernel
theorem tyX2_ok : ∀ k, k < 3 → parseFieldDescriptor (TX2 k).2.2.1 = some (tyX2 k) := by decide +kernel
abbrev cX2_init : ByteArray := prog_4_method_1_code
def yX2_init : MethodName := ⟨RX2, "<init>", "()V"⟩
abbrev cX2_relationOf : ByteArray := prog_4_method_2_code
def yX2_relationOf : MethodName := ⟨RX2, "relationOf", "(LWishWays$Tree;)[J"⟩
abbrev cX2_takeNode : ByteArray := prog_4_method_3_code
def yX2_takeNode : MethodName := ⟨RX2, "takeNode", "(LWishWays$Tree;I)V"⟩
abbrev cX2_pushEmpty : ByteArray := prog_4_method_4_code
def yX2_pushEmpty : MethodName := ⟨RX2, "pushEmpty", "()Z"⟩
abbrev cX2_joinTop : ByteArray := prog_4_method_5_code
def yX2_joinTop : MethodName := ⟨RX2, "joinTop", "(I)V"⟩
abbrev cX2_fillAtom : ByteArray := prog_4_method_6_code
def yX2_fillAtom : MethodName := ⟨RX2, "fillAtom", "([JIII)V"⟩
abbrev cX2_mark : ByteArray := prog_4_method_7_code
def yX2_mark : MethodName := ⟨RX2, "mark", "([JII)V"⟩
abbrev cX2_unite : ByteArray := prog_4_method_8_code
def yX2_unite : MethodName := ⟨RX2, "unite", "([J[J)V"⟩
abbrev cX2_follow : ByteArray := prog_4_method_9_code
def yX2_follow : MethodName := ⟨RX2, "follow", "([J[J)V"⟩
abbrev cX2_addRows : ByteArray := prog_4_method_10_code
def yX2_addRows : MethodName := ⟨RX2, "addRows", "(JI[J)V"⟩
abbrev cX2_close : ByteArray := prog_4_method_11_code
def yX2_close : MethodName := ⟨RX2, "close", "([J)V"⟩
abbrev cX2_sumUpOthers : ByteArray := prog_4_method_12_code
def yX2_sumUpOthers : MethodName := ⟨RX2, "sumUpOthers", "([J)V"⟩
abbrev cX2_goOnBy : ByteArray := prog_4_method_13_code
def yX2_goOnBy : MethodName := ⟨RX2, "goOnBy", "([JI)V"⟩
abbrev cX2_isEmptyRow : ByteArray := prog_4_method_14_code
def yX2_isEmptyRow : MethodName := ⟨RX2, "isEmptyRow", "([JI)Z"⟩
def RX3 : String := "WishWays$Network"
def TX3 : u_T := fun k => match k with
  | 0 => ("WishWays$Network", "tables", "[LWishWays$Table;", true)
  | 1 => ("WishWays$Network", "fallenLines", "J", false)
  | 2 => ("WishWays$Network", "entryPlaces", "I", false)
  | 3 => ("WishWays$Network", "wayRows", "[I", true)
  | 4 => ("WishWays$Network", "waySize", "I", false)
  | 5 => ("WishWays$Network", "met", "[J", true)
  | _ => ("WishWays$Network", "scratchEnds", "[I", true)
def tyX3 : Nat → FieldType := fun k => match k with
  | 0 => .array (.object "WishWays$Table")
  | 1 => .long
  | 2 => .int
  | 3 => .array .int
  | 4 => .int
  | 5 => .array .long
  | _ => .array .int
abbrev wsX30 : List Cond := u_ws RX3 TX3 7
theorem nmX3 : ∀ a, a < 7 → ∀ b, b < 7 → a ≠ b → (TX3 a).2.1 ≠ (TX3 b).2.1 := by decide +kernel
theorem tyX3_ok : ∀ k, k < 7 → parseFieldDescriptor (TX3 k).2.2.1 = some (tyX3 k) := by decide +kernel
abbrev cX3_init : ByteArray := prog_5_method_1_code
def yX3_init : MethodName := ⟨RX3, "<init>", "()V"⟩
abbrev cX3_tableAt : ByteArray := prog_5_method_2_code
def yX3_tableAt : MethodName := ⟨RX3, "tableAt", "(II)LWishWays$Table;"⟩
abbrev cX3_countRows : ByteArray := prog_5_method_3_code
def yX3_countRows : MethodName := ⟨RX3, "countRows", "(I)I"⟩
abbrev cX3_unlikeBoxes : ByteArray := prog_5_method_4_code
def yX3_unlikeBoxes : MethodName := ⟨RX3, "unlikeBoxes", "()I"⟩
abbrev cX3_takeNewTables : ByteArray := prog_5_method_5_code
def yX3_takeNewTables : MethodName := ⟨RX3, "takeNewTables", "(I)V"⟩
abbrev cX3_lineBit : ByteArray := prog_5_method_6_code
def yX3_lineBit : MethodName := ⟨RX3, "lineBit", "(II)J"⟩
abbrev cX3_setFallen : ByteArray := prog_5_method_7_code
def yX3_setFallen : MethodName := ⟨RX3, "setFallen", "(IIZ)Z"⟩
abbrev cX3_isEntry : ByteArray := prog_5_method_8_code
def yX3_isEntry : MethodName := ⟨RX3, "isEntry", "(I)Z"⟩
abbrev cX3_step : ByteArray := prog_5_method_9_code
def yX3_step : MethodName := ⟨RX3, "step", "(II)I"⟩
abbrev cX3_goesOn : ByteArray := prog_5_method_10_code
def yX3_goesOn : MethodName := ⟨RX3, "goesOn", "(I)Z"⟩
abbrev cX3_endBy : ByteArray := prog_5_method_11_code
def yX3_endBy : MethodName := ⟨RX3, "endBy", "(I)I"⟩
abbrev cX3_versionOf : ByteArray := prog_5_method_12_code
def yX3_versionOf : MethodName := ⟨RX3, "versionOf", "(II)I"⟩
abbrev cX3_follow : ByteArray := prog_5_method_13_code
def yX3_follow : MethodName := ⟨RX3, "follow", "(II)I"⟩
abbrev cX3_keepRow : ByteArray := prog_5_method_14_code
def yX3_keepRow : MethodName := ⟨RX3, "keepRow", "(II)V"⟩
abbrev cX3_endsBy : ByteArray := prog_5_method_15_code
def yX3_endsBy : MethodName := ⟨RX3, "endsBy", "(I)[I"⟩
abbrev cX3_fillEnds : ByteArray := prog_5_method_16_code
def yX3_fillEnds : MethodName := ⟨RX3, "fillEnds", "(I[I)V"⟩
abbrev cX3_settle : ByteArray := prog_5_method_17_code
def yX3_settle : MethodName := ⟨RX3, "settle", "(II[I)V"⟩
abbrev cX3_firstUnlike : ByteArray := prog_5_method_18_code
def yX3_firstUnlike : MethodName := ⟨RX3, "firstUnlike", "(LWishWays$Wish;[I)I"⟩
def RX4 : String := "WishWays$Reader"
def TX4 : u_T := fun k => match k with
  | 0 => ("WishWays$Reader", "tree", "LWishWays$Tree;", true)
  | 1 => ("WishWays$Reader", "signs", "[I", true)
  | 2 => ("WishWays$Reader", "operands", "[I", true)
  | 3 => ("WishWays$Reader", "text", "[I", false)
  | 4 => ("WishWays$Reader", "length", "I", false)
  | 5 => ("WishWays$Reader", "place", "I", false)
  | 6 => ("WishWays$Reader", "signCount", "I", false)
  | 7 => ("WishWays$Reader", "operandCount", "I", false)
  | 8 => ("WishWays$Reader", "open", "I", false)
  | 9 => ("WishWays$Reader", "atoms", "I", false)
  | 10 => ("WishWays$Reader", "fault", "I", false)
  | _ => ("WishWays$Reader", "finished", "Z", false)
def tyX4 : Nat → FieldType := fun k => match k with
  | 0 => .object "WishWays$Tree"
  | 1 => .array .int
  | 2 => .array .int
  | 3 => .array .int
  | 4 => .int
  | 5 => .int
  | 6 => .int
  | 7 => .int
  | 8 => .int
  | 9 => .int
  | 10 => .int
  | _ => .boolean
abbrev wsX40 : List Cond := u_ws RX4 TX4 12
theorem nmX4 : ∀ a, a < 12 → ∀ b, b < 12 → a ≠ b → (TX4 a).2.1 ≠ (TX4 b).2.1 := by decide +kernel
theorem tyX4_ok : ∀ k, k < 12 → parseFieldDescriptor (TX4 k).2.2.1 = some (tyX4 k) := by decide +kernel
abbrev cX4_init : ByteArray := prog_6_method_1_code
def yX4_init : MethodName := ⟨RX4, "<init>", "()V"⟩
abbrev cX4_read : ByteArray := prog_6_method_2_code
def yX4_read : MethodName := ⟨RX4, "read", "([II)I"⟩
abbrev cX4_readAhead : ByteArray := prog_6_method_3_code
def yX4_readAhead : MethodName := ⟨RX4, "readAhead", "()Z"⟩
abbrev cX4_openBracket : ByteArray := prog_6_method_4_code
def yX4_openBracket : MethodName := ⟨RX4, "openBracket", "()V"⟩
abbrev cX4_readConstant : ByteArray := prog_6_method_5_code
def yX4_readConstant : MethodName := ⟨RX4, "readConstant", "(I)V"⟩
abbrev cX4_readUnless : ByteArray := prog_6_method_6_code
def yX4_readUnless : MethodName := ⟨RX4, "readUnless", "()V"⟩
abbrev cX4_readTestOrChange : ByteArray := prog_6_method_7_code
def yX4_readTestOrChange : MethodName := ⟨RX4, "readTestOrChange", "()V"⟩
abbrev cX4_readValue : ByteArray := prog_6_method_8_code
def yX4_readValue : MethodName := ⟨RX4, "readValue", "(II)V"⟩
abbrev cX4_readBehind : ByteArray := prog_6_method_9_code
def yX4_readBehind : MethodName := ⟨RX4, "readBehind", "()Z"⟩
abbrev cX4_joinWaiting : ByteArray := prog_6_method_10_code
def yX4_joinWaiting : MethodName := ⟨RX4, "joinWaiting", "(I)V"⟩
abbrev cX4_joinOperands : ByteArray := prog_6_method_11_code
def yX4_joinOperands : MethodName := ⟨RX4, "joinOperands", "(I)V"⟩
abbrev cX4_starOperand : ByteArray := prog_6_method_12_code
def yX4_starOperand : MethodName := ⟨RX4, "starOperand", "()V"⟩
abbrev cX4_pushOperand : ByteArray := prog_6_method_13_code
def yX4_pushOperand : MethodName := ⟨RX4, "pushOperand", "(III)V"⟩
abbrev cX4_pushSign : ByteArray := prog_6_method_14_code
def yX4_pushSign : MethodName := ⟨RX4, "pushSign", "(I)V"⟩
abbrev cX4_countAtom : ByteArray := prog_6_method_15_code
def yX4_countAtom : MethodName := ⟨RX4, "countAtom", "(I)V"⟩
abbrev cX4_fail : ByteArray := prog_6_method_16_code
def yX4_fail : MethodName := ⟨RX4, "fail", "(II)V"⟩
abbrev cX4_skipBlanks : ByteArray := prog_6_method_17_code
def yX4_skipBlanks : MethodName := ⟨RX4, "skipBlanks", "()V"⟩
abbrev cX4_signHere : ByteArray := prog_6_method_18_code
def yX4_signHere : MethodName := ⟨RX4, "signHere", "()I"⟩
abbrev cX4_isDigit : ByteArray := prog_6_method_19_code
def yX4_isDigit : MethodName := ⟨RX4, "isDigit", "(I)Z"⟩
abbrev cX4_isLetter : ByteArray := prog_6_method_20_code
def yX4_isLetter : MethodName := ⟨RX4, "isLetter", "(I)Z"⟩
abbrev cX4_digitsHere : ByteArray := prog_6_method_21_code
def yX4_digitsHere : MethodName := ⟨RX4, "digitsHere", "()I"⟩
abbrev cX4_wordHere : ByteArray := prog_6_method_22_code
def yX4_wordHere : MethodName := ⟨RX4, "wordHere", "()I"⟩
abbrev cX4_fieldHere : ByteArray := prog_6_method_23_code
def yX4_fieldHere : MethodName := ⟨RX4, "fieldHere", "()I"⟩
def RX5 : String := "WishWays$Rollout"
def TX5 : u_T := fun k => match k with
  | 0 => ("WishWays$Rollout", "network", "LWishWays$Network;", true)
  | 1 => ("WishWays$Rollout", "ticks", "[I", true)
  | 2 => ("WishWays$Rollout", "order", "[I", true)
  | 3 => ("WishWays$Rollout", "orderSize", "I", false)
  | 4 => ("WishWays$Rollout", "trial", "[I", true)
  | 5 => ("WishWays$Rollout", "dead", "[I", true)
  | 6 => ("WishWays$Rollout", "oldEnds", "[I", true)
  | 7 => ("WishWays$Rollout", "newEnds", "[I", true)
  | 8 => ("WishWays$Rollout", "settled", "[I", true)
  | 9 => ("WishWays$Rollout", "ahead", "[I", false)
  | _ => ("WishWays$Rollout", "now", "[I", false)
def tyX5 : Nat → FieldType := fun k => match k with
  | 0 => .object "WishWays$Network"
  | 1 => .array .int
  | 2 => .array .int
  | 3 => .int
  | 4 => .array .int
  | 5 => .array .int
  | 6 => .array .int
  | 7 => .array .int
  | 8 => .array .int
  | 9 => .array .int
  | _ => .array .int
abbrev wsX50 : List Cond := u_ws RX5 TX5 11
theorem nmX5 : ∀ a, a < 11 → ∀ b, b < 11 → a ≠ b → (TX5 a).2.1 ≠ (TX5 b).2.1 := by decide +kernel
theorem tyX5_ok : ∀ k, k < 11 → parseFieldDescriptor (TX5 k).2.2.1 = some (tyX5 k) := by decide +kernel
abbrev cX5_init : ByteArray := prog_7_method_1_code
def yX5_init : MethodName := ⟨RX5, "<init>", "(LWishWays$Network;)V"⟩
abbrev cX5_findOrder : ByteArray := prog_7_method_2_code
def yX5_findOrder : MethodName := ⟨RX5, "findOrder", "()I"⟩
abbrev cX5_leadsOn : ByteArray := prog_7_method_3_code
def yX5_leadsOn : MethodName := ⟨RX5, "leadsOn", "(LWishWays$Rollout;III)Z"⟩
abbrev cX5_isSafe : ByteArray := prog_7_method_4_code
def yX5_isSafe : MethodName := ⟨RX5, "isSafe", "(I)Z"⟩
abbrev cX5_isNeither : ByteArray := prog_7_method_5_code
def yX5_isNeither : MethodName := ⟨RX5, "isNeither", "(II)Z"⟩
abbrev cX5_versionIn : ByteArray := prog_7_method_6_code
def yX5_versionIn : MethodName := ⟨RX5, "versionIn", "(II)I"⟩
abbrev cX5_watch : ByteArray := prog_7_method_7_code
def yX5_watch : MethodName := ⟨RX5, "watch", "(II)I"⟩
abbrev cX5_countNeither : ByteArray := prog_7_method_8_code
def yX5_countNeither : MethodName := ⟨RX5, "countNeither", "(II)I"⟩
abbrev cX5_findGap : ByteArray := prog_7_method_9_code
def yX5_findGap : MethodName := ⟨RX5, "findGap", "()I"⟩
abbrev cX5_settleAll : ByteArray := prog_7_method_10_code
def yX5_settleAll : MethodName := ⟨RX5, "settleAll", "(I)V"⟩
abbrev cX5_isQuiet : ByteArray := prog_7_method_11_code
def yX5_isQuiet : MethodName := ⟨RX5, "isQuiet", "(I)Z"⟩
abbrev cX5_writtenBy : ByteArray := prog_7_method_12_code
def yX5_writtenBy : MethodName := ⟨RX5, "writtenBy", "(II)I"⟩
abbrev cX5_goBackTo : ByteArray := prog_7_method_13_code
def yX5_goBackTo : MethodName := ⟨RX5, "goBackTo", "(I)V"⟩
abbrev cX5_isQuietAhead : ByteArray := prog_7_method_14_code
def yX5_isQuietAhead : MethodName := ⟨RX5, "isQuietAhead", "([I)Z"⟩
def RX6 : String := "WishWays$Storm"
def TX6 : u_T := fun k => match k with
  | 0 => ("WishWays$Storm", "network", "LWishWays$Network;", true)
  | 1 => ("WishWays$Storm", "struck", "[I", true)
  | 2 => ("WishWays$Storm", "struckCount", "I", false)
  | 3 => ("WishWays$Storm", "most", "I", false)
  | 4 => ("WishWays$Storm", "trails", "[J", true)
  | 5 => ("WishWays$Storm", "trailCount", "I", false)
  | _ => ("WishWays$Storm", "alsoHit", "[I", true)
def tyX6 : Nat → FieldType := fun k => match k with
  | 0 => .object "WishWays$Network"
  | 1 => .array .int
  | 2 => .int
  | 3 => .int
  | 4 => .array .long
  | 5 => .int
  | _ => .array .int
abbrev wsX60 : List Cond := u_ws RX6 TX6 7
theorem nmX6 : ∀ a, a < 7 → ∀ b, b < 7 → a ≠ b → (TX6 a).2.1 ≠ (TX6 b).2.1 := by decide +kernel
theorem tyX6_ok : ∀ k, k < 7 → parseFieldDescriptor (TX6 k).2.2.1 = some (tyX6 k) := by decide +kernel
abbrev cX6_init : ByteArray := prog_8_method_1_code
def yX6_init : MethodName := ⟨RX6, "<init>", "(LWishWays$Network;)V"⟩
abbrev cX6_strike : ByteArray := prog_8_method_2_code
def yX6_strike : MethodName := ⟨RX6, "strike", "(I)I"⟩
abbrev cX6_considerPairs : ByteArray := prog_8_method_3_code
def yX6_considerPairs : MethodName := ⟨RX6, "considerPairs", "(IIJ)V"⟩
abbrev cX6_consider : ByteArray := prog_8_method_4_code
def yX6_consider : MethodName := ⟨RX6, "consider", "(III)V"⟩
abbrev cX6_isAmong : ByteArray := prog_8_method_5_code
def yX6_isAmong : MethodName := ⟨RX6, "isAmong", "(JI)Z"⟩
abbrev cX6_linesInUse : ByteArray := prog_8_method_6_code
def yX6_linesInUse : MethodName := ⟨RX6, "linesInUse", "()J"⟩
abbrev cX6_keepTrails : ByteArray := prog_8_method_7_code
def yX6_keepTrails : MethodName := ⟨RX6, "keepTrails", "()V"⟩
abbrev cX6_trailOf : ByteArray := prog_8_method_8_code
def yX6_trailOf : MethodName := ⟨RX6, "trailOf", "(I)J"⟩
abbrev cX6_countHit : ByteArray := prog_8_method_9_code
def yX6_countHit : MethodName := ⟨RX6, "countHit", "(I)I"⟩
def RX7 : String := "WishWays$Table"
def TX7 : u_T := fun k => match k with
  | 0 => ("WishWays$Table", "matches", "[I", true)
  | 1 => ("WishWays$Table", "changes", "[I", true)
  | 2 => ("WishWays$Table", "targets", "[I", true)
  | 3 => ("WishWays$Table", "size", "I", false)
  | 4 => ("WishWays$Table", "firstRows", "[I", true)
  | _ => ("WishWays$Table", "deeds", "[I", true)
def tyX7 : Nat → FieldType := fun k => match k with
  | 0 => .array .int
  | 1 => .array .int
  | 2 => .array .int
  | 3 => .int
  | 4 => .array .int
  | _ => .array .int
abbrev wsX70 : List Cond := u_ws RX7 TX7 6
theorem nmX7 : ∀ a, a < 6 → ∀ b, b < 6 → a ≠ b → (TX7 a).2.1 ≠ (TX7 b).2.1 := by decide +kernel
theorem tyX7_ok : ∀ k, k < 6 → parseFieldDescriptor (TX7 k).2.2.1 = some (tyX7 k) := by decide +kernel
abbrev cX7_init : ByteArray := prog_9_method_1_code
def yX7_init : MethodName := ⟨RX7, "<init>", "()V"⟩
abbrev cX7_addRow : ByteArray := prog_9_method_2_code
def yX7_addRow : MethodName := ⟨RX7, "addRow", "(III)I"⟩
abbrev cX7_clear : ByteArray := prog_9_method_3_code
def yX7_clear : MethodName := ⟨RX7, "clear", "()V"⟩
abbrev cX7_takeFrom : ByteArray := prog_9_method_4_code
def yX7_takeFrom : MethodName := ⟨RX7, "takeFrom", "(LWishWays$Table;)V"⟩
abbrev cX7_isAlike : ByteArray := prog_9_method_5_code
def yX7_isAlike : MethodName := ⟨RX7, "isAlike", "(LWishWays$Table;)Z"⟩
abbrev cX7_toldOf : ByteArray := prog_9_method_6_code
def yX7_toldOf : MethodName := ⟨RX7, "toldOf", "(II)I"⟩
abbrev cX7_isMatch : ByteArray := prog_9_method_7_code
def yX7_isMatch : MethodName := ⟨RX7, "isMatch", "(II)Z"⟩
abbrev cX7_deedOf : ByteArray := prog_9_method_8_code
def yX7_deedOf : MethodName := ⟨RX7, "deedOf", "(II)I"⟩
abbrev cX7_fewestRows : ByteArray := prog_9_method_9_code
def yX7_fewestRows : MethodName := ⟨RX7, "fewestRows", "()I"⟩
abbrev cX7_packetsOf : ByteArray := prog_9_method_10_code
def yX7_packetsOf : MethodName := ⟨RX7, "packetsOf", "(I)J"⟩
abbrev cX7_alikeBy : ByteArray := prog_9_method_11_code
def yX7_alikeBy : MethodName := ⟨RX7, "alikeBy", "(IJ)J"⟩
abbrev cX7_dealAlike : ByteArray := prog_9_method_12_code
def yX7_dealAlike : MethodName := ⟨RX7, "dealAlike", "(I[J[JJ)Z"⟩
abbrev cX7_remake : ByteArray := prog_9_method_13_code
def yX7_remake : MethodName := ⟨RX7, "remake", "(LWishWays$Wish;I)I"⟩
abbrev cX7_coverAll : ByteArray := prog_9_method_14_code
def yX7_coverAll : MethodName := ⟨RX7, "coverAll", "([II)Z"⟩
abbrev cX7_howManyTold : ByteArray := prog_9_method_15_code
def yX7_howManyTold : MethodName := ⟨RX7, "howManyTold", "(I)I"⟩
abbrev cX7_rightRow : ByteArray := prog_9_method_16_code
def yX7_rightRow : MethodName := ⟨RX7, "rightRow", "(I[II)I"⟩
abbrev cX7_isOneFor : ByteArray := prog_9_method_17_code
def yX7_isOneFor : MethodName := ⟨RX7, "isOneFor", "(II[I)Z"⟩
abbrev cX7_staysFor : ByteArray := prog_9_method_18_code
def yX7_staysFor : MethodName := ⟨RX7, "staysFor", "(II[I)Z"⟩
def RX8 : String := "WishWays$Teller"
def TX8 : u_T := fun k => match k with
  | 0 => ("WishWays$Teller", "out", "[I", true)
  | 1 => ("WishWays$Teller", "outSize", "I", false)
  | 2 => ("WishWays$Teller", "shortTree", "LWishWays$Tree;", true)
  | _ => ("WishWays$Teller", "shortNodes", "[I", true)
def tyX8 : Nat → FieldType := fun k => match k with
  | 0 => .array .int
  | 1 => .int
  | 2 => .object "WishWays$Tree"
  | _ => .array .int
abbrev wsX80 : List Cond := u_ws RX8 TX8 4
theorem nmX8 : ∀ a, a < 4 → ∀ b, b < 4 → a ≠ b → (TX8 a).2.1 ≠ (TX8 b).2.1 := by decide +kernel
theorem tyX8_ok : ∀ k, k < 4 → parseFieldDescriptor (TX8 k).2.2.1 = some (tyX8 k) := by decide +kernel
abbrev cX8_init : ByteArray := prog_10_method_1_code
def yX8_init : MethodName := ⟨RX8, "<init>", "()V"⟩
abbrev cX8_putAll : ByteArray := prog_10_method_2_code
def yX8_putAll : MethodName := ⟨RX8, "putAll", "(LWishWays$Tree;)I"⟩
abbrev cX8_putShorter : ByteArray := prog_10_method_3_code
def yX8_putShorter : MethodName := ⟨RX8, "putShorter", "(LWishWays$Tree;)I"⟩
abbrev cX8_put : ByteArray := prog_10_method_4_code
def yX8_put : MethodName := ⟨RX8, "put", "(LWishWays$Tree;III)V"⟩
abbrev cX8_putBare : ByteArray := prog_10_method_5_code
def yX8_putBare : MethodName := ⟨RX8, "putBare", "(LWishWays$Tree;II)V"⟩
abbrev cX8_putAtom : ByteArray := prog_10_method_6_code
def yX8_putAtom : MethodName := ⟨RX8, "putAtom", "(III)V"⟩
abbrev cX8_putByte : ByteArray := prog_10_method_7_code
def yX8_putByte : MethodName := ⟨RX8, "putByte", "(I)V"⟩
abbrev cX8_bindingOf : ByteArray := prog_10_method_8_code
def yX8_bindingOf : MethodName := ⟨RX8, "bindingOf", "(I)I"⟩
abbrev cX8_shorten : ByteArray := prog_10_method_9_code
def yX8_shorten : MethodName := ⟨RX8, "shorten", "(LWishWays$Tree;)I"⟩
abbrev cX8_shortStar : ByteArray := prog_10_method_10_code
def yX8_shortStar : MethodName := ⟨RX8, "shortStar", "(I)I"⟩
abbrev cX8_shortEither : ByteArray := prog_10_method_11_code
def yX8_shortEither : MethodName := ⟨RX8, "shortEither", "(II)I"⟩
abbrev cX8_shortThen : ByteArray := prog_10_method_12_code
def yX8_shortThen : MethodName := ⟨RX8, "shortThen", "(II)I"⟩
abbrev cX8_isPlain : ByteArray := prog_10_method_13_code
def yX8_isPlain : MethodName := ⟨RX8, "isPlain", "(I)Z"⟩
abbrev cX8_shortField : ByteArray := prog_10_method_14_code
def yX8_shortField : MethodName := ⟨RX8, "shortField", "(II)I"⟩
def RX9 : String := "WishWays$Tree"
def TX9 : u_T := fun k => match k with
  | 0 => ("WishWays$Tree", "kinds", "[I", true)
  | 1 => ("WishWays$Tree", "lefts", "[I", true)
  | 2 => ("WishWays$Tree", "rights", "[I", true)
  | _ => ("WishWays$Tree", "size", "I", false)
def tyX9 : Nat → FieldType := fun k => match k with
  | 0 => .array .int
  | 1 => .array .int
  | 2 => .array .int
  | _ => .int
abbrev wsX90 : List Cond := u_ws RX9 TX9 4
theorem nmX9 : ∀ a, a < 4 → ∀ b, b < 4 → a ≠ b → (TX9 a).2.1 ≠ (TX9 b).2.1 := by decide +kernel
theorem tyX9_ok : ∀ k, k < 4 → parseFieldDescriptor (TX9 k).2.2.1 = some (tyX9 k) := by decide +kernel
abbrev cX9_init : ByteArray := prog_11_method_1_code
def yX9_init : MethodName := ⟨RX9, "<init>", "(I)V"⟩
abbrev cX9_add : ByteArray := prog_11_method_2_code
def yX9_add : MethodName := ⟨RX9, "add", "(III)I"⟩
abbrev cX9_findOrAdd : ByteArray := prog_11_method_3_code
def yX9_findOrAdd : MethodName := ⟨RX9, "findOrAdd", "(III)I"⟩
abbrev cX9_copied : ByteArray := prog_11_method_4_code
def yX9_copied : MethodName := ⟨RX9, "copied", "()LWishWays$Tree;"⟩
def RX10 : String := "WishWays$Wish"
def TX10 : u_T := fun k => match k with
  | 0 => ("WishWays$Wish", "house", "I", true)
  | 1 => ("WishWays$Wish", "tree", "LWishWays$Tree;", true)
  | 2 => ("WishWays$Wish", "made", "[J", true)
  | 3 => ("WishWays$Wish", "rowsNeeded", "[I", true)
  | _ => ("WishWays$Wish", "value", "I", false)
def tyX10 : Nat → FieldType := fun k => match k with
  | 0 => .int
  | 1 => .object "WishWays$Tree"
  | 2 => .array .long
  | 3 => .array .int
  | _ => .int
abbrev wsX100 : List Cond := u_ws RX10 TX10 5
theorem nmX10 : ∀ a, a < 5 → ∀ b, b < 5 → a ≠ b → (TX10 a).2.1 ≠ (TX10 b).2.1 := by decide +kernel
theorem tyX10_ok : ∀ k, k < 5 → parseFieldDescriptor (TX10 k).2.2.1 = some (tyX10 k) := by decide +kernel
abbrev cX10_init : ByteArray := prog_12_method_1_code
def yX10_init : MethodName := ⟨RX10, "<init>", "(ILWishWays$Tree;[J)V"⟩
abbrev cX10_howMany : ByteArray := prog_12_method_2_code
def yX10_howMany : MethodName := ⟨RX10, "howMany", "(I)I"⟩
abbrev cX10_pick : ByteArray := prog_12_method_3_code
def yX10_pick : MethodName := ⟨RX10, "pick", "(II)I"⟩
abbrev cX10_kthBit : ByteArray := prog_12_method_4_code
def yX10_kthBit : MethodName := ⟨RX10, "kthBit", "(JI)I"⟩
abbrev cX10_holds : ByteArray := prog_12_method_5_code
def yX10_holds : MethodName := ⟨RX10, "holds", "(II)Z"⟩
abbrev cX10_makesNone : ByteArray := prog_12_method_6_code
def yX10_makesNone : MethodName := ⟨RX10, "makesNone", "(I)Z"⟩
abbrev cX10_makesJust : ByteArray := prog_12_method_7_code
def yX10_makesJust : MethodName := ⟨RX10, "makesJust", "(II)Z"⟩
abbrev cX10_partsBy : ByteArray := prog_12_method_8_code
def yX10_partsBy : MethodName := ⟨RX10, "partsBy", "(LWishWays$Wish;I)I"⟩
abbrev cX10_isInside : ByteArray := prog_12_method_9_code
def yX10_isInside : MethodName := ⟨RX10, "isInside", "(LWishWays$Wish;I)Z"⟩
def RX11 : String := "WishWays"
def TX11 : u_T := fun k => match k with
  | 0 => ("WishWays", "tape", "[I", true)
  | 1 => ("WishWays", "tapeSize", "I", false)
  | 2 => ("WishWays", "wishes", "[LWishWays$Wish;", true)
  | 3 => ("WishWays", "wishCount", "I", false)
  | 4 => ("WishWays", "rights", "[I", true)
  | 5 => ("WishWays", "ranks", "[I", true)
  | 6 => ("WishWays", "reader", "LWishWays$Reader;", true)
  | 7 => ("WishWays", "maker", "LWishWays$Maker;", true)
  | 8 => ("WishWays", "teller", "LWishWays$Teller;", true)
  | 9 => ("WishWays", "network", "LWishWays$Network;", true)
  | 10 => ("WishWays", "rollout", "LWishWays$Rollout;", true)
  | 11 => ("WishWays", "storm", "LWishWays$Storm;", true)
  | 12 => ("WishWays", "ledger", "LWishWays$Ledger;", true)
  | _ => ("WishWays", "cabling", "LWishWays$Cabling;", true)
def tyX11 : Nat → FieldType := fun k => match k with
  | 0 => .array .int
  | 1 => .int
  | 2 => .array (.object "WishWays$Wish")
  | 3 => .int
  | 4 => .array .int
  | 5 => .array .int
  | 6 => .object "WishWays$Reader"
  | 7 => .object "WishWays$Maker"
  | 8 => .object "WishWays$Teller"
  | 9 => .object "WishWays$Network"
  | 10 => .object "WishWays$Rollout"
  | 11 => .object "WishWays$Storm"
  | 12 => .object "WishWays$Ledger"
  | _ => .object "WishWays$Cabling"
abbrev wsX110 : List Cond := u_ws RX11 TX11 14
theorem nmX11 : ∀ a, a < 14 → ∀ b, b < 14 → a ≠ b → (TX11 a).2.1 ≠ (TX11 b).2.1 := by decide +kernel
theorem tyX11_ok : ∀ k, k < 14 → parseFieldDescriptor (TX11 k).2.2.1 = some (tyX11 k) := by decide +kernel
abbrev cX11_init : ByteArray := prog_1_method_1_code
def yX11_init : MethodName := ⟨RX11, "<init>", "()V"⟩
abbrev cX11_feed : ByteArray := prog_1_method_2_code
def yX11_feed : MethodName := ⟨RX11, "feed", "(IIIII)I"⟩
abbrev cX11_takeBytes : ByteArray := prog_1_method_3_code
def yX11_takeBytes : MethodName := ⟨RX11, "takeBytes", "(I)V"⟩
abbrev cX11_end : ByteArray := prog_1_method_4_code
def yX11_end : MethodName := ⟨RX11, "end", "(I)I"⟩
abbrev cX11_wish : ByteArray := prog_1_method_5_code
def yX11_wish : MethodName := ⟨RX11, "wish", "(I)I"⟩
abbrev cX11_makes : ByteArray := prog_1_method_6_code
def yX11_makes : MethodName := ⟨RX11, "makes", "(III)I"⟩
abbrev cX11_of : ByteArray := prog_1_method_7_code
def yX11_of : MethodName := ⟨RX11, "of", "(II)I"⟩
abbrev cX11_parts : ByteArray := prog_1_method_8_code
def yX11_parts : MethodName := ⟨RX11, "parts", "(III)I"⟩
abbrev cX11_within : ByteArray := prog_1_method_9_code
def yX11_within : MethodName := ⟨RX11, "within", "(II)I"⟩
abbrev cX11_right : ByteArray := prog_1_method_10_code
def yX11_right : MethodName := ⟨RX11, "right", "(IIIII)Z"⟩
abbrev cX11_breaks : ByteArray := prog_1_method_11_code
def yX11_breaks : MethodName := ⟨RX11, "breaks", "(I)I"⟩
abbrev cX11_mayTouch : ByteArray := prog_1_method_12_code
def yX11_mayTouch : MethodName := ⟨RX11, "mayTouch", "(II)Z"⟩
abbrev cX11_quarrel : ByteArray := prog_1_method_13_code
def yX11_quarrel : MethodName := ⟨RX11, "quarrel", "(II)I"⟩
abbrev cX11_rank : ByteArray := prog_1_method_14_code
def yX11_rank : MethodName := ⟨RX11, "rank", "(II)I"⟩
abbrev cX11_joined : ByteArray := prog_1_method_15_code
def yX11_joined : MethodName := ⟨RX11, "joined", "(II)I"⟩
abbrev cX11_firstByRank : ByteArray := prog_1_method_16_code
def yX11_firstByRank : MethodName := ⟨RX11, "firstByRank", "(I)I"⟩
abbrev cX11_row : ByteArray := prog_1_method_17_code
def yX11_row : MethodName := ⟨RX11, "row", "(IIIII)I"⟩
abbrev cX11_erase : ByteArray := prog_1_method_18_code
def yX11_erase : MethodName := ⟨RX11, "erase", "(II)I"⟩
abbrev cX11_renew : ByteArray := prog_1_method_19_code
def yX11_renew : MethodName := ⟨RX11, "renew", "()I"⟩
abbrev cX11_line : ByteArray := prog_1_method_20_code
def yX11_line : MethodName := ⟨RX11, "line", "(IIZ)Z"⟩
abbrev cX11_entries : ByteArray := prog_1_method_21_code
def yX11_entries : MethodName := ⟨RX11, "entries", "(I)I"⟩
abbrev cX11_ends : ByteArray := prog_1_method_22_code
def yX11_ends : MethodName := ⟨RX11, "ends", "(II)I"⟩
abbrev cX11_way : ByteArray := prog_1_method_23_code
def yX11_way : MethodName := ⟨RX11, "way", "(I)I"⟩
abbrev cX11_shown : ByteArray := prog_1_method_24_code
def yX11_shown : MethodName := ⟨RX11, "shown", "(II)I"⟩
abbrev cX11_guessed : ByteArray := prog_1_method_25_code
def yX11_guessed : MethodName := ⟨RX11, "guessed", "(I)I"⟩
abbrev cX11_packed : ByteArray := prog_1_method_26_code
def yX11_packed : MethodName := ⟨RX11, "packed", "(II)I"⟩
abbrev cX11_writes : ByteArray := prog_1_method_27_code
def yX11_writes : MethodName := ⟨RX11, "writes", "()I"⟩
abbrev cX11_written : ByteArray := prog_1_method_28_code
def yX11_written : MethodName := ⟨RX11, "written", "(I)I"⟩
abbrev cX11_worst : ByteArray := prog_1_method_29_code
def yX11_worst : MethodName := ⟨RX11, "worst", "(I)I"⟩
abbrev cX11_falls : ByteArray := prog_1_method_30_code
def yX11_falls : MethodName := ⟨RX11, "falls", "(I)I"⟩
abbrev cX11_needs : ByteArray := prog_1_method_31_code
def yX11_needs : MethodName := ⟨RX11, "needs", "(III)I"⟩
abbrev cX11_worth : ByteArray := prog_1_method_32_code
def yX11_worth : MethodName := ⟨RX11, "worth", "(III)I"⟩
abbrev cX11_kept : ByteArray := prog_1_method_33_code
def yX11_kept : MethodName := ⟨RX11, "kept", "(I)I"⟩
abbrev cX11_counts : ByteArray := prog_1_method_34_code
def yX11_counts : MethodName := ⟨RX11, "counts", "(IIZI)I"⟩
abbrev cX11_liars : ByteArray := prog_1_method_35_code
def yX11_liars : MethodName := ⟨RX11, "liars", "()I"⟩
abbrev cX11_tell : ByteArray := prog_1_method_36_code
def yX11_tell : MethodName := ⟨RX11, "tell", "(IZ)I"⟩
abbrev cX11_octet : ByteArray := prog_1_method_37_code
def yX11_octet : MethodName := ⟨RX11, "octet", "(I)I"⟩
abbrev cX11_cable : ByteArray := prog_1_method_38_code
def yX11_cable : MethodName := ⟨RX11, "cable", "(II)I"⟩
abbrev cX11_edges : ByteArray := prog_1_method_39_code
def yX11_edges : MethodName := ⟨RX11, "edges", "(I)I"⟩
abbrev cX11_known : ByteArray := prog_1_method_40_code
def yX11_known : MethodName := ⟨RX11, "known", "(I)I"⟩
abbrev cX11_taps : ByteArray := prog_1_method_41_code
def yX11_taps : MethodName := ⟨RX11, "taps", "(I)I"⟩
abbrev cX11_make : ByteArray := prog_1_method_42_code
def yX11_make : MethodName := ⟨RX11, "make", "(III)I"⟩
abbrev cX11_rows : ByteArray := prog_1_method_43_code
def yX11_rows : MethodName := ⟨RX11, "rows", "(IIII)I"⟩
abbrev cX11_write : ByteArray := prog_1_method_44_code
def yX11_write : MethodName := ⟨RX11, "write", "(II)I"⟩
abbrev cX11_seen : ByteArray := prog_1_method_45_code
def yX11_seen : MethodName := ⟨RX11, "seen", "(II)I"⟩
abbrev cX11_neither : ByteArray := prog_1_method_46_code
def yX11_neither : MethodName := ⟨RX11, "neither", "(II)I"⟩
abbrev cX11_gap : ByteArray := prog_1_method_47_code
def yX11_gap : MethodName := ⟨RX11, "gap", "()I"⟩
abbrev cX11_count : ByteArray := prog_1_method_48_code
def yX11_count : MethodName := ⟨RX11, "count", "(I)I"⟩
abbrev cX11_wishAt : ByteArray := prog_1_method_49_code
def yX11_wishAt : MethodName := ⟨RX11, "wishAt", "(I)LWishWays$Wish;"⟩
abbrev cX11_upTo : ByteArray := prog_1_method_50_code
def yX11_upTo : MethodName := ⟨RX11, "upTo", "(II)Z"⟩
abbrev cX11_isPacket : ByteArray := prog_1_method_51_code
def yX11_isPacket : MethodName := ⟨RX11, "isPacket", "(I)Z"⟩
abbrev cX11_isBox : ByteArray := prog_1_method_52_code
def yX11_isBox : MethodName := ⟨RX11, "isBox", "(I)Z"⟩
abbrev cX11_isTick : ByteArray := prog_1_method_53_code
def yX11_isTick : MethodName := ⟨RX11, "isTick", "(I)Z"⟩
abbrev cX11_isLine : ByteArray := prog_1_method_54_code
def yX11_isLine : MethodName := ⟨RX11, "isLine", "(II)Z"⟩
abbrev cX11_hasBit : ByteArray := prog_1_method_55_code
def yX11_hasBit : MethodName := ⟨RX11, "hasBit", "(II)Z"⟩
abbrev cX11_lowestBit : ByteArray := prog_1_method_56_code
def yX11_lowestBit : MethodName := ⟨RX11, "lowestBit", "(J)I"⟩
abbrev cX11_valueOf : ByteArray := prog_1_method_57_code
def yX11_valueOf : MethodName := ⟨RX11, "valueOf", "(II)I"⟩
abbrev cX11_changed : ByteArray := prog_1_method_58_code
def yX11_changed : MethodName := ⟨RX11, "changed", "(III)I"⟩
def RX12 : String := "WishWaysModel"
def TX12 : u_T := fun k => match k with
  | 0 => ("WishWaysModel", "thrown", "I", false)
  | 1 => ("WishWaysModel", "taped", "I", false)
  | 2 => ("WishWaysModel", "p", "I", false)
  | 3 => ("WishWaysModel", "fault", "I", false)
  | 4 => ("WishWaysModel", "wishes", "I", false)
  | 5 => ("WishWaysModel", "nodes", "I", false)
  | 6 => ("WishWaysModel", "atoms", "I", false)
  | 7 => ("WishWaysModel", "deep", "I", false)
  | 8 => ("WishWaysModel", "opened", "I", false)
  | 9 => ("WishWaysModel", "tape", "[B", true)
  | 10 => ("WishWaysModel", "kind", "[I", true)
  | 11 => ("WishWaysModel", "one", "[I", true)
  | 12 => ("WishWaysModel", "two", "[I", true)
  | 13 => ("WishWaysModel", "size", "[I", true)
  | 14 => ("WishWaysModel", "houseOf", "[I", true)
  | 15 => ("WishWaysModel", "open", "[I", true)
  | 16 => ("WishWaysModel", "stand", "[I", true)
  | 17 => ("WishWaysModel", "standing", "I", false)
  | 18 => ("WishWaysModel", "done", "Z", false)
  | 19 => ("WishWaysModel", "square", "[J", true)
  | 20 => ("WishWaysModel", "made", "[J", true)
  | 21 => ("WishWaysModel", "row", "[J", true)
  | 22 => ("WishWaysModel", "slot", "[I", true)
  | 23 => ("WishWaysModel", "rightPlaces", "[I", true)
  | 24 => ("WishWaysModel", "rightA", "[I", true)
  | 25 => ("WishWaysModel", "rightB", "[I", true)
  | 26 => ("WishWaysModel", "rightC", "[I", true)
  | 27 => ("WishWaysModel", "rank", "[I", true)
  | 28 => ("WishWaysModel", "match", "[I", true)
  | 29 => ("WishWaysModel", "sets", "[I", true)
  | 30 => ("WishWaysModel", "to", "[I", true)
  | 31 => ("WishWaysModel", "rowsOf", "[I", true)
  | 32 => ("WishWaysModel", "fallen", "[Z", true)
  | 33 => ("WishWaysModel", "entries", "I", false)
  | 34 => ("WishWaysModel", "fallenMany", "I", false)
  | 35 => ("WishWaysModel", "path", "[I", true)
  | 36 => ("WishWaysModel", "seenAt", "[I", true)
  | 37 => ("WishWaysModel", "waySize", "I", false)
  | 38 => ("WishWaysModel", "pathSize", "I", false)
  | 39 => ("WishWaysModel", "stamp", "I", false)
  | 40 => ("WishWaysModel", "by", "I", false)
  | 41 => ("WishWaysModel", "gone", "I", false)
  | 42 => ("WishWaysModel", "uses", "[J", true)
  | 43 => ("WishWaysModel", "endOld", "[I", true)
  | 44 => ("WishWaysModel", "endNew", "[I", true)
  | 45 => ("WishWaysModel", "told", "[I", true)
  | 46 => ("WishWaysModel", "matched", "[I", true)
  | 47 => ("WishWaysModel", "due", "[I", true)
  | 48 => ("WishWaysModel", "isGood", "[Z", true)
  | 49 => ("WishWaysModel", "leads", "[Z", true)
  | 50 => ("WishWaysModel", "order", "[I", true)
  | 51 => ("WishWaysModel", "found", "I", false)
  | 52 => ("WishWaysModel", "fall", "[I", true)
  | 53 => ("WishWaysModel", "lines", "[I", true)
  | 54 => ("WishWaysModel", "fallsMany", "I", false)
  | 55 => ("WishWaysModel", "needed", "[I", true)
  | 56 => ("WishWaysModel", "worthOf", "[I", true)
  | 57 => ("WishWaysModel", "room", "[I", true)
  | 58 => ("WishWaysModel", "sent", "[I", true)
  | 59 => ("WishWaysModel", "gotten", "[I", true)
  | 60 => ("WishWaysModel", "newKind", "[I", true)
  | 61 => ("WishWaysModel", "newOne", "[I", true)
  | 62 => ("WishWaysModel", "newTwo", "[I", true)
  | 63 => ("WishWaysModel", "became", "[I", true)
  | 64 => ("WishWaysModel", "newMany", "I", false)
  | 65 => ("WishWaysModel", "out", "[B", true)
  | 66 => ("WishWaysModel", "todo", "[I", true)
  | 67 => ("WishWaysModel", "outSize", "I", false)
  | 68 => ("WishWaysModel", "todoMany", "I", false)
  | 69 => ("WishWaysModel", "cables", "I", false)
  | 70 => ("WishWaysModel", "edges", "I", false)
  | 71 => ("WishWaysModel", "endA", "[I", true)
  | 72 => ("WishWaysModel", "endB", "[I", true)
  | 73 => ("WishWaysModel", "makesTo", "[I", true)
  | 74 => ("WishWaysModel", "newMatch", "[I", true)
  | 75 => ("WishWaysModel", "newSets", "[I", true)
  | 76 => ("WishWaysModel", "newTo", "[I", true)
  | 77 => ("WishWaysModel", "writtenIn", "[I", true)
  | _ => ("WishWaysModel", "inTick", "[I", true)
def tyX12 : Nat → FieldType := fun k => match k with
  | 0 => .int
  | 1 => .int
  | 2 => .int
  | 3 => .int
  | 4 => .int
  | 5 => .int
  | 6 => .int
  | 7 => .int
  | 8 => .int
  | 9 => .array .byte
  | 10 => .array .int
  | 11 => .array .int
  | 12 => .array .int
  | 13 => .array .int
  | 14 => .array .int
  | 15 => .array .int
  | 16 => .array .int
  | 17 => .int
  | 18 => .boolean
  | 19 => .array .long
  | 20 => .array .long
  | 21 => .array .long
  | 22 => .array .int
  | 23 => .array .int
  | 24 => .array .int
  | 25 => .array .int
  | 26 => .array .int
  | 27 => .array .int
  | 28 => .array .int
  | 29 => .array .int
  | 30 => .array .int
  | 31 => .array .int
  | 32 => .array .boolean
  | 33 => .int
  | 34 => .int
  | 35 => .array .int
  | 36 => .array .int
  | 37 => .int
  | 38 => .int
  | 39 => .int
  | 40 => .int
  | 41 => .int
  | 42 => .array .long
  | 43 => .array .int
  | 44 => .array .int
  | 45 => .array .int
  | 46 => .array .int
  | 47 => .array .int
  | 48 => .array .boolean
  | 49 => .array .boolean
  | 50 => .array .int
  | 51 => .int
  | 52 => .array .int
  | 53 => .array .int
  | 54 => .int
  | 55 => .array .int
  | 56 => .array .int
  | 57 => .array .int
  | 58 => .array .int
  | 59 => .array .int
  | 60 => .array .int
  | 61 => .array .int
  | 62 => .array .int
  | 63 => .array .int
  | 64 => .int
  | 65 => .array .byte
  | 66 => .array .int
  | 67 => .int
  | 68 => .int
  | 69 => .int
  | 70 => .int
  | 71 => .array .int
  | 72 => .array .int
  | 73 => .array .int
  | 74 => .array .int
  | 75 => .array .int
  | 76 => .array .int
  | 77 => .array .int
  | _ => .array .int
abbrev wsX120 : List Cond := u_ws RX12 TX12 79
theorem nmX12 : ∀ a, a < 79 → ∀ b, b < 79 → a ≠ b → (TX12 a).2.1 ≠ (TX12 b).2.1 := by decide +kernel
theorem tyX12_ok : ∀ k, k < 79 → parseFieldDescriptor (TX12 k).2.2.1 = some (tyX12 k) := by decide +kernel
abbrev cX12_init : ByteArray := prog_14_method_1_code
def yX12_init : MethodName := ⟨RX12, "<init>", "()V"⟩
abbrev cX12_in : ByteArray := prog_14_method_3_code
def yX12_in : MethodName := ⟨RX12, "in", "(JJJ)Z"⟩
abbrev cX12_isPacket : ByteArray := prog_14_method_4_code
def yX12_isPacket : MethodName := ⟨RX12, "isPacket", "(I)Z"⟩
abbrev cX12_isPlace : ByteArray := prog_14_method_5_code
def yX12_isPlace : MethodName := ⟨RX12, "isPlace", "(I)Z"⟩
abbrev cX12_fieldOf : ByteArray := prog_14_method_6_code
def yX12_fieldOf : MethodName := ⟨RX12, "fieldOf", "(II)I"⟩
abbrev cX12_with : ByteArray := prog_14_method_7_code
def yX12_with : MethodName := ⟨RX12, "with", "(III)I"⟩
abbrev cX12_feed : ByteArray := prog_14_method_8_code
def yX12_feed : MethodName := ⟨RX12, "feed", "(IIIII)I"⟩
abbrev cX12_put : ByteArray := prog_14_method_9_code
def yX12_put : MethodName := ⟨RX12, "put", "(I)V"⟩
abbrev cX12_end : ByteArray := prog_14_method_10_code
def yX12_end : MethodName := ⟨RX12, "end", "(I)I"⟩
abbrev cX12_fails : ByteArray := prog_14_method_11_code
def yX12_fails : MethodName := ⟨RX12, "fails", "(II)V"⟩
abbrev cX12_sign : ByteArray := prog_14_method_12_code
def yX12_sign : MethodName := ⟨RX12, "sign", "()I"⟩
abbrev cX12_blanks : ByteArray := prog_14_method_13_code
def yX12_blanks : MethodName := ⟨RX12, "blanks", "()V"⟩
abbrev cX12_isDigit : ByteArray := prog_14_method_14_code
def yX12_isDigit : MethodName := ⟨RX12, "isDigit", "()Z"⟩
abbrev cX12_isLetter : ByteArray := prog_14_method_15_code
def yX12_isLetter : MethodName := ⟨RX12, "isLetter", "()Z"⟩
abbrev cX12_node : ByteArray := prog_14_method_16_code
def yX12_node : MethodName := ⟨RX12, "node", "(III)V"⟩
abbrev cX12_join : ByteArray := prog_14_method_17_code
def yX12_join : MethodName := ⟨RX12, "join", "(I)V"⟩
abbrev cX12_top : ByteArray := prog_14_method_18_code
def yX12_top : MethodName := ⟨RX12, "top", "()I"⟩
abbrev cX12_counts : ByteArray := prog_14_method_19_code
def yX12_counts : MethodName := ⟨RX12, "counts", "(I)V"⟩
abbrev cX12_field : ByteArray := prog_14_method_20_code
def yX12_field : MethodName := ⟨RX12, "field", "()I"⟩
abbrev cX12_number : ByteArray := prog_14_method_21_code
def yX12_number : MethodName := ⟨RX12, "number", "(I)I"⟩
abbrev cX12_atom : ByteArray := prog_14_method_22_code
def yX12_atom : MethodName := ⟨RX12, "atom", "(I)V"⟩
abbrev cX12_wanted : ByteArray := prog_14_method_23_code
def yX12_wanted : MethodName := ⟨RX12, "wanted", "()Z"⟩
abbrev cX12_makes : ByteArray := prog_14_method_24_code
def yX12_makes : MethodName := ⟨RX12, "makes", "(I)V"⟩
abbrev cX12_behind : ByteArray := prog_14_method_25_code
def yX12_behind : MethodName := ⟨RX12, "behind", "()Z"⟩
abbrev cX12_wish : ByteArray := prog_14_method_26_code
def yX12_wish : MethodName := ⟨RX12, "wish", "(I)I"⟩
abbrev cX12_works : ByteArray := prog_14_method_27_code
def yX12_works : MethodName := ⟨RX12, "works", "(I)V"⟩
abbrev cX12_leaf : ByteArray := prog_14_method_28_code
def yX12_leaf : MethodName := ⟨RX12, "leaf", "(IIII)V"⟩
abbrev cX12_follows : ByteArray := prog_14_method_29_code
def yX12_follows : MethodName := ⟨RX12, "follows", "(II)V"⟩
abbrev cX12_closes : ByteArray := prog_14_method_30_code
def yX12_closes : MethodName := ⟨RX12, "closes", "(I)V"⟩
abbrev cX12_isWish : ByteArray := prog_14_method_31_code
def yX12_isWish : MethodName := ⟨RX12, "isWish", "(I)Z"⟩
abbrev cX12_makesOf : ByteArray := prog_14_method_32_code
def yX12_makesOf : MethodName := ⟨RX12, "makesOf", "(III)Z"⟩
abbrev cX12_kth : ByteArray := prog_14_method_33_code
def yX12_kth : MethodName := ⟨RX12, "kth", "(III)I"⟩
abbrev cX12_many : ByteArray := prog_14_method_34_code
def yX12_many : MethodName := ⟨RX12, "many", "(II)I"⟩
abbrev cX12_makes_ : ByteArray := prog_14_method_35_code
def yX12_makes_ : MethodName := ⟨RX12, "makes", "(III)I"⟩
abbrev cX12_of : ByteArray := prog_14_method_36_code
def yX12_of : MethodName := ⟨RX12, "of", "(II)I"⟩
abbrev cX12_unlike : ByteArray := prog_14_method_37_code
def yX12_unlike : MethodName := ⟨RX12, "unlike", "(III)I"⟩
abbrev cX12_parts : ByteArray := prog_14_method_38_code
def yX12_parts : MethodName := ⟨RX12, "parts", "(III)I"⟩
abbrev cX12_within : ByteArray := prog_14_method_39_code
def yX12_within : MethodName := ⟨RX12, "within", "(II)I"⟩
abbrev cX12_isHouse : ByteArray := prog_14_method_40_code
def yX12_isHouse : MethodName := ⟨RX12, "isHouse", "(I)Z"⟩
abbrev cX12_right : ByteArray := prog_14_method_41_code
def yX12_right : MethodName := ⟨RX12, "right", "(IIIII)Z"⟩
abbrev cX12_breaks : ByteArray := prog_14_method_42_code
def yX12_breaks : MethodName := ⟨RX12, "breaks", "(I)I"⟩
abbrev cX12_quarrel : ByteArray := prog_14_method_43_code
def yX12_quarrel : MethodName := ⟨RX12, "quarrel", "(II)I"⟩
abbrev cX12_rank : ByteArray := prog_14_method_44_code
def yX12_rank : MethodName := ⟨RX12, "rank", "(II)I"⟩
abbrev cX12_joined : ByteArray := prog_14_method_45_code
def yX12_joined : MethodName := ⟨RX12, "joined", "(II)I"⟩
abbrev cX12_isTable : ByteArray := prog_14_method_46_code
def yX12_isTable : MethodName := ⟨RX12, "isTable", "(II)Z"⟩
abbrev cX12_row : ByteArray := prog_14_method_47_code
def yX12_row : MethodName := ⟨RX12, "row", "(IIIII)I"⟩
abbrev cX12_erase : ByteArray := prog_14_method_48_code
def yX12_erase : MethodName := ⟨RX12, "erase", "(II)I"⟩
abbrev cX12_isUnlike : ByteArray := prog_14_method_49_code
def yX12_isUnlike : MethodName := ⟨RX12, "isUnlike", "(I)Z"⟩
abbrev cX12_unlikeMany : ByteArray := prog_14_method_50_code
def yX12_unlikeMany : MethodName := ⟨RX12, "unlikeMany", "()I"⟩
abbrev cX12_renew : ByteArray := prog_14_method_51_code
def yX12_renew : MethodName := ⟨RX12, "renew", "()I"⟩
abbrev cX12_line : ByteArray := prog_14_method_52_code
def yX12_line : MethodName := ⟨RX12, "line", "(IIZ)Z"⟩
abbrev cX12_entries : ByteArray := prog_14_method_53_code
def yX12_entries : MethodName := ⟨RX12, "entries", "(I)I"⟩
abbrev cX12_isField : ByteArray := prog_14_method_54_code
def yX12_isField : MethodName := ⟨RX12, "isField", "(II)Z"⟩
abbrev cX12_matches : ByteArray := prog_14_method_55_code
def yX12_matches : MethodName := ⟨RX12, "matches", "(II)Z"⟩
abbrev cX12_set : ByteArray := prog_14_method_56_code
def yX12_set : MethodName := ⟨RX12, "set", "(II)I"⟩
abbrev cX12_rowFor : ByteArray := prog_14_method_57_code
def yX12_rowFor : MethodName := ⟨RX12, "rowFor", "(II)I"⟩
abbrev cX12_step : ByteArray := prog_14_method_58_code
def yX12_step : MethodName := ⟨RX12, "step", "(II)I"⟩
abbrev cX12_endsAs : ByteArray := prog_14_method_59_code
def yX12_endsAs : MethodName := ⟨RX12, "endsAs", "(II)I"⟩
abbrev cX12_ends : ByteArray := prog_14_method_60_code
def yX12_ends : MethodName := ⟨RX12, "ends", "(II)I"⟩
abbrev cX12_way : ByteArray := prog_14_method_61_code
def yX12_way : MethodName := ⟨RX12, "way", "(I)I"⟩
abbrev cX12_enters : ByteArray := prog_14_method_62_code
def yX12_enters : MethodName := ⟨RX12, "enters", "(I)Z"⟩
abbrev cX12_isShown : ByteArray := prog_14_method_63_code
def yX12_isShown : MethodName := ⟨RX12, "isShown", "(III)Z"⟩
abbrev cX12_shownBut : ByteArray := prog_14_method_64_code
def yX12_shownBut : MethodName := ⟨RX12, "shownBut", "(II)I"⟩
abbrev cX12_shown : ByteArray := prog_14_method_65_code
def yX12_shown : MethodName := ⟨RX12, "shown", "(II)I"⟩
abbrev cX12_guessed : ByteArray := prog_14_method_66_code
def yX12_guessed : MethodName := ⟨RX12, "guessed", "(I)I"⟩
abbrev cX12_deal : ByteArray := prog_14_method_67_code
def yX12_deal : MethodName := ⟨RX12, "deal", "(II)I"⟩
abbrev cX12_packed : ByteArray := prog_14_method_68_code
def yX12_packed : MethodName := ⟨RX12, "packed", "(II)I"⟩
abbrev cX12_bits : ByteArray := prog_14_method_69_code
def yX12_bits : MethodName := ⟨RX12, "bits", "(I)I"⟩
abbrev cX12_dealsAlike : ByteArray := prog_14_method_70_code
def yX12_dealsAlike : MethodName := ⟨RX12, "dealsAlike", "(III)Z"⟩
abbrev cX12_ends_ : ByteArray := prog_14_method_71_code
def yX12_ends_ : MethodName := ⟨RX12, "ends", "()V"⟩
abbrev cX12_isNeither : ByteArray := prog_14_method_72_code
def yX12_isNeither : MethodName := ⟨RX12, "isNeither", "(II)Z"⟩
abbrev cX12_writes : ByteArray := prog_14_method_73_code
def yX12_writes : MethodName := ⟨RX12, "writes", "()I"⟩
abbrev cX12_written : ByteArray := prog_14_method_74_code
def yX12_written : MethodName := ⟨RX12, "written", "(I)I"⟩
abbrev cX12_worst : ByteArray := prog_14_method_75_code
def yX12_worst : MethodName := ⟨RX12, "worst", "(I)I"⟩
abbrev cX12_placeBehind : ByteArray := prog_14_method_76_code
def yX12_placeBehind : MethodName := ⟨RX12, "placeBehind", "(I)I"⟩
abbrev cX12_falls : ByteArray := prog_14_method_77_code
def yX12_falls : MethodName := ⟨RX12, "falls", "(I)I"⟩
abbrev cX12_needs : ByteArray := prog_14_method_78_code
def yX12_needs : MethodName := ⟨RX12, "needs", "(III)I"⟩
abbrev cX12_worth : ByteArray := prog_14_method_79_code
def yX12_worth : MethodName := ⟨RX12, "worth", "(III)I"⟩
abbrev cX12_hasRoom : ByteArray := prog_14_method_80_code
def yX12_hasRoom : MethodName := ⟨RX12, "hasRoom", "(I)Z"⟩
abbrev cX12_kept : ByteArray := prog_14_method_81_code
def yX12_kept : MethodName := ⟨RX12, "kept", "(I)I"⟩
abbrev cX12_counts_ : ByteArray := prog_14_method_82_code
def yX12_counts_ : MethodName := ⟨RX12, "counts", "(IIZI)I"⟩
abbrev cX12_liars : ByteArray := prog_14_method_83_code
def yX12_liars : MethodName := ⟨RX12, "liars", "()I"⟩
abbrev cX12_alike : ByteArray := prog_14_method_84_code
def yX12_alike : MethodName := ⟨RX12, "alike", "(III)I"⟩
abbrev cX12_isOfField : ByteArray := prog_14_method_85_code
def yX12_isOfField : MethodName := ⟨RX12, "isOfField", "(II)Z"⟩
abbrev cX12_plus : ByteArray := prog_14_method_86_code
def yX12_plus : MethodName := ⟨RX12, "plus", "(IIZ)I"⟩
abbrev cX12_then : ByteArray := prog_14_method_87_code
def yX12_then : MethodName := ⟨RX12, "then", "(IIZ)I"⟩
abbrev cX12_star : ByteArray := prog_14_method_88_code
def yX12_star : MethodName := ⟨RX12, "star", "(IZ)I"⟩
abbrev cX12_root : ByteArray := prog_14_method_89_code
def yX12_root : MethodName := ⟨RX12, "root", "(IZ)I"⟩
abbrev cX12_later : ByteArray := prog_14_method_90_code
def yX12_later : MethodName := ⟨RX12, "later", "(I)V"⟩
abbrev cX12_laterNode : ByteArray := prog_14_method_91_code
def yX12_laterNode : MethodName := ⟨RX12, "laterNode", "(IZ)V"⟩
abbrev cX12_put1 : ByteArray := prog_14_method_92_code
def yX12_put1 : MethodName := ⟨RX12, "put1", "(I)V"⟩
abbrev cX12_tells : ByteArray := prog_14_method_93_code
def yX12_tells : MethodName := ⟨RX12, "tells", "(I)V"⟩
abbrev cX12_tell : ByteArray := prog_14_method_94_code
def yX12_tell : MethodName := ⟨RX12, "tell", "(IZ)I"⟩
abbrev cX12_octet : ByteArray := prog_14_method_95_code
def yX12_octet : MethodName := ⟨RX12, "octet", "(I)I"⟩
abbrev cX12_cable : ByteArray := prog_14_method_96_code
def yX12_cable : MethodName := ⟨RX12, "cable", "(II)I"⟩
abbrev cX12_edges : ByteArray := prog_14_method_97_code
def yX12_edges : MethodName := ⟨RX12, "edges", "(I)I"⟩
abbrev cX12_reached : ByteArray := prog_14_method_98_code
def yX12_reached : MethodName := ⟨RX12, "reached", "(II)I"⟩
abbrev cX12_isKnown : ByteArray := prog_14_method_99_code
def yX12_isKnown : MethodName := ⟨RX12, "isKnown", "(II)Z"⟩
abbrev cX12_isCables : ByteArray := prog_14_method_100_code
def yX12_isCables : MethodName := ⟨RX12, "isCables", "(I)Z"⟩
abbrev cX12_known : ByteArray := prog_14_method_101_code
def yX12_known : MethodName := ⟨RX12, "known", "(I)I"⟩
abbrev cX12_taps : ByteArray := prog_14_method_102_code
def yX12_taps : MethodName := ⟨RX12, "taps", "(I)I"⟩
abbrev cX12_rightFor : ByteArray := prog_14_method_103_code
def yX12_rightFor : MethodName := ⟨RX12, "rightFor", "(II)I"⟩
abbrev cX12_anys : ByteArray := prog_14_method_104_code
def yX12_anys : MethodName := ⟨RX12, "anys", "(I)I"⟩
abbrev cX12_coverOf : ByteArray := prog_14_method_105_code
def yX12_coverOf : MethodName := ⟨RX12, "coverOf", "(I)J"⟩
abbrev cX12_make : ByteArray := prog_14_method_106_code
def yX12_make : MethodName := ⟨RX12, "make", "(III)I"⟩
abbrev cX12_rows : ByteArray := prog_14_method_107_code
def yX12_rows : MethodName := ⟨RX12, "rows", "(IIII)I"⟩
abbrev cX12_write : ByteArray := prog_14_method_108_code
def yX12_write : MethodName := ⟨RX12, "write", "(II)I"⟩
abbrev cX12_asTold : ByteArray := prog_14_method_109_code
def yX12_asTold : MethodName := ⟨RX12, "asTold", "()V"⟩
abbrev cX12_seenAs : ByteArray := prog_14_method_110_code
def yX12_seenAs : MethodName := ⟨RX12, "seenAs", "(II)I"⟩
abbrev cX12_seen : ByteArray := prog_14_method_111_code
def yX12_seen : MethodName := ⟨RX12, "seen", "(II)I"⟩
abbrev cX12_endsByTicks : ByteArray := prog_14_method_112_code
def yX12_endsByTicks : MethodName := ⟨RX12, "endsByTicks", "()V"⟩
abbrev cX12_neither : ByteArray := prog_14_method_113_code
def yX12_neither : MethodName := ⟨RX12, "neither", "(II)I"⟩
abbrev cX12_gap : ByteArray := prog_14_method_114_code
def yX12_gap : MethodName := ⟨RX12, "gap", "()I"⟩
abbrev cX12_count : ByteArray := prog_14_method_115_code
def yX12_count : MethodName := ⟨RX12, "count", "(I)I"⟩
def RJ6 : String := "java/lang/Integer"
abbrev cJ6_bitCount_0f7a4 : ByteArray := prog_15_method_49_code
def yJ6_bitCount_0f7a4 : MethodName := ⟨RJ6, "bitCount", "(I)I"⟩
def RJ13 : String := "java/lang/Long"
abbrev cJ13_bitCount_95d88 : ByteArray := prog_16_method_50_code
def yJ13_bitCount_95d88 : MethodName := ⟨RJ13, "bitCount", "(J)I"⟩
def RJ9 : String := "java/lang/Math"
abbrev cJ9_max_7cf53 : ByteArray := prog_17_method_65_code
def yJ9_max_7cf53 : MethodName := ⟨RJ9, "max", "(II)I"⟩
abbrev cJ9_min_7cf53 : ByteArray := prog_17_method_69_code
def yJ9_min_7cf53 : MethodName := ⟨RJ9, "min", "(II)I"⟩
def RJ10 : String := "java/lang/System"
def RJ7 : String := "java/util/Arrays"
abbrev cJ7_fill_d0a16 : ByteArray := prog_19_method_101_code
def yJ7_fill_d0a16 : MethodName := ⟨RJ7, "fill", "([JJ)V"⟩
abbrev cJ7_fill_53178 : ByteArray := prog_19_method_103_code
def yJ7_fill_53178 : MethodName := ⟨RJ7, "fill", "([II)V"⟩
def RL : String := "WishWaysLaw"
abbrev cL_law : ByteArray := code
def yL_law : MethodName := ⟨RL, "law", "([I)Z"⟩
abbrev vwCl : List vw_C := [(RX0, TX0, 4), (RX1, TX1, 5), (RX2, TX2, 3), (RX3, TX3, 7), (RX4, TX4, 12), (RX5, TX5, 11), (RX6, TX6, 7), (RX7, TX7, 6), (RX8, TX8, 4), (RX9, TX9, 4), (RX10, TX10, 5), (RX11, TX11, 14), (RX12, TX12, 79)]

theorem goodIn_r {big : List Cond} (ws : List Cond) (ps : List Nat) (hp : ws = ps.filterMap (fun i => big[i]?)) (h : ws.all goodWord = true) : GoodIn big ws := by
  intro w hw
  have h1 := List.all_eq_true.mp h w hw
  rw [hp] at hw
  obtain ⟨i, -, hi⟩ := List.mem_filterMap.mp hw
  have hm : w ∈ big := by first | exact List.mem_of_getElem? hi | exact List.getElem?_mem hi
  exact ⟨hm, good_of_word h1⟩
theorem goodIn_app {big a b : List Cond} (ha : GoodIn big a) (hb : GoodIn big b) : GoodIn big (a ++ b) := fun w h => (List.mem_append.mp h).elim (ha w) (hb w)
theorem goodIn_ca {big a b : List Cond} {c : Cond} (ha : GoodIn big (c :: a)) (hb : GoodIn big b) : GoodIn big (c :: (a ++ b)) := fun w h => (List.mem_cons.mp h).elim (fun e => ha w (List.mem_cons.mpr (Or.inl e))) (fun h => (List.mem_append.mp h).elim (fun h => ha w (List.mem_cons.mpr (Or.inr h))) (hb w))
theorem goodIn_sub {big ws : List Cond} (hm : ∀ w ∈ ws, w ∈ big) (h : ws.all goodWord = true) : GoodIn big ws := fun w hw => ⟨hm w hw, good_of_word (List.all_eq_true.mp h w hw)⟩
