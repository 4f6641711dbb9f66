theorem mem_r {big : List Cond} (ws : List Cond) (ps : List Nat) (hp : ws = ps.filterMap (fun i => big[i]?)) : ∀ w ∈ ws, w ∈ big := by
  intro w hw
  rw [hp] at hw
  obtain ⟨i, -, hi⟩ := List.mem_filterMap.mp hw
  exact List.mem_of_getElem? hi
def cnm : Nat → String := fun k => if k = 0 then RX0 else if k = 1 then RX1 else if k = 2 then RX2 else if k = 3 then RX3 else if k = 4 then RX4 else if k = 5 then RX5 else if k = 6 then RX6 else if k = 7 then RX7 else if k = 8 then RX8 else if k = 9 then RX9 else if k = 10 then RX10 else if k = 11 then RX11 else if k = 12 then RX12 else if k = 13 then RL else if k = 14 then RJ6 else if k = 15 then RJ13 else if k = 16 then RJ7 else ""
def fTb : Nat → u_T := fun k => if k = 0 then TX0 else if k = 1 then TX1 else if k = 2 then TX2 else if k = 3 then TX3 else if k = 4 then TX4 else if k = 5 then TX5 else if k = 6 then TX6 else if k = 7 then TX7 else if k = 8 then TX8 else if k = 9 then TX9 else if k = 10 then TX10 else if k = 11 then TX11 else if k = 12 then TX12 else fun _ => ("", "", "", false)
def fTy : Nat → Nat → FieldType := fun k => if k = 0 then tyX0 else if k = 1 then tyX1 else if k = 2 then tyX2 else if k = 3 then tyX3 else if k = 4 then tyX4 else if k = 5 then tyX5 else if k = 6 then tyX6 else if k = 7 then tyX7 else if k = 8 then tyX8 else if k = 9 then tyX9 else if k = 10 then tyX10 else if k = 11 then tyX11 else if k = 12 then tyX12 else fun _ => .int
def nFl : Nat → Nat := fun k => [4, 5, 3, 7, 12, 11, 7, 6, 4, 4, 5, 14, 79].getD k 0
def fKd0 : List Nat := [17, 17, 0, 0]
def fKd1 : List Nat := [17, 0, 0, 17, 17]
def fKd2 : List Nat := [22, 18, 0]
def fKd3 : List Nat := [20, 2, 0, 17, 0, 18, 17]
def fKd4 : List Nat := [12, 17, 17, 17, 0, 0, 0, 0, 0, 0, 0, 1]
def fKd5 : List Nat := [6, 17, 17, 0, 17, 17, 17, 17, 17, 17, 17]
def fKd6 : List Nat := [6, 17, 0, 0, 18, 0, 17]
def fKd7 : List Nat := [17, 17, 17, 0, 17, 17]
def fKd8 : List Nat := [17, 0, 12, 17]
def fKd9 : List Nat := [17, 17, 17, 0]
def fKd10 : List Nat := [0, 12, 18, 17, 0]
def fKd11 : List Nat := [17, 0, 21, 0, 17, 17, 7, 5, 11, 6, 8, 9, 4, 3]
def fKd12 : List Nat := [0, 0, 0, 0, 0, 0, 0, 0, 0, 16, 17, 17, 17, 17, 17, 17, 17, 0, 1, 18, 18, 18, 17, 17, 17, 17, 17, 17, 17, 17, 17, 17, 19, 0, 0, 17, 17, 0, 0, 0, 0, 0, 18, 17, 17, 17, 17, 17, 19, 19, 17, 0, 17, 17, 0, 17, 17, 17, 17, 17, 17, 17, 17, 17, 0, 16, 17, 0, 0, 0, 0, 17, 17, 17, 17, 17, 17, 17, 17]
def fKdL : List (List Nat) := [fKd0, fKd1, fKd2, fKd3, fKd4, fKd5, fKd6, fKd7, fKd8, fKd9, fKd10, fKd11, fKd12]
def fKd (c k : Nat) : Nat := (fKdL.getD c []).getD k 0
def mInf : List (MethodName × ByteArray × Option FieldType × Nat) := [(yX0_init, cX0_init, none, 0),
  (yX0_lay, cX0_lay, (some .int), 0),
  (yX0_areThere, cX0_areThere, (some .boolean), 0),
  (yX0_knownWith, cX0_knownWith, (some .int), 0),
  (yX0_isOnRing, cX0_isOnRing, (some .boolean), 0),
  (yX0_groupOf, cX0_groupOf, (some .int), 0),
  (yX0_fewestTaps, cX0_fewestTaps, (some .int), 0),
  (yX1_init, cX1_init, none, 1),
  (yX1_setRoom, cX1_setRoom, (some .int), 1),
  (yX1_choose, cX1_choose, none, 1),
  (yX1_valueTogether, cX1_valueTogether, (some .int), 1),
  (yX1_hasRoomFor, cX1_hasRoomFor, (some .boolean), 1),
  (yX1_valueTogether, cX1_valueTogether, (some .int), 1),
  (yX1_valueTogether, cX1_valueTogether, (some .int), 1),
  (yX1_tellCount, cX1_tellCount, (some .int), 1),
  (yX1_fewestLiars, cX1_fewestLiars, (some .int), 1),
  (yX1_explain, cX1_explain, (some .boolean), 1),
  (yX2_init, cX2_init, none, 2),
  (yX2_relationOf, cX2_relationOf, (some (.array .long)), 2),
  (yX2_takeNode, cX2_takeNode, none, 2),
  (yX2_pushEmpty, cX2_pushEmpty, (some .boolean), 2),
  (yX2_joinTop, cX2_joinTop, none, 2),
  (yX2_fillAtom, cX2_fillAtom, none, 2),
  (yX2_mark, cX2_mark, none, 2),
  (yX2_unite, cX2_unite, none, 2),
  (yX2_follow, cX2_follow, none, 2),
  (yX2_addRows, cX2_addRows, none, 2),
  (yX2_close, cX2_close, none, 2),
  (yX2_sumUpOthers, cX2_sumUpOthers, none, 2),
  (yX2_goOnBy, cX2_goOnBy, none, 2),
  (yX2_isEmptyRow, cX2_isEmptyRow, (some .boolean), 2),
  (yX3_init, cX3_init, none, 3),
  (yX3_tableAt, cX3_tableAt, (some (.object "WishWays$Table")), 3),
  (yX3_countRows, cX3_countRows, (some .int), 3),
  (yX3_unlikeBoxes, cX3_unlikeBoxes, (some .int), 3),
  (yX3_takeNewTables, cX3_takeNewTables, none, 3),
  (yX3_lineBit, cX3_lineBit, (some .long), 3),
  (yX3_setFallen, cX3_setFallen, (some .boolean), 3),
  (yX3_isEntry, cX3_isEntry, (some .boolean), 3),
  (yX3_step, cX3_step, (some .int), 3),
  (yX3_goesOn, cX3_goesOn, (some .boolean), 3),
  (yX3_endBy, cX3_endBy, (some .int), 3),
  (yX3_versionOf, cX3_versionOf, (some .int), 3),
  (yX3_follow, cX3_follow, (some .int), 3),
  (yX3_keepRow, cX3_keepRow, none, 3),
  (yX3_endsBy, cX3_endsBy, (some (.array .int)), 3),
  (yX3_fillEnds, cX3_fillEnds, none, 3),
  (yX3_settle, cX3_settle, none, 3),
  (yX3_firstUnlike, cX3_firstUnlike, (some .int), 3),
  (yX4_init, cX4_init, none, 4),
  (yX4_read, cX4_read, (some .int), 4),
  (yX4_readAhead, cX4_readAhead, (some .boolean), 4),
  (yX4_openBracket, cX4_openBracket, none, 4),
  (yX4_readConstant, cX4_readConstant, none, 4),
  (yX4_readUnless, cX4_readUnless, none, 4),
  (yX4_readTestOrChange, cX4_readTestOrChange, none, 4),
  (yX4_readValue, cX4_readValue, none, 4),
  (yX4_readBehind, cX4_readBehind, (some .boolean), 4),
  (yX4_joinWaiting, cX4_joinWaiting, none, 4),
  (yX4_joinOperands, cX4_joinOperands, none, 4),
  (yX4_starOperand, cX4_starOperand, none, 4),
  (yX4_pushOperand, cX4_pushOperand, none, 4),
  (yX4_pushSign, cX4_pushSign, none, 4),
  (yX4_countAtom, cX4_countAtom, none, 4),
  (yX4_fail, cX4_fail, none, 4),
  (yX4_skipBlanks, cX4_skipBlanks, none, 4),
  (yX4_signHere, cX4_signHere, (some .int), 4),
  (yX4_isDigit, cX4_isDigit, (some .boolean), 4),
  (yX4_isLetter, cX4_isLetter, (some .boolean), 4),
  (yX4_digitsHere, cX4_digitsHere, (some .int), 4),
  (yX4_wordHere, cX4_wordHere, (some .int), 4),
  (yX4_fieldHere, cX4_fieldHere, (some .int), 4),
  (yX5_init, cX5_init, none, 5),
  (yX5_findOrder, cX5_findOrder, (some .int), 5),
  (yX5_leadsOn, cX5_leadsOn, (some .boolean), 5),
  (yX5_isSafe, cX5_isSafe, (some .boolean), 5),
  (yX5_isNeither, cX5_isNeither, (some .boolean), 5),
  (yX5_versionIn, cX5_versionIn, (some .int), 5),
  (yX5_watch, cX5_watch, (some .int), 5),
  (yX5_countNeither, cX5_countNeither, (some .int), 5),
  (yX5_findGap, cX5_findGap, (some .int), 5),
  (yX5_settleAll, cX5_settleAll, none, 5),
  (yX5_isQuiet, cX5_isQuiet, (some .boolean), 5),
  (yX5_writtenBy, cX5_writtenBy, (some .int), 5),
  (yX5_goBackTo, cX5_goBackTo, none, 5),
  (yX5_isQuietAhead, cX5_isQuietAhead, (some .boolean), 5),
  (yX6_init, cX6_init, none, 6),
  (yX6_strike, cX6_strike, (some .int), 6),
  (yX6_considerPairs, cX6_considerPairs, none, 6),
  (yX6_consider, cX6_consider, none, 6),
  (yX6_isAmong, cX6_isAmong, (some .boolean), 6),
  (yX6_linesInUse, cX6_linesInUse, (some .long), 6),
  (yX6_keepTrails, cX6_keepTrails, none, 6),
  (yX6_trailOf, cX6_trailOf, (some .long), 6),
  (yX6_countHit, cX6_countHit, (some .int), 6),
  (yX7_init, cX7_init, none, 7),
  (yX7_addRow, cX7_addRow, (some .int), 7),
  (yX7_clear, cX7_clear, none, 7),
  (yX7_takeFrom, cX7_takeFrom, none, 7),
  (yX7_isAlike, cX7_isAlike, (some .boolean), 7),
  (yX7_toldOf, cX7_toldOf, (some .int), 7),
  (yX7_isMatch, cX7_isMatch, (some .boolean), 7),
  (yX7_deedOf, cX7_deedOf, (some .int), 7),
  (yX7_fewestRows, cX7_fewestRows, (some .int), 7),
  (yX7_packetsOf, cX7_packetsOf, (some .long), 7),
  (yX7_alikeBy, cX7_alikeBy, (some .long), 7),
  (yX7_dealAlike, cX7_dealAlike, (some .boolean), 7),
  (yX7_remake, cX7_remake, (some .int), 7),
  (yX7_coverAll, cX7_coverAll, (some .boolean), 7),
  (yX7_howManyTold, cX7_howManyTold, (some .int), 7),
  (yX7_rightRow, cX7_rightRow, (some .int), 7),
  (yX7_isOneFor, cX7_isOneFor, (some .boolean), 7),
  (yX7_staysFor, cX7_staysFor, (some .boolean), 7),
  (yX8_init, cX8_init, none, 8),
  (yX8_putAll, cX8_putAll, (some .int), 8),
  (yX8_putShorter, cX8_putShorter, (some .int), 8),
  (yX8_put, cX8_put, none, 8),
  (yX8_putBare, cX8_putBare, none, 8),
  (yX8_putAtom, cX8_putAtom, none, 8),
  (yX8_putByte, cX8_putByte, none, 8),
  (yX8_bindingOf, cX8_bindingOf, (some .int), 8),
  (yX8_shorten, cX8_shorten, (some .int), 8),
  (yX8_shortStar, cX8_shortStar, (some .int), 8),
  (yX8_shortEither, cX8_shortEither, (some .int), 8),
  (yX8_shortThen, cX8_shortThen, (some .int), 8),
  (yX8_isPlain, cX8_isPlain, (some .boolean), 8),
  (yX8_shortField, cX8_shortField, (some .int), 8),
  (yX9_init, cX9_init, none, 9),
  (yX9_add, cX9_add, (some .int), 9),
  (yX9_findOrAdd, cX9_findOrAdd, (some .int), 9),
  (yX9_copied, cX9_copied, (some (.object "WishWays$Tree")), 9),
  (yX10_init, cX10_init, none, 10),
  (yX10_howMany, cX10_howMany, (some .int), 10),
  (yX10_pick, cX10_pick, (some .int), 10),
  (yX10_kthBit, cX10_kthBit, (some .int), 10),
  (yX10_holds, cX10_holds, (some .boolean), 10),
  (yX10_makesNone, cX10_makesNone, (some .boolean), 10),
  (yX10_makesJust, cX10_makesJust, (some .boolean), 10),
  (yX10_partsBy, cX10_partsBy, (some .int), 10),
  (yX10_isInside, cX10_isInside, (some .boolean), 10),
  (yX11_init, cX11_init, none, 11),
  (yX11_feed, cX11_feed, (some .int), 11),
  (yX11_takeBytes, cX11_takeBytes, none, 11),
  (yX11_end, cX11_end, (some .int), 11),
  (yX11_wish, cX11_wish, (some .int), 11),
  (yX11_makes, cX11_makes, (some .int), 11),
  (yX11_of, cX11_of, (some .int), 11),
  (yX11_parts, cX11_parts, (some .int), 11),
  (yX11_within, cX11_within, (some .int), 11),
  (yX11_right, cX11_right, (some .boolean), 11),
  (yX11_breaks, cX11_breaks, (some .int), 11),
  (yX11_mayTouch, cX11_mayTouch, (some .boolean), 11),
  (yX11_quarrel, cX11_quarrel, (some .int), 11),
  (yX11_rank, cX11_rank, (some .int), 11),
  (yX11_joined, cX11_joined, (some .int), 11),
  (yX11_firstByRank, cX11_firstByRank, (some .int), 11),
  (yX11_row, cX11_row, (some .int), 11),
  (yX11_erase, cX11_erase, (some .int), 11),
  (yX11_renew, cX11_renew, (some .int), 11),
  (yX11_line, cX11_line, (some .boolean), 11),
  (yX11_entries, cX11_entries, (some .int), 11),
  (yX11_ends, cX11_ends, (some .int), 11),
  (yX11_way, cX11_way, (some .int), 11),
  (yX11_shown, cX11_shown, (some .int), 11),
  (yX11_guessed, cX11_guessed, (some .int), 11),
  (yX11_packed, cX11_packed, (some .int), 11),
  (yX11_writes, cX11_writes, (some .int), 11),
  (yX11_written, cX11_written, (some .int), 11),
  (yX11_worst, cX11_worst, (some .int), 11),
  (yX11_falls, cX11_falls, (some .int), 11),
  (yX11_needs, cX11_needs, (some .int), 11),
  (yX11_worth, cX11_worth, (some .int), 11),
  (yX11_kept, cX11_kept, (some .int), 11),
  (yX11_counts, cX11_counts, (some .int), 11),
  (yX11_liars, cX11_liars, (some .int), 11),
  (yX11_tell, cX11_tell, (some .int), 11),
  (yX11_octet, cX11_octet, (some .int), 11),
  (yX11_cable, cX11_cable, (some .int), 11),
  (yX11_edges, cX11_edges, (some .int), 11),
  (yX11_known, cX11_known, (some .int), 11),
  (yX11_taps, cX11_taps, (some .int), 11),
  (yX11_make, cX11_make, (some .int), 11),
  (yX11_rows, cX11_rows, (some .int), 11),
  (yX11_write, cX11_write, (some .int), 11),
  (yX11_seen, cX11_seen, (some .int), 11),
  (yX11_neither, cX11_neither, (some .int), 11),
  (yX11_gap, cX11_gap, (some .int), 11),
  (yX11_count, cX11_count, (some .int), 11),
  (yX11_wishAt, cX11_wishAt, (some (.object "WishWays$Wish")), 11),
  (yX11_upTo, cX11_upTo, (some .boolean), 11),
  (yX11_isPacket, cX11_isPacket, (some .boolean), 11),
  (yX11_isBox, cX11_isBox, (some .boolean), 11),
  (yX11_isTick, cX11_isTick, (some .boolean), 11),
  (yX11_isLine, cX11_isLine, (some .boolean), 11),
  (yX11_hasBit, cX11_hasBit, (some .boolean), 11),
  (yX11_lowestBit, cX11_lowestBit, (some .int), 11),
  (yX11_valueOf, cX11_valueOf, (some .int), 11),
  (yX11_changed, cX11_changed, (some .int), 11),
  (yX12_init, cX12_init, none, 12),
  (yX12_in, cX12_in, (some .boolean), 12),
  (yX12_isPacket, cX12_isPacket, (some .boolean), 12),
  (yX12_isPlace, cX12_isPlace, (some .boolean), 12),
  (yX12_fieldOf, cX12_fieldOf, (some .int), 12),
  (yX12_with, cX12_with, (some .int), 12),
  (yX12_feed, cX12_feed, (some .int), 12),
  (yX12_put, cX12_put, none, 12),
  (yX12_end, cX12_end, (some .int), 12),
  (yX12_fails, cX12_fails, none, 12),
  (yX12_sign, cX12_sign, (some .int), 12),
  (yX12_blanks, cX12_blanks, none, 12),
  (yX12_isDigit, cX12_isDigit, (some .boolean), 12),
  (yX12_isLetter, cX12_isLetter, (some .boolean), 12),
  (yX12_node, cX12_node, none, 12),
  (yX12_join, cX12_join, none, 12),
  (yX12_top, cX12_top, (some .int), 12),
  (yX12_counts, cX12_counts, none, 12),
  (yX12_field, cX12_field, (some .int), 12),
  (yX12_number, cX12_number, (some .int), 12),
  (yX12_atom, cX12_atom, none, 12),
  (yX12_wanted, cX12_wanted, (some .boolean), 12),
  (yX12_makes, cX12_makes, none, 12),
  (yX12_behind, cX12_behind, (some .boolean), 12),
  (yX12_wish, cX12_wish, (some .int), 12),
  (yX12_works, cX12_works, none, 12),
  (yX12_leaf, cX12_leaf, none, 12),
  (yX12_follows, cX12_follows, none, 12),
  (yX12_closes, cX12_closes, none, 12),
  (yX12_isWish, cX12_isWish, (some .boolean), 12),
  (yX12_makesOf, cX12_makesOf, (some .boolean), 12),
  (yX12_kth, cX12_kth, (some .int), 12),
  (yX12_many, cX12_many, (some .int), 12),
  (yX12_makes_, cX12_makes_, (some .int), 12),
  (yX12_of, cX12_of, (some .int), 12),
  (yX12_unlike, cX12_unlike, (some .int), 12),
  (yX12_parts, cX12_parts, (some .int), 12),
  (yX12_within, cX12_within, (some .int), 12),
  (yX12_isHouse, cX12_isHouse, (some .boolean), 12),
  (yX12_right, cX12_right, (some .boolean), 12),
  (yX12_breaks, cX12_breaks, (some .int), 12),
  (yX12_quarrel, cX12_quarrel, (some .int), 12),
  (yX12_rank, cX12_rank, (some .int), 12),
  (yX12_joined, cX12_joined, (some .int), 12),
  (yX12_isTable, cX12_isTable, (some .boolean), 12),
  (yX12_row, cX12_row, (some .int), 12),
  (yX12_erase, cX12_erase, (some .int), 12),
  (yX12_isUnlike, cX12_isUnlike, (some .boolean), 12),
  (yX12_unlikeMany, cX12_unlikeMany, (some .int), 12),
  (yX12_renew, cX12_renew, (some .int), 12),
  (yX12_line, cX12_line, (some .boolean), 12),
  (yX12_entries, cX12_entries, (some .int), 12),
  (yX12_isField, cX12_isField, (some .boolean), 12),
  (yX12_matches, cX12_matches, (some .boolean), 12),
  (yX12_set, cX12_set, (some .int), 12),
  (yX12_rowFor, cX12_rowFor, (some .int), 12),
  (yX12_step, cX12_step, (some .int), 12),
  (yX12_endsAs, cX12_endsAs, (some .int), 12),
  (yX12_ends, cX12_ends, (some .int), 12),
  (yX12_way, cX12_way, (some .int), 12),
  (yX12_enters, cX12_enters, (some .boolean), 12),
  (yX12_isShown, cX12_isShown, (some .boolean), 12),
  (yX12_shownBut, cX12_shownBut, (some .int), 12),
  (yX12_shown, cX12_shown, (some .int), 12),
  (yX12_guessed, cX12_guessed, (some .int), 12),
  (yX12_deal, cX12_deal, (some .int), 12),
  (yX12_packed, cX12_packed, (some .int), 12),
  (yX12_bits, cX12_bits, (some .int), 12),
  (yX12_dealsAlike, cX12_dealsAlike, (some .boolean), 12),
  (yX12_ends_, cX12_ends_, none, 12),
  (yX12_isNeither, cX12_isNeither, (some .boolean), 12),
  (yX12_writes, cX12_writes, (some .int), 12),
  (yX12_written, cX12_written, (some .int), 12),
  (yX12_worst, cX12_worst, (some .int), 12),
  (yX12_placeBehind, cX12_placeBehind, (some .int), 12),
  (yX12_falls, cX12_falls, (some .int), 12),
  (yX12_needs, cX12_needs, (some .int), 12),
  (yX12_worth, cX12_worth, (some .int), 12),
  (yX12_hasRoom, cX12_hasRoom, (some .boolean), 12),
  (yX12_kept, cX12_kept, (some .int), 12),
  (yX12_counts_, cX12_counts_, (some .int), 12),
  (yX12_liars, cX12_liars, (some .int), 12),
  (yX12_alike, cX12_alike, (some .int), 12),
  (yX12_isOfField, cX12_isOfField, (some .boolean), 12),
  (yX12_plus, cX12_plus, (some .int), 12),
  (yX12_then, cX12_then, (some .int), 12),
  (yX12_star, cX12_star, (some .int), 12),
  (yX12_root, cX12_root, (some .int), 12),
  (yX12_later, cX12_later, none, 12),
  (yX12_laterNode, cX12_laterNode, none, 12),
  (yX12_put1, cX12_put1, none, 12),
  (yX12_tells, cX12_tells, none, 12),
  (yX12_tell, cX12_tell, (some .int), 12),
  (yX12_octet, cX12_octet, (some .int), 12),
  (yX12_cable, cX12_cable, (some .int), 12),
  (yX12_edges, cX12_edges, (some .int), 12),
  (yX12_reached, cX12_reached, (some .int), 12),
  (yX12_isKnown, cX12_isKnown, (some .boolean), 12),
  (yX12_isCables, cX12_isCables, (some .boolean), 12),
  (yX12_known, cX12_known, (some .int), 12),
  (yX12_taps, cX12_taps, (some .int), 12),
  (yX12_rightFor, cX12_rightFor, (some .int), 12),
  (yX12_anys, cX12_anys, (some .int), 12),
  (yX12_coverOf, cX12_coverOf, (some .long), 12),
  (yX12_make, cX12_make, (some .int), 12),
  (yX12_rows, cX12_rows, (some .int), 12),
  (yX12_write, cX12_write, (some .int), 12),
  (yX12_asTold, cX12_asTold, none, 12),
  (yX12_seenAs, cX12_seenAs, (some .int), 12),
  (yX12_seen, cX12_seen, (some .int), 12),
  (yX12_endsByTicks, cX12_endsByTicks, none, 12),
  (yX12_neither, cX12_neither, (some .int), 12),
  (yX12_gap, cX12_gap, (some .int), 12),
  (yX12_count, cX12_count, (some .int), 12),
  (yJ6_bitCount_0f7a4, cJ6_bitCount_0f7a4, (some .int), 14),
  (yJ13_bitCount_95d88, cJ13_bitCount_95d88, (some .int), 15),
  (yJ7_fill_d0a16, cJ7_fill_d0a16, none, 16),
  (yJ7_fill_53178, cJ7_fill_53178, none, 16),
  (yL_law, cL_law, (some .boolean), 13)]
def mI (i : Nat) : MethodName × ByteArray × Option FieldType × Nat := mInf.getD i (yL_law, cL_law, none, 13)
def mHd : List (List Nat) := [[0],
  [0, 11],
  [0],
  [0, 4, 35, 41],
  [0, 14, 24, 86, 87, 89, 95, 101],
  [0, 18, 21],
  [0, 11, 49, 55],
  [0],
  [0],
  [0, 12, 49, 50, 75, 95, 101],
  [0, 4, 28, 29, 37],
  [0, 2, 14, 44, 45, 54, 67, 73],
  [0, 4, 28, 29, 37],
  [0, 4, 28, 29, 37],
  [0, 11, 15],
  [0, 6, 34, 40],
  [0, 2, 47, 53],
  [0],
  [0, 7, 27, 39],
  [0, 52, 64, 72, 106],
  [0, 11, 44, 57],
  [0, 9, 52, 75],
  [0, 5, 8, 30, 31, 54, 70, 71, 74, 82, 88],
  [0],
  [0, 2, 24],
  [0, 2, 20, 51, 57, 75],
  [0, 9, 32, 63, 78],
  [0, 7, 40, 46, 48, 67],
  [0, 10, 25, 73, 75, 83, 89],
  [0, 14, 16, 46, 74, 80],
  [0, 2, 20, 26],
  [0, 15, 40],
  [0, 29, 30],
  [0, 4, 33],
  [0, 4, 36, 39, 47],
  [0, 2, 34, 40],
  [0],
  [0, 22, 34, 51, 52],
  [0],
  [0, 49, 79],
  [0, 15, 16],
  [0, 15, 17],
  [0],
  [0, 18, 50, 104, 113],
  [0, 55, 62, 73],
  [0],
  [0, 8, 38, 44],
  [0, 6, 57, 73, 87, 91, 99, 150],
  [0, 2, 38, 48, 50, 56],
  [0],
  [0, 63, 101, 105, 112],
  [0, 17, 32, 45, 49],
  [0, 19],
  [0, 14, 24, 53, 54],
  [0, 42, 78],
  [0, 20, 72, 93, 94],
  [0, 26, 46, 56],
  [0, 27, 39, 61, 115, 127, 138],
  [0, 5, 36, 37, 56, 58, 67],
  [0, 9],
  [0, 38],
  [0, 45],
  [0, 29],
  [0, 25],
  [0, 19],
  [0, 5, 37],
  [0, 23, 24],
  [0, 16, 17],
  [0, 16, 17],
  [0, 10, 40],
  [0, 10, 40],
  [0, 26, 57, 58],
  [0],
  [0, 55],
  [0, 11, 20, 21, 22, 25, 95, 103, 109],
  [0, 19, 50, 56],
  [0, 24, 25],
  [0, 14, 15],
  [0, 5, 52, 61],
  [0, 5, 28, 32, 40, 70, 115, 118, 124, 134, 135],
  [0, 9, 13, 38, 81, 83, 99, 105],
  [0, 2, 17, 57, 76, 80, 102, 104, 111],
  [0, 27, 72, 78],
  [0, 5, 35, 36, 44],
  [0, 2, 52, 56, 91, 92, 99],
  [0, 2, 26, 31, 54, 60],
  [0],
  [0, 15, 32, 73, 82, 88],
  [0, 5, 37, 43],
  [0, 27],
  [0, 14, 15],
  [0, 4, 24, 64, 70, 76],
  [0, 16, 64, 70],
  [0, 8, 38, 70, 80],
  [0, 12, 43, 50, 84, 90],
  [0],
  [0, 11, 44, 99, 105],
  [0],
  [0],
  [0, 13, 15, 68, 70, 76],
  [0, 11, 24, 27],
  [0, 2, 30, 36],
  [0, 14, 19, 54, 60],
  [0, 15, 42, 43, 51, 54, 97, 116, 161, 167],
  [0, 4, 25, 26, 34],
  [0, 6, 50, 56],
  [0, 8, 49, 62, 68, 86, 87],
  [0, 8, 37, 54, 76],
  [0, 7, 16, 43, 44, 57, 64, 94, 103, 109, 115],
  [0, 4, 22, 23, 31],
  [0, 11, 39, 40, 55, 56, 73, 74, 77, 83, 91, 105, 107, 113, 145, 158, 166, 175, 198, 200],
  [0, 5, 44, 47, 53],
  [0, 2, 33, 39],
  [0],
  [0],
  [0],
  [0, 11, 12, 21, 58, 77, 78, 85, 86, 99, 119, 122, 141],
  [0, 54, 100, 118],
  [0, 9, 19, 21, 25, 36, 47, 51, 65, 76, 78],
  [0, 30],
  [0, 10, 20, 21],
  [0, 10, 73, 106, 139, 157, 163, 184, 185],
  [0, 19, 30, 39, 49],
  [0, 17, 19, 35, 46],
  [0, 31, 33, 43, 45, 85, 86, 102, 103, 125, 127],
  [0, 10, 14, 15],
  [0, 25, 26, 48, 58, 59, 74, 82, 83],
  [0],
  [0, 14],
  [0, 3, 48, 54],
  [0, 14, 51],
  [0],
  [0, 4, 33],
  [0, 5, 56, 67],
  [0, 5, 23],
  [0, 30, 31],
  [0],
  [0, 22, 23],
  [0, 2, 51, 57],
  [0, 2, 42, 48],
  [0],
  [0, 12],
  [0, 3, 43, 49],
  [0, 13],
  [0, 17, 19, 49],
  [0, 19, 21, 35, 42],
  [0, 18, 20, 26, 55, 59, 75, 85, 86, 96, 102],
  [0, 32, 35, 38, 72, 82, 98, 99, 100, 106],
  [0, 22, 24, 27, 48, 54],
  [0, 47, 49],
  [0, 13, 15, 44, 50],
  [0, 2, 30, 36],
  [0, 22, 25, 28, 70, 76],
  [0, 17, 19],
  [0, 15, 17, 29, 43, 44, 45, 63, 74],
  [0, 4, 61, 63, 69],
  [0, 45, 47],
  [0, 16],
  [0],
  [0, 25, 26],
  [0, 12],
  [0, 17, 19],
  [0, 27, 28],
  [0, 20, 23],
  [0, 12, 26, 61, 67],
  [0, 18, 22],
  [0],
  [0, 27, 28],
  [0, 23, 24],
  [0, 27, 28],
  [0, 28, 30],
  [0, 12, 36, 37, 38, 54, 56],
  [0, 10, 39, 46],
  [0, 19, 21],
  [0],
  [0, 12, 30, 41],
  [0, 27, 28],
  [0, 20, 21],
  [0, 12],
  [0, 22, 23],
  [0, 22, 23],
  [0, 28, 30],
  [0, 38, 40, 55, 71, 78],
  [0, 19, 22],
  [0, 14, 16],
  [0, 12, 14],
  [0],
  [0, 48, 53, 62, 71, 82, 87, 98, 106, 114],
  [0, 21, 22],
  [0, 13, 14],
  [0],
  [0],
  [0],
  [0, 23, 24],
  [0, 12, 13],
  [0],
  [0],
  [0],
  [0, 456, 500, 502, 521],
  [0, 17, 18],
  [0],
  [0],
  [0, 12, 25, 36, 40],
  [0, 15, 31, 45, 54],
  [0, 15],
  [0, 3, 36],
  [0, 12, 14],
  [0, 19, 23],
  [0, 27, 28],
  [0, 22],
  [0],
  [0],
  [0, 79],
  [0, 42],
  [0, 11, 22],
  [0, 15],
  [0, 5, 41, 68, 107, 108, 119, 123, 125, 139, 140],
  [0, 22, 35, 55, 76, 77, 80, 86],
  [0, 13, 14, 38, 62, 71, 99, 109, 139, 147, 148],
  [0, 36, 79, 94, 114, 129, 135, 149, 150, 157, 181],
  [0, 26],
  [0, 57, 59, 71, 89, 108, 110, 133, 169, 201, 215],
  [0, 21, 23, 65, 94, 98, 102, 106, 126],
  [0, 4, 44, 62, 107, 110, 136, 165, 171, 173, 204],
  [0, 3, 27, 51, 77, 93, 97, 98, 116, 118, 145, 151],
  [0, 2, 24, 45, 48, 70, 108, 141, 153, 159, 162, 192, 198],
  [0, 2, 44, 46, 67, 115, 150, 156, 162],
  [0],
  [0, 36, 37],
  [0, 6, 34, 37, 43],
  [0, 5, 32, 54, 60],
  [0, 15, 17, 31, 39, 46],
  [0, 20, 22, 27, 54, 77, 88, 92, 93, 101],
  [0, 3, 56],
  [0, 28, 31, 34, 66, 93, 102, 112, 128, 129, 130, 136],
  [0, 16, 18, 23, 75, 76, 83, 91, 92],
  [0],
  [0, 57, 59],
  [0, 11, 20, 98, 104],
  [0, 16, 19, 21, 60, 66],
  [0, 19, 21],
  [0, 19, 21, 26, 66, 70, 71, 93, 94, 101, 107, 121, 125, 139, 146],
  [0, 21, 22],
  [0, 62, 64],
  [0, 10],
  [0, 22, 23, 26, 114, 115, 122, 130, 131],
  [0, 4, 23, 24, 32],
  [0, 7, 30, 101, 107],
  [0, 34, 36, 61, 62],
  [0, 14],
  [0, 11, 15, 16],
  [0, 49, 50],
  [0, 21, 22, 46, 47, 67, 68],
  [0, 2, 36, 55, 56],
  [0, 37, 39, 110, 129, 130, 135],
  [0, 17, 33, 89, 102, 133, 135, 136],
  [0, 19, 21, 39, 68],
  [0, 25, 26],
  [0, 19, 20],
  [0, 26, 30, 55, 56],
  [0, 2, 29, 35],
  [0, 29, 31],
  [0, 14, 18, 43, 44, 52],
  [0, 16, 20, 40],
  [0, 10, 28, 75, 117, 118, 126, 132, 147, 189, 195],
  [0, 4, 20],
  [0, 6, 32, 56, 66, 73, 97, 98, 106],
  [0, 2, 41],
  [0, 24, 25],
  [0, 8, 29, 30, 38, 40, 64, 65, 68, 111, 115, 116, 123, 129, 133, 160, 161, 164, 225, 229, 230, 237, 243, 255, 262, 269, 299, 305, 334],
  [0, 25, 26],
  [0, 14, 18, 30, 69, 73, 74, 82, 116, 122, 129, 131, 165, 212, 218, 223, 239, 243, 245, 259, 260, 290, 319, 320, 329, 364, 370, 376],
  [0],
  [0, 25, 26],
  [0, 27, 29],
  [0, 25, 32, 44, 46, 59, 65, 81, 88],
  [0, 4, 16, 52, 53, 62, 81, 82, 89],
  [0, 12, 19, 36, 68, 69, 78, 102, 117, 123, 131, 132],
  [0, 32, 34, 56, 63, 81, 90],
  [0, 8, 17, 70, 74, 75, 82, 101, 102, 109],
  [0, 3, 45, 51, 94],
  [0, 14, 15],
  [0, 18, 20, 37, 45],
  [0, 13, 32, 34, 53, 55, 73, 91, 110, 111, 127, 146, 147, 167, 174, 175, 186, 195, 203],
  [0, 23, 31, 49, 56],
  [0, 7, 79, 118, 144, 164, 171],
  [0],
  [0, 11, 27],
  [0],
  [0, 19, 64, 68, 69, 87, 89, 118, 119, 125, 168, 172, 173, 179, 188, 198, 200, 206, 217, 233, 242, 261, 272, 274, 290],
  [0, 10, 32, 81, 87, 90],
  [0, 25, 26],
  [0, 28, 30],
  [0, 14],
  [0, 7, 33, 34, 39, 87, 88, 118, 119, 127, 130],
  [0, 11, 57, 58],
  [0, 17, 18],
  [0, 10, 14, 38, 39, 47],
  [0, 10, 12, 22, 44, 45, 50, 83, 87, 88, 96, 103, 109, 115],
  [0, 32, 81, 82, 107, 108, 134, 135, 161, 162, 188, 189, 214, 215, 240, 241, 266, 267, 269, 275, 283, 305, 315, 325, 327, 336, 346, 355, 364, 374, 381, 402, 406],
  [0, 11, 12, 24, 25, 36, 37],
  [0, 4, 25, 26, 34],
  [0, 16, 18, 21, 47, 73, 84, 92, 124, 125, 141, 148, 196, 210, 216, 222, 232, 243, 316],
  [0, 31, 33, 61, 77, 93, 94],
  [0, 21, 24],
  [0, 2, 26],
  [0, 5, 29, 32, 67, 68, 81, 82, 109, 111, 112, 118],
  [0, 19, 21],
  [0, 4, 27, 28, 36, 38, 75],
  [0, 14, 27, 68, 71, 77, 86, 87],
  [0, 10, 12, 20, 39, 41, 69, 77, 94, 131, 135, 136, 143, 149, 155, 161],
  [0, 48, 53, 55, 83, 85, 90, 95, 100, 105, 110],
  [0],
  [0],
  [0, 6, 22],
  [0, 5, 20],
  [0, 18, 224, 287, 310, 333, 376, 409, 452, 485, 548, 571, 604, 637, 670, 733, 766, 779, 802, 803, 829, 830, 838, 861, 894, 917, 950, 973, 1006, 1019, 1042, 1065, 1088, 1131, 1174, 1197, 1220, 1221, 1252, 1253, 1266, 1279, 1297, 1298, 1319, 1320, 1328, 1351, 1384, 1407, 1430, 1453, 1496, 1549, 1582, 1615, 1648, 1661, 1684, 1690]]
def tFL : List (Nat × Nat × Nat × Nat) := [(0, 11, 0, 0), (0, 15, 0, 1), (0, 18, 0, 2), (0, 36, 0, 3), (1, 9, 1, 0), (1, 15, 1, 3), (1, 18, 1, 4), (1, 21, 1, 1), (1, 25, 1, 2), (1, 52, 10, 4), (1, 57, 10, 3), (2, 13, 2, 0), (2, 16, 2, 1), (2, 20, 2, 2), (2, 24, 9, 3), (2, 37, 9, 0), (2, 41, 9, 1), (2, 52, 9, 2), (3, 11, 3, 0), (3, 18, 3, 2), (3, 22, 3, 3), (3, 26, 3, 5), (3, 30, 3, 6), (3, 41, 7, 3), (3, 55, 3, 1), (3, 65, 7, 5), (3, 74, 3, 4), (3, 95, 7, 4), (4, 14, 4, 0), (4, 20, 4, 1), (4, 24, 4, 2), (4, 27, 4, 3), (4, 36, 4, 4), (4, 40, 4, 5), (4, 43, 9, 3), (4, 46, 4, 6), (4, 49, 4, 7), (4, 52, 4, 8), (4, 55, 4, 9), (4, 58, 4, 10), (4, 61, 4, 11), (5, 9, 5, 0), (5, 15, 5, 1), (5, 25, 5, 2), (5, 28, 5, 3), (5, 32, 5, 4), (5, 35, 5, 5), (5, 38, 5, 6), (5, 41, 5, 7), (5, 44, 5, 8), (5, 47, 5, 9), (5, 50, 5, 10), (5, 87, 3, 6), (6, 9, 6, 0), (6, 15, 6, 1), (6, 19, 6, 4), (6, 23, 6, 6), (6, 39, 6, 3), (6, 43, 6, 2), (6, 62, 3, 0), (6, 68, 7, 3), (6, 73, 7, 2), (6, 84, 3, 1), (6, 94, 6, 5), (7, 9, 7, 0), (7, 15, 7, 1), (7, 18, 7, 2), (7, 21, 7, 4), (7, 24, 7, 5), (7, 33, 7, 3), (8, 9, 8, 0), (8, 20, 8, 2), (8, 24, 8, 3), (8, 27, 8, 1), (8, 31, 9, 3), (8, 42, 9, 0), (8, 45, 9, 1), (8, 59, 9, 2), (9, 13, 9, 0), (9, 19, 9, 1), (9, 22, 9, 2), (9, 25, 9, 3), (10, 9, 10, 0), (10, 15, 10, 1), (10, 19, 10, 2), (10, 23, 10, 3), (11, 9, 11, 0), (11, 15, 11, 2), (11, 19, 11, 4), (11, 22, 11, 5), (11, 28, 11, 6), (11, 35, 11, 7), (11, 42, 11, 8), (11, 49, 11, 9), (11, 58, 11, 10), (11, 65, 11, 11), (11, 72, 11, 12), (11, 79, 11, 13), (11, 89, 11, 1), (11, 101, 11, 3), (11, 108, 4, 0), (11, 158, 10, 0), (11, 183, 7, 3), (11, 208, 3, 2), (11, 214, 3, 4), (11, 217, 3, 3), (11, 234, 5, 3), (11, 237, 5, 2), (11, 243, 6, 2), (11, 246, 6, 1), (11, 252, 10, 3), (11, 258, 10, 4), (11, 265, 1, 1), (11, 268, 1, 2), (11, 279, 10, 1), (11, 287, 8, 1), (11, 290, 8, 0), (11, 296, 0, 3), (11, 311, 7, 0), (11, 314, 7, 1), (11, 317, 7, 2), (11, 323, 5, 1), (11, 338, 3, 1), (11, 347, 0, 2), (12, 9, 12, 9), (12, 13, 12, 10), (12, 17, 12, 11), (12, 20, 12, 12), (12, 23, 12, 13), (12, 26, 12, 14), (12, 29, 12, 15), (12, 32, 12, 16), (12, 36, 12, 19), (12, 41, 12, 20), (12, 44, 12, 21), (12, 47, 12, 22), (12, 50, 12, 23), (12, 53, 12, 24), (12, 56, 12, 25), (12, 59, 12, 26), (12, 62, 12, 27), (12, 65, 12, 28), (12, 68, 12, 29), (12, 71, 12, 30), (12, 74, 12, 31), (12, 77, 12, 32), (12, 81, 12, 35), (12, 84, 12, 36), (12, 87, 12, 42), (12, 90, 12, 43), (12, 93, 12, 44), (12, 96, 12, 45), (12, 99, 12, 46), (12, 102, 12, 47), (12, 105, 12, 48), (12, 108, 12, 49), (12, 111, 12, 50), (12, 114, 12, 52), (12, 117, 12, 53), (12, 120, 12, 55), (12, 123, 12, 56), (12, 126, 12, 57), (12, 129, 12, 58), (12, 132, 12, 59), (12, 135, 12, 60), (12, 138, 12, 61), (12, 141, 12, 62), (12, 144, 12, 63), (12, 147, 12, 65), (12, 150, 12, 66), (12, 153, 12, 71), (12, 156, 12, 72), (12, 159, 12, 73), (12, 162, 12, 74), (12, 165, 12, 75), (12, 168, 12, 76), (12, 171, 12, 77), (12, 174, 12, 78), (12, 177, 12, 33), (12, 181, 12, 51), (12, 184, 12, 54), (12, 187, 12, 37), (12, 201, 12, 1), (12, 208, 12, 3), (12, 211, 12, 2), (12, 226, 12, 4), (12, 229, 12, 5), (12, 232, 12, 17), (12, 239, 12, 8), (12, 242, 12, 6), (12, 266, 12, 7), (12, 284, 12, 18), (12, 365, 12, 34), (12, 377, 12, 40), (12, 380, 12, 41), (12, 386, 12, 39), (12, 389, 12, 38), (12, 434, 12, 64), (12, 454, 12, 68), (12, 460, 12, 67), (12, 476, 12, 69), (12, 479, 12, 70)]
def tFL_w : List Cond := tFL.map (fun t => .fieldLink (cnm t.1) t.2.1 (fTb t.2.2.1 t.2.2.2).1 (fTb t.2.2.1 t.2.2.2).2.1 (fTb t.2.2.1 t.2.2.2).2.2.1)
set_option maxRecDepth 100000 in
theorem tFL_in : GoodIn lw_tbl tFL_w := goodIn_r _ [386, 387, 388, 390, 362, 367, 368, 363, 365, 653, 651, 175, 176, 177, 117, 107, 110, 113, 253, 258, 260, 264, 265, 233, 256, 239, 262, 237, 129, 131, 132, 133, 134, 135, 118, 136, 137, 138, 139, 140, 141, 289, 290, 292, 294, 296, 297, 298, 299, 300, 301, 302, 266, 332, 333, 338, 340, 337, 335, 254, 234, 230, 255, 339, 225, 227, 229, 236, 238, 232, 194, 198, 199, 196, 116, 108, 111, 114, 106, 109, 112, 115, 645, 647, 649, 650, 402, 404, 406, 407, 408, 409, 410, 411, 412, 413, 414, 415, 403, 405, 130, 646, 235, 259, 263, 261, 295, 293, 336, 334, 652, 654, 364, 366, 648, 197, 195, 391, 226, 228, 231, 291, 257, 389, 1277, 1278, 1279, 1280, 1281, 1282, 1283, 1284, 1287, 1288, 1289, 1290, 1291, 1292, 1293, 1294, 1295, 1296, 1297, 1298, 1299, 1300, 1303, 1304, 1310, 1311, 1312, 1313, 1314, 1315, 1316, 1317, 1318, 1320, 1321, 1323, 1324, 1325, 1326, 1327, 1328, 1329, 1330, 1331, 1333, 1334, 1339, 1340, 1341, 1342, 1343, 1344, 1345, 1346, 1301, 1319, 1322, 1305, 1269, 1271, 1270, 1272, 1273, 1285, 1276, 1274, 1275, 1286, 1302, 1308, 1309, 1307, 1306, 1332, 1336, 1335, 1337, 1338] (by decide +kernel) (by decide +kernel)
def tML : List (Nat × Nat × Nat) := [(0, 29, 4), (0, 32, 5), (0, 39, 3), (1, 34, 10), (1, 38, 312), (1, 44, 11), (1, 60, 16), (2, 29, 19), (2, 33, 20), (2, 44, 27), (2, 48, 21), (2, 55, 22), (2, 59, 314), (2, 65, 25), (2, 69, 24), (2, 80, 23), (2, 84, 26), (2, 94, 313), (2, 103, 28), (2, 106, 29), (2, 112, 30), (3, 17, 95), (3, 44, 99), (3, 51, 98), (3, 59, 36), (3, 68, 314), (3, 77, 42), (3, 81, 44), (3, 85, 39), (3, 88, 40), (3, 91, 41), (3, 98, 46), (3, 102, 315), (3, 105, 38), (3, 108, 47), (3, 112, 136), (3, 117, 137), (4, 11, 127), (4, 65, 65), (4, 68, 51), (4, 72, 57), (4, 75, 66), (4, 79, 52), (4, 82, 67), (4, 86, 53), (4, 89, 54), (4, 92, 55), (4, 95, 64), (4, 99, 62), (4, 102, 69), (4, 105, 63), (4, 108, 61), (4, 112, 71), (4, 115, 70), (4, 118, 56), (4, 124, 60), (4, 127, 58), (4, 133, 59), (4, 136, 128), (4, 140, 68), (5, 19, 315), (5, 53, 34), (5, 59, 46), (5, 63, 74), (5, 67, 312), (5, 83, 75), (5, 90, 38), (5, 93, 76), (5, 96, 77), (5, 100, 39), (5, 103, 40), (5, 106, 41), (5, 109, 78), (5, 112, 81), (5, 116, 85), (5, 120, 82), (5, 123, 42), (5, 126, 83), (5, 129, 84), (6, 26, 91), (6, 30, 313), (6, 36, 92), (6, 46, 90), (6, 50, 94), (6, 54, 89), (6, 58, 88), (6, 80, 36), (6, 90, 45), (6, 97, 38), (6, 101, 93), (6, 105, 39), (6, 109, 40), (6, 112, 315), (7, 27, 315), (7, 37, 101), (7, 41, 102), (7, 51, 100), (7, 61, 104), (7, 65, 105), (7, 69, 312), (7, 75, 106), (7, 84, 132), (7, 89, 133), (7, 92, 95), (7, 93, 108), (7, 97, 98), (7, 101, 109), (7, 104, 110), (7, 108, 96), (7, 111, 111), (7, 115, 112), (8, 17, 127), (8, 34, 116), (8, 38, 121), (8, 48, 120), (8, 52, 119), (8, 55, 117), (8, 62, 118), (8, 66, 122), (8, 69, 123), (8, 73, 124), (8, 76, 129), (8, 80, 125), (8, 84, 126), (9, 29, 128), (9, 33, 127), (10, 27, 313), (10, 33, 134), (10, 40, 30), (10, 46, 135), (10, 50, 132), (11, 27, 49), (11, 34, 17), (11, 41, 113), (11, 48, 31), (11, 55, 72), (11, 64, 86), (11, 71, 7), (11, 78, 0), (11, 83, 315), (11, 93, 142), (11, 97, 189), (11, 104, 50), (11, 112, 130), (11, 118, 18), (11, 122, 131), (11, 125, 188), (11, 129, 190), (11, 133, 132), (11, 137, 133), (11, 141, 137), (11, 144, 138), (11, 148, 135), (11, 151, 139), (11, 155, 136), (11, 161, 151), (11, 164, 196), (11, 167, 194), (11, 170, 155), (11, 173, 32), (11, 177, 96), (11, 186, 97), (11, 189, 34), (11, 193, 35), (11, 196, 312), (11, 201, 193), (11, 204, 37), (11, 211, 43), (11, 220, 45), (11, 224, 48), (11, 228, 103), (11, 231, 73), (11, 240, 87), (11, 249, 191), (11, 255, 8), (11, 261, 9), (11, 272, 14), (11, 276, 15), (11, 280, 115), (11, 284, 114), (11, 293, 1), (11, 299, 2), (11, 302, 3), (11, 305, 6), (11, 308, 107), (11, 320, 192), (11, 326, 78), (11, 329, 79), (11, 332, 80), (11, 335, 33), (11, 342, 313), (12, 195, 199), (12, 204, 205), (12, 214, 208), (12, 235, 212), (12, 245, 207), (12, 249, 209), (12, 252, 210), (12, 256, 215), (12, 259, 216), (12, 262, 217), (12, 269, 211), (12, 272, 218), (12, 275, 214), (12, 278, 213), (12, 281, 220), (12, 290, 219), (12, 293, 221), (12, 296, 223), (12, 299, 226), (12, 302, 225), (12, 305, 224), (12, 309, 202), (12, 313, 203), (12, 317, 228), (12, 321, 227), (12, 325, 200), (12, 328, 230), (12, 331, 229), (12, 336, 233), (12, 341, 236), (12, 350, 201), (12, 353, 242), (12, 359, 245), (12, 362, 246), (12, 368, 250), (12, 371, 251), (12, 374, 253), (12, 383, 252), (12, 392, 254), (12, 395, 255), (12, 398, 258), (12, 401, 259), (12, 404, 260), (12, 407, 263), (12, 410, 265), (12, 413, 266), (12, 416, 267), (12, 419, 268), (12, 422, 272), (12, 429, 276), (12, 437, 280), (12, 440, 281), (12, 443, 282), (12, 447, 283), (12, 450, 284), (12, 457, 286), (12, 463, 287), (12, 467, 288), (12, 470, 285), (12, 473, 289), (12, 482, 294), (12, 485, 296), (12, 488, 295), (12, 491, 300), (12, 494, 301), (12, 498, 299), (12, 501, 305), (12, 504, 306), (12, 507, 308), (13, 9, 140), (13, 12, 198), (13, 13, 141), (13, 17, 204), (13, 18, 143), (13, 22, 206), (13, 23, 144), (13, 26, 222), (13, 27, 145), (13, 31, 231), (13, 32, 146), (13, 36, 232), (13, 37, 147), (13, 40, 234), (13, 41, 148), (13, 44, 235), (13, 45, 149), (13, 49, 237), (13, 50, 150), (13, 53, 238), (13, 54, 152), (13, 57, 239), (13, 58, 153), (13, 61, 240), (13, 62, 154), (13, 65, 241), (13, 66, 156), (13, 69, 243), (13, 70, 157), (13, 73, 244), (13, 74, 158), (13, 78, 247), (13, 79, 159), (13, 83, 248), (13, 84, 160), (13, 87, 249), (13, 88, 161), (13, 91, 256), (13, 92, 162), (13, 95, 257), (13, 96, 163), (13, 99, 261), (13, 100, 164), (13, 103, 262), (13, 104, 165), (13, 107, 264), (13, 108, 166), (13, 111, 269), (13, 112, 167), (13, 115, 270), (13, 116, 168), (13, 119, 271), (13, 120, 169), (13, 123, 273), (13, 124, 170), (13, 127, 274), (13, 128, 171), (13, 131, 275), (13, 132, 172), (13, 135, 277), (13, 136, 173), (13, 140, 278), (13, 141, 174), (13, 144, 279), (13, 145, 175), (13, 149, 290), (13, 150, 176), (13, 153, 291), (13, 154, 177), (13, 157, 292), (13, 158, 178), (13, 161, 293), (13, 162, 179), (13, 165, 297), (13, 166, 180), (13, 169, 298), (13, 170, 181), (13, 173, 302), (13, 174, 182), (13, 178, 303), (13, 179, 183), (13, 182, 304), (13, 183, 184), (13, 186, 307), (13, 187, 185), (13, 190, 309), (13, 191, 186), (13, 194, 310), (13, 195, 187), (13, 198, 311)]
def tML_w : List Cond := tML.map (fun t => .methodLink (cnm t.1) t.2.1 (mI t.2.2).1)
set_option maxRecDepth 100000 in
theorem tML_in : GoodIn lw_tbl tML_w := goodIn_r _ [1142, 1146, 1158, 1024, 1028, 1029, 1050, 572, 625, 576, 597, 629, 584, 601, 622, 594, 605, 609, 580, 588, 591, 218, 802, 811, 834, 850, 851, 854, 858, 862, 865, 880, 884, 885, 889, 897, 898, 99, 471, 475, 543, 479, 483, 495, 498, 518, 539, 487, 491, 502, 506, 510, 522, 526, 533, 547, 551, 555, 514, 530, 288, 933, 934, 935, 948, 939, 943, 944, 1208, 1211, 1212, 1213, 1222, 1231, 1236, 1240, 1235, 1244, 1248, 962, 969, 970, 982, 985, 991, 995, 967, 974, 975, 976, 980, 981, 989, 222, 774, 781, 777, 911, 914, 918, 919, 1167, 1168, 1170, 1171, 1188, 1175, 1178, 1187, 1181, 1184, 193, 1089, 1062, 1093, 1096, 1100, 1104, 1066, 1074, 1078, 1070, 1082, 1085, 566, 565, 681, 686, 733, 698, 702, 93, 169, 188, 211, 284, 328, 358, 382, 401, 449, 457, 464, 560, 568, 641, 670, 674, 677, 682, 694, 707, 711, 716, 729, 734, 738, 739, 754, 762, 770, 790, 798, 806, 816, 826, 830, 846, 876, 893, 907, 929, 958, 829, 1011, 1019, 1038, 1046, 1058, 1108, 1120, 1132, 1137, 1154, 1163, 1197, 1204, 1218, 1227, 1257, 618, 1525, 1512, 1536, 1554, 1540, 1532, 1544, 1550, 1568, 1572, 1558, 1564, 1584, 1588, 1580, 1528, 1576, 1592, 1596, 1600, 1604, 1608, 1611, 1634, 1618, 1622, 1626, 1630, 1647, 1660, 1689, 1686, 1706, 1702, 1737, 1734, 1730, 1740, 1726, 1722, 1755, 1759, 1751, 1771, 1775, 1778, 1786, 1790, 1802, 1824, 1849, 1857, 1845, 1853, 1861, 1865, 1877, 1869, 1841, 1873, 1905, 1897, 1901, 1917, 1920, 1923, 1939, 1943, 1951, 83, 1263, 445, 1508, 453, 1516, 460, 1520, 666, 1614, 690, 1638, 703, 1643, 712, 1651, 721, 1656, 725, 1665, 742, 1669, 746, 1673, 750, 1678, 758, 1682, 786, 1694, 794, 1698, 822, 1710, 838, 1714, 842, 1718, 868, 1743, 872, 1747, 899, 1763, 903, 1767, 925, 1782, 950, 1794, 954, 1798, 999, 1806, 1003, 1810, 1007, 1815, 1015, 1820, 1033, 1828, 1042, 1833, 1054, 1837, 1112, 1881, 1116, 1885, 1124, 1889, 1128, 1893, 1150, 1909, 1159, 1913, 1189, 1927, 1193, 1931, 1200, 1935, 1214, 1947, 1223, 1955, 1253, 1959] (by decide +kernel) (by decide +kernel)
def tMN : List (Nat × Nat × Nat) := [(0, 22, 189), (0, 26, 194), (1, 48, 194), (2, 72, 196), (2, 76, 197), (2, 100, 195), (3, 33, 189), (3, 37, 191), (3, 48, 194), (5, 79, 194), (6, 76, 193), (6, 118, 195), (7, 54, 196), (7, 57, 197), (7, 81, 194), (10, 37, 195)]
def tMN_w : List Cond := tMN.map (fun t => .methodLinkNest (cnm t.1) t.2.1 (mI t.2.2).1 "WishWays")
set_option maxRecDepth 100000 in
theorem tMN_in : ∀ w ∈ tMN_w, w ∈ lw_tbl := mem_r _ [1136, 1141, 1027, 632, 638, 615, 766, 767, 810, 938, 966, 990, 780, 785, 924, 689] (by decide +kernel)
def tCL : List (Nat × Nat × Nat) := [(3, 9, 7), (4, 9, 9), (7, 10, 7), (8, 15, 9), (9, 14, 9), (11, 13, 10), (11, 25, 4), (11, 32, 2), (11, 39, 8), (11, 46, 3), (11, 53, 5), (11, 62, 6), (11, 69, 1), (11, 76, 0), (13, 7, 11), (13, 10, 12)]
def tCL_w : List Cond := tCL.map (fun t => .classLink (cnm t.1) t.2.1 (cnm t.2.2))
set_option maxRecDepth 100000 in
theorem tCL_in : GoodIn lw_tbl tCL_w := goodIn_r _ [215, 97, 1169, 192, 564, 89, 91, 167, 186, 209, 282, 326, 356, 380, 81, 1261] (by decide +kernel) (by decide +kernel)
def tNA : List (Nat × Nat × Nat) := [(3, 9, 7), (11, 13, 10)]
def tNA_w : List Cond := tNA.map (fun t => .classLink (cnm t.1) t.2.1 (cnm t.2.2))
set_option maxRecDepth 100000 in
theorem tNA_in : GoodIn lw_tbl tNA_w := goodIn_r _ [215, 89] (by decide +kernel) (by decide +kernel)
def tKI : List (Nat × Nat × Int) := [(11, 271, 999999), (12, 35, 114688), (12, 40, 49152), (14, 265, 1431655765), (14, 266, 858993459), (14, 267, 252645135)]
def tKI_w : List Cond := tKI.map (fun t => .constant (cnm t.1) t.2.1 (Int32.ofInt t.2.2))
set_option maxRecDepth 100000 in
theorem tKI_in : GoodIn lw_tbl tKI_w := goodIn_r _ [1037, 1267, 1268, 819, 820, 821] (by decide +kernel) (by decide +kernel)
def tKL : List (Nat × Nat × Int) := [(2, 110, (-1)), (3, 63, (-1)), (6, 88, (-1)), (7, 79, (-1)), (10, 54, (-1)), (12, 193, 511), (12, 199, 7), (12, 218, 48), (12, 220, 57), (12, 222, 97), (12, 224, 122), (12, 288, 3), (12, 334, 2), (12, 339, (-1)), (12, 344, 255), (12, 346, 15), (12, 348, 9), (12, 357, 124), (12, 425, 99), (12, 427, 999), (12, 432, 999999), (15, 314, 6148914691236517205), (15, 316, 3689348814741910323), (15, 318, 1085102592571150095)]
def tKL_w : List Cond := tKL.map (fun t => .constantLong (cnm t.1) t.2.1 (Int64.ofBitVec (BitVec.ofInt 64 t.2.2)))
set_option maxRecDepth 100000 in
theorem tKL_in : GoodIn lw_tbl tKL_w := goodIn_r _ [587, 837, 968, 923, 720, 1625, 1692, 1548, 1549, 1562, 1563, 1524, 1642, 1655, 1663, 1664, 1677, 1693, 1814, 1819, 1832, 612, 613, 614] (by decide +kernel) (by decide +kernel)
def tOI : List (Nat × Nat) := [(0, 3), (1, 3), (2, 3), (3, 3), (4, 3), (5, 3), (6, 3), (7, 3), (8, 3), (9, 1), (10, 3), (11, 1), (12, 1)]
def tOI_w : List Cond := tOI.map (fun t => .methodLink (cnm t.1) t.2 objectInit)
set_option maxRecDepth 100000 in
theorem tOI_in : GoodIn lw_tbl tOI_w := goodIn_r _ [385, 361, 172, 214, 96, 287, 331, 221, 191, 102, 644, 86, 1266] (by decide +kernel) (by decide +kernel)
def tAC : List (Nat × Nat) := [(2, 88), (5, 73), (7, 45)]
def tAC_w : List Cond := tAC.map (fun t => .methodLink (cnm t.1) t.2 arraycopyName)
set_option maxRecDepth 100000 in
theorem tAC_in : GoodIn lw_tbl tAC_w := goodIn_r _ [619, 949, 815] (by decide +kernel) (by decide +kernel)
def tMx : List (Nat × Nat) := [(4, 130), (9, 7)]
def tMx_w : List Cond := tMx.map (fun t => .methodLink (cnm t.1) t.2 Lib.Math.max.name)
set_option maxRecDepth 100000 in
theorem tMx_in : GoodIn lw_tbl tMx_w := goodIn_r _ [559, 103] (by decide +kernel) (by decide +kernel)
def tMi : List (Nat × Nat) := [(1, 28), (4, 30), (5, 132)]
def tMi_w : List Cond := tMi.map (fun t => .methodLink (cnm t.1) t.2 Lib.Math.min.name)
set_option maxRecDepth 100000 in
theorem tMi_in : GoodIn lw_tbl tMi_w := goodIn_r _ [1023, 468, 1252] (by decide +kernel) (by decide +kernel)
def tCd0 : List Nat := [0, 1, 2, 3, 4, 5, 6, 7, 8, 9, 10, 11, 12, 13, 14, 15, 16, 17, 18, 19]
set_option maxRecDepth 100000 in
theorem tCd0_in : GoodIn lw_tbl (tCd0.map (fun i => .code (mI i).1 (mI i).2.1 (mt i).1 (mI i).2.2.1)) := goodIn_r _ [384, 1123, 1135, 1140, 1145, 1149, 1157, 360, 1014, 1022, 1026, 1032, 1026, 1026, 1041, 1049, 1053, 171, 571, 575] rfl rfl
def tCd1 : List Nat := [20, 21, 22, 23, 24, 25, 26, 27, 28, 29, 30, 31, 32, 33, 34, 35, 36, 37, 38, 39]
set_option maxRecDepth 100000 in
theorem tCd1_in : GoodIn lw_tbl (tCd1.map (fun i => .code (mI i).1 (mI i).2.1 (mt i).1 (mI i).2.2.1)) := goodIn_r _ [628, 600, 631, 596, 624, 604, 608, 579, 583, 590, 593, 213, 765, 1260, 801, 809, 836, 833, 888, 861] rfl rfl
def tCd2 : List Nat := [40, 41, 42, 43, 44, 45, 46, 47, 48, 49, 50, 51, 52, 53, 54, 55, 56, 57, 58, 59]
set_option maxRecDepth 100000 in
theorem tCd2_in : GoodIn lw_tbl (tCd2.map (fun i => .code (mI i).1 (mI i).2.1 (mt i).1 (mI i).2.2.1)) := goodIn_r _ [864, 867, 853, 849, 857, 879, 883, 892, 896, 95, 467, 478, 486, 501, 521, 542, 536, 546, 554, 558] rfl rfl
def tCd3 : List Nat := [60, 61, 62, 63, 64, 65, 66, 67, 68, 69, 70, 71, 72, 73, 74, 75, 76, 77, 78, 79]
set_option maxRecDepth 100000 in
theorem tCd3_in : GoodIn lw_tbl (tCd3.map (fun i => .code (mI i).1 (mI i).2.1 (mt i).1 (mI i).2.2.1)) := goodIn_r _ [550, 513, 494, 509, 490, 474, 482, 497, 532, 505, 529, 525, 286, 932, 937, 942, 947, 1210, 1207, 1221] rfl rfl
def tCd4 : List Nat := [80, 81, 82, 83, 84, 85, 86, 87, 88, 89, 90, 91, 92, 93, 94, 95, 96, 97, 98, 99]
set_option maxRecDepth 100000 in
theorem tCd4_in : GoodIn lw_tbl (tCd4.map (fun i => .code (mI i).1 (mI i).2.1 (mt i).1 (mI i).2.2.1)) := goodIn_r _ [1230, 1234, 1243, 1247, 1251, 1239, 330, 961, 998, 994, 984, 965, 973, 979, 988, 220, 773, 793, 814, 805] rfl rfl
def tCd5 : List Nat := [100, 101, 102, 103, 104, 105, 106, 107, 108, 109, 110, 111, 112, 113, 114, 115, 116, 117, 118, 119]
set_option maxRecDepth 100000 in
theorem tCd5_in : GoodIn lw_tbl (tCd5.map (fun i => .code (mI i).1 (mI i).2.1 (mt i).1 (mI i).2.2.1)) := goodIn_r _ [779, 776, 784, 910, 913, 917, 922, 1166, 1174, 1177, 1180, 1183, 1186, 190, 1111, 1061, 1092, 1103, 1107, 1099] rfl rfl
def tCd6 : List Nat := [120, 121, 122, 123, 124, 125, 126, 127, 128, 129, 130, 131, 132, 133, 134, 135, 136, 137, 138, 139]
set_option maxRecDepth 100000 in
theorem tCd6_in : GoodIn lw_tbl (tCd6.map (fun i => .code (mI i).1 (mI i).2.1 (mt i).1 (mI i).2.2.1)) := goodIn_r _ [1095, 1065, 1069, 1077, 1081, 1084, 1088, 101, 517, 1073, 563, 643, 680, 685, 688, 701, 732, 697, 710, 719] rfl rfl
def tCd7 : List Nat := [140, 141, 142, 143, 144, 145, 146, 147, 148, 149, 150, 151, 152, 153, 154, 155, 156, 157, 158, 159]
set_option maxRecDepth 100000 in
theorem tCd7_in : GoodIn lw_tbl (tCd7.map (fun i => .code (mI i).1 (mI i).2.1 (mt i).1 (mI i).2.2.1)) := goodIn_r _ [85, 448, 452, 456, 463, 669, 693, 706, 715, 724, 728, 737, 745, 749, 753, 757, 761, 789, 797, 825] rfl rfl
def tCd8 : List Nat := [160, 161, 162, 163, 164, 165, 166, 167, 168, 169, 170, 171, 172, 173, 174, 175, 176, 177, 178, 179]
set_option maxRecDepth 100000 in
theorem tCd8_in : GoodIn lw_tbl (tCd8.map (fun i => .code (mI i).1 (mI i).2.1 (mt i).1 (mI i).2.2.1)) := goodIn_r _ [841, 845, 871, 875, 902, 906, 928, 953, 957, 1002, 1006, 1010, 1018, 1036, 1045, 1057, 1115, 1119, 1127, 1131] rfl rfl
def tCd9 : List Nat := [180, 181, 182, 183, 184, 185, 186, 187, 188, 189, 190, 191, 192, 193, 194, 195, 196, 197, 198, 199]
set_option maxRecDepth 100000 in
theorem tCd9_in : GoodIn lw_tbl (tCd9.map (fun i => .code (mI i).1 (mI i).2.1 (mt i).1 (mI i).2.2.1)) := goodIn_r _ [1153, 1162, 1192, 1196, 1203, 1217, 1226, 1256, 673, 459, 676, 769, 1199, 828, 741, 617, 634, 640, 1265, 1527] rfl rfl
def tCd10 : List Nat := [200, 201, 202, 203, 204, 205, 206, 207, 208, 209, 210, 211, 212, 213, 214, 215, 216, 217, 218, 219]
set_option maxRecDepth 100000 in
theorem tCd10_in : GoodIn lw_tbl (tCd10.map (fun i => .code (mI i).1 (mI i).2.1 (mt i).1 (mI i).2.2.1)) := goodIn_r _ [1624, 1691, 1610, 1613, 1511, 1515, 1519, 1543, 1539, 1535, 1547, 1561, 1557, 1591, 1587, 1553, 1571, 1575, 1567, 1531] rfl rfl
def tCd11 : List Nat := [220, 221, 222, 223, 224, 225, 226, 227, 228, 229, 230, 231, 232, 233, 234, 235, 236, 237, 238, 239]
set_option maxRecDepth 100000 in
theorem tCd11_in : GoodIn lw_tbl (tCd11.map (fun i => .code (mI i).1 (mI i).2.1 (mt i).1 (mI i).2.2.1)) := goodIn_r _ [1583, 1579, 1523, 1595, 1607, 1603, 1599, 1621, 1637, 1633, 1629, 1617, 1641, 1650, 1646, 1654, 1662, 1659, 1668, 1672] rfl rfl
def tCd12 : List Nat := [240, 241, 242, 243, 244, 245, 246, 247, 248, 249, 250, 251, 252, 253, 254, 255, 256, 257, 258, 259]
set_option maxRecDepth 100000 in
theorem tCd12_in : GoodIn lw_tbl (tCd12.map (fun i => .code (mI i).1 (mI i).2.1 (mt i).1 (mI i).2.2.1)) := goodIn_r _ [1676, 1681, 1688, 1685, 1697, 1709, 1705, 1701, 1713, 1717, 1739, 1736, 1742, 1733, 1729, 1725, 1721, 1746, 1758, 1762] rfl rfl
def tCd13 : List Nat := [260, 261, 262, 263, 264, 265, 266, 267, 268, 269, 270, 271, 272, 273, 274, 275, 276, 277, 278, 279]
set_option maxRecDepth 100000 in
theorem tCd13_in : GoodIn lw_tbl (tCd13.map (fun i => .code (mI i).1 (mI i).2.1 (mt i).1 (mI i).2.2.1)) := goodIn_r _ [1754, 1750, 1766, 1774, 1770, 1777, 1781, 1789, 1793, 1785, 1797, 1801, 1805, 1809, 1813, 1818, 1827, 1823, 1831, 1836] rfl rfl
def tCd14 : List Nat := [280, 281, 282, 283, 284, 285, 286, 287, 288, 289, 290, 291, 292, 293, 294, 295, 296, 297, 298, 299]
set_option maxRecDepth 100000 in
theorem tCd14_in : GoodIn lw_tbl (tCd14.map (fun i => .code (mI i).1 (mI i).2.1 (mt i).1 (mI i).2.2.1)) := goodIn_r _ [1852, 1860, 1848, 1856, 1864, 1844, 1868, 1880, 1872, 1876, 1840, 1884, 1888, 1892, 1908, 1904, 1900, 1896, 1912, 1926] rfl rfl
def tCd15 : List Nat := [300, 301, 302, 303, 304, 305, 306, 307, 308, 309, 310, 311, 312, 313, 314, 315]
set_option maxRecDepth 100000 in
theorem tCd15_in : GoodIn lw_tbl (tCd15.map (fun i => .code (mI i).1 (mI i).2.1 (mt i).1 (mI i).2.2.1)) := goodIn_r _ [1919, 1922, 1916, 1930, 1934, 1942, 1946, 1938, 1954, 1950, 1958, 1962, 818, 611, 586, 224] rfl rfl
def tSt : List Nat := [10, 12, 13, 22, 23, 24, 29, 30, 36, 40, 41, 42, 67, 68, 74, 77, 90, 100, 101, 104, 109, 110, 111, 112, 120, 125, 134, 189, 190, 191, 192, 193, 194, 195, 196, 197, 199, 200, 201, 202, 203, 236, 242, 250, 251, 252, 265, 300, 301, 312, 313, 314, 315]
def tSt_w : List Cond := tSt.map (fun i => .static (mI i).1)
set_option maxRecDepth 100000 in
theorem tSt_in : GoodIn lw_tbl tSt_w := goodIn_r _ [1025, 1025, 1025, 630, 595, 623, 589, 592, 835, 863, 866, 852, 496, 531, 936, 1209, 983, 778, 775, 912, 1176, 1179, 1182, 1185, 1094, 1083, 687, 458, 675, 768, 1198, 827, 740, 616, 633, 639, 1526, 1623, 1690, 1609, 1612, 1661, 1687, 1738, 1735, 1741, 1776, 1918, 1921, 817, 610, 585, 223] (by decide +kernel) (by decide +kernel)
def tIn : List Nat := [0, 1, 2, 3, 4, 5, 6, 7, 8, 9, 11, 14, 15, 16, 17, 18, 19, 20, 21, 25, 26, 27, 28, 31, 32, 33, 34, 35, 37, 38, 39, 43, 44, 45, 46, 47, 48, 49, 50, 51, 52, 53, 54, 55, 56, 57, 58, 59, 60, 61, 62, 63, 64, 65, 66, 69, 70, 71, 72, 73, 75, 76, 78, 79, 80, 81, 82, 83, 84, 85, 86, 87, 88, 89, 91, 92, 93, 94, 95, 96, 97, 98, 99, 102, 103, 105, 106, 107, 108, 113, 114, 115, 116, 117, 118, 119, 121, 122, 123, 124, 126, 127, 128, 129, 130, 131, 132, 133, 135, 136, 137, 138, 139, 140, 141, 142, 143, 144, 145, 146, 147, 148, 149, 150, 151, 152, 153, 154, 155, 156, 157, 158, 159, 160, 161, 162, 163, 164, 165, 166, 167, 168, 169, 170, 171, 172, 173, 174, 175, 176, 177, 178, 179, 180, 181, 182, 183, 184, 185, 186, 187, 188, 198, 204, 205, 206, 207, 208, 209, 210, 211, 212, 213, 214, 215, 216, 217, 218, 219, 220, 221, 222, 223, 224, 225, 226, 227, 228, 229, 230, 231, 232, 233, 234, 235, 237, 238, 239, 240, 241, 243, 244, 245, 246, 247, 248, 249, 253, 254, 255, 256, 257, 258, 259, 260, 261, 262, 263, 264, 266, 267, 268, 269, 270, 271, 272, 273, 274, 275, 276, 277, 278, 279, 280, 281, 282, 283, 284, 285, 286, 287, 288, 289, 290, 291, 292, 293, 294, 295, 296, 297, 298, 299, 302, 303, 304, 305, 306, 307, 308, 309, 310, 311]
def tIn_w : List Cond := tIn.map (fun i => .instanceMethod (mI i).1)
set_option maxRecDepth 100000 in
theorem tIn_in : GoodIn lw_tbl tIn_w := goodIn_r _ [383, 1121, 1133, 1138, 1143, 1147, 1155, 359, 1012, 1020, 1030, 1039, 1047, 1051, 170, 569, 573, 626, 598, 602, 606, 577, 581, 212, 763, 1258, 799, 807, 831, 886, 859, 847, 855, 877, 881, 890, 894, 94, 465, 476, 484, 499, 519, 540, 534, 544, 552, 556, 548, 511, 492, 507, 488, 472, 480, 503, 527, 523, 285, 930, 940, 945, 1205, 1219, 1228, 1232, 1241, 1245, 1249, 1237, 329, 959, 996, 992, 963, 971, 977, 986, 219, 771, 791, 812, 803, 782, 908, 915, 920, 1164, 1172, 189, 1109, 1059, 1091, 1102, 1105, 1097, 1063, 1067, 1075, 1079, 1086, 100, 515, 1071, 561, 642, 678, 683, 699, 730, 695, 708, 717, 84, 446, 451, 454, 461, 667, 691, 704, 713, 722, 726, 736, 743, 747, 751, 756, 759, 787, 795, 823, 839, 843, 869, 873, 900, 904, 926, 951, 955, 1000, 1004, 1008, 1016, 1034, 1043, 1055, 1113, 1117, 1125, 1129, 1151, 1160, 1190, 1194, 1201, 1215, 1224, 1254, 672, 1264, 1509, 1514, 1517, 1542, 1538, 1534, 1546, 1560, 1556, 1590, 1586, 1552, 1570, 1574, 1566, 1530, 1582, 1578, 1521, 1594, 1606, 1602, 1598, 1620, 1636, 1632, 1628, 1615, 1639, 1649, 1644, 1652, 1657, 1666, 1670, 1674, 1679, 1683, 1695, 1708, 1704, 1699, 1711, 1715, 1732, 1728, 1724, 1719, 1744, 1757, 1761, 1753, 1748, 1764, 1773, 1768, 1780, 1788, 1792, 1783, 1795, 1799, 1804, 1807, 1811, 1816, 1826, 1821, 1829, 1834, 1851, 1859, 1847, 1855, 1863, 1843, 1867, 1879, 1871, 1875, 1838, 1882, 1886, 1890, 1907, 1903, 1899, 1894, 1910, 1925, 1914, 1928, 1932, 1941, 1945, 1936, 1953, 1948, 1956, 1960] (by decide +kernel) (by decide +kernel)
def tSe : List Nat := [1, 2, 3, 4, 5, 6, 8, 9, 11, 14, 15, 16, 18, 19, 20, 21, 25, 26, 27, 28, 32, 33, 34, 35, 37, 38, 39, 43, 44, 45, 46, 47, 48, 50, 51, 52, 53, 54, 55, 56, 57, 58, 59, 60, 61, 62, 63, 64, 65, 66, 69, 70, 71, 73, 75, 76, 78, 79, 80, 81, 82, 83, 84, 85, 87, 88, 89, 91, 92, 93, 94, 96, 97, 98, 99, 102, 103, 105, 106, 107, 108, 114, 115, 116, 117, 118, 119, 121, 122, 123, 124, 126, 128, 129, 130, 132, 133, 135, 136, 137, 138, 139, 141, 142, 143, 144, 145, 146, 147, 148, 149, 150, 151, 152, 153, 154, 155, 156, 157, 158, 159, 160, 161, 162, 163, 164, 165, 166, 167, 168, 169, 170, 171, 172, 173, 174, 175, 176, 177, 178, 179, 180, 181, 182, 183, 184, 185, 186, 187, 188, 204, 205, 206, 207, 208, 209, 210, 211, 212, 213, 214, 215, 216, 217, 218, 219, 220, 221, 222, 223, 224, 225, 226, 227, 228, 229, 230, 231, 232, 233, 234, 235, 237, 238, 239, 240, 241, 243, 244, 245, 246, 247, 248, 249, 253, 254, 255, 256, 257, 258, 259, 260, 261, 262, 263, 264, 266, 267, 268, 269, 270, 271, 272, 273, 274, 275, 276, 277, 278, 279, 280, 281, 282, 283, 284, 285, 286, 287, 288, 289, 290, 291, 292, 293, 294, 295, 296, 297, 298, 299, 302, 303, 304, 305, 306, 307, 308, 309, 310, 311]
def tSe_w : List Cond := tSe.map (fun i => .selects (mI i).1.cls (mI i).1 (mI i).1)
set_option maxRecDepth 100000 in
theorem tSe_in : GoodIn lw_tbl tSe_w := goodIn_r _ [1122, 1134, 1139, 1144, 1148, 1156, 1013, 1021, 1031, 1040, 1048, 1052, 570, 574, 627, 599, 603, 607, 578, 582, 764, 1259, 800, 808, 832, 887, 860, 848, 856, 878, 882, 891, 895, 466, 477, 485, 500, 520, 541, 535, 545, 553, 557, 549, 512, 493, 508, 489, 473, 481, 504, 528, 524, 931, 941, 946, 1206, 1220, 1229, 1233, 1242, 1246, 1250, 1238, 960, 997, 993, 964, 972, 978, 987, 772, 792, 813, 804, 783, 909, 916, 921, 1165, 1173, 1110, 1060, 4, 5, 1106, 1098, 1064, 1068, 1076, 1080, 1087, 516, 1072, 562, 679, 684, 700, 731, 696, 709, 718, 447, 0, 455, 462, 668, 692, 705, 714, 723, 727, 2, 744, 748, 752, 3, 760, 788, 796, 824, 840, 844, 870, 874, 901, 905, 927, 952, 956, 1001, 1005, 1009, 1017, 1035, 1044, 1056, 1114, 1118, 1126, 1130, 1152, 1161, 1191, 1195, 1202, 1216, 1225, 1255, 1, 1510, 6, 1518, 10, 9, 8, 11, 14, 13, 21, 20, 12, 16, 17, 15, 7, 19, 18, 1522, 22, 25, 24, 23, 26, 29, 28, 27, 1616, 1640, 30, 1645, 1653, 1658, 1667, 1671, 1675, 1680, 1684, 1696, 32, 31, 1700, 1712, 1716, 35, 34, 33, 1720, 1745, 37, 38, 36, 1749, 1765, 39, 1769, 40, 41, 42, 1784, 1796, 1800, 43, 1808, 1812, 1817, 44, 1822, 1830, 1835, 47, 49, 46, 48, 50, 45, 51, 54, 52, 53, 1839, 1883, 1887, 1891, 57, 56, 55, 1895, 1911, 58, 1915, 1929, 1933, 59, 60, 1937, 61, 1949, 1957, 1961] (by decide +kernel) (by decide +kernel)
def tIz : List Nat := [0, 1, 2, 3, 4, 5, 6, 7, 8, 9, 10, 11, 12, 13, 14, 15, 16, 17, 18, 19, 20, 21, 22, 23, 24, 25, 26, 27, 28, 29, 30, 31, 32, 33, 34, 35, 36, 37, 38, 39, 40, 41, 42, 43, 44, 45, 46, 47, 48, 49, 50, 51, 52, 53, 54, 55, 56, 57, 58, 59, 60, 61, 62, 63, 64, 65, 66, 67, 68, 69, 70, 71, 72, 73, 74, 75, 76, 77, 78, 79, 80, 81, 82, 83, 84, 85, 86, 87, 88, 89, 90, 91, 92, 93, 94, 95, 96, 97, 98, 99, 100, 101, 102, 103, 104, 105, 106, 107, 108, 109, 110, 111, 112, 113, 114, 115, 116, 117, 118, 119, 120, 121, 122, 123, 124, 125, 126, 127, 128, 129, 130, 131, 132, 133, 134, 135, 136, 137, 138, 139, 140, 141, 142, 143, 144, 145, 146, 147, 148, 149, 150, 151, 152, 153, 154, 155, 156, 157, 158, 159, 160, 161, 162, 163, 164, 165, 166, 167, 168, 169, 170, 171, 172, 173, 174, 175, 176, 177, 178, 179, 180, 181, 182, 183, 184, 185, 186, 187, 188, 189, 190, 191, 192, 193, 194, 195, 196, 197, 198, 199, 200, 201, 202, 203, 204, 205, 206, 207, 208, 209, 210, 211, 212, 213, 214, 215, 216, 217, 218, 219, 220, 221, 222, 223, 224, 225, 226, 227, 228, 229, 230, 231, 232, 233, 234, 235, 236, 237, 238, 239, 240, 241, 242, 243, 244, 245, 246, 247, 248, 249, 250, 251, 252, 253, 254, 255, 256, 257, 258, 259, 260, 261, 262, 263, 264, 265, 266, 267, 268, 269, 270, 271, 272, 273, 274, 275, 276, 277, 278, 279, 280, 281, 282, 283, 284, 285, 286, 287, 288, 289, 290, 291, 292, 293, 294, 295, 296, 297, 298, 299, 300, 301, 302, 303, 304, 305, 306, 307, 308, 309, 310, 311, 312, 313, 314, 315]
def tIz_w : List Cond := tIz.map (fun i => .initialized (mI i).1.cls)
set_option maxRecDepth 100000 in
theorem tIz_in : GoodIn lw_tbl tIz_w := goodIn_r _ [75, 75, 75, 75, 75, 75, 75, 74, 74, 74, 74, 74, 74, 74, 74, 74, 74, 67, 67, 67, 67, 67, 67, 67, 67, 67, 67, 67, 67, 67, 67, 69, 69, 69, 69, 69, 69, 69, 69, 69, 69, 69, 69, 69, 69, 69, 69, 69, 69, 64, 64, 64, 64, 64, 64, 64, 64, 64, 64, 64, 64, 64, 64, 64, 64, 64, 64, 64, 64, 64, 64, 64, 72, 72, 72, 72, 72, 72, 72, 72, 72, 72, 72, 72, 72, 72, 73, 73, 73, 73, 73, 73, 73, 73, 73, 70, 70, 70, 70, 70, 70, 70, 70, 70, 70, 70, 70, 70, 70, 70, 70, 70, 70, 68, 68, 68, 68, 68, 68, 68, 68, 68, 68, 68, 68, 68, 68, 65, 65, 65, 65, 77, 77, 77, 77, 77, 77, 77, 77, 77, 63, 63, 63, 63, 63, 63, 63, 63, 63, 63, 63, 63, 63, 63, 63, 63, 63, 63, 63, 63, 63, 63, 63, 63, 63, 63, 63, 63, 63, 63, 63, 63, 63, 63, 63, 63, 63, 63, 63, 63, 63, 63, 63, 63, 63, 63, 63, 63, 63, 63, 63, 63, 63, 63, 63, 63, 63, 63, 76, 76, 76, 76, 76, 76, 76, 76, 76, 76, 76, 76, 76, 76, 76, 76, 76, 76, 76, 76, 76, 76, 76, 76, 76, 76, 76, 76, 76, 76, 76, 76, 76, 76, 76, 76, 76, 76, 76, 76, 76, 76, 76, 76, 76, 76, 76, 76, 76, 76, 76, 76, 76, 76, 76, 76, 76, 76, 76, 76, 76, 76, 76, 76, 76, 76, 76, 76, 76, 76, 76, 76, 76, 76, 76, 76, 76, 76, 76, 76, 76, 76, 76, 76, 76, 76, 76, 76, 76, 76, 76, 76, 76, 76, 76, 76, 76, 76, 76, 76, 76, 76, 76, 76, 76, 76, 76, 76, 76, 76, 76, 76, 76, 76, 80, 78, 71, 71] (by decide +kernel) (by decide +kernel)
def tCt : List Nat := [0, 7, 17, 31, 49, 72, 86, 95, 113, 127, 131, 140, 198]
def tLy : List Nat := [0, 1, 2, 3, 4, 5, 6, 7, 8, 9, 10, 11, 12]
def tLy_w : List Cond := tLy.map (fun i => .instantiable (cnm i) (nFl i))
set_option maxRecDepth 100000 in
theorem tLy_in : GoodIn lw_tbl tLy_w := goodIn_r _ [381, 357, 168, 210, 92, 283, 327, 217, 187, 98, 567, 82, 1262] (by decide +kernel) (by decide +kernel)
def tCi : List Nat := [0, 1, 2, 3, 4, 5, 6, 7, 8, 9, 10, 11, 12]
def tCi_w : List Cond := tCi.map (fun i => .initialized (cnm i))
set_option maxRecDepth 100000 in
theorem tCi_in : GoodIn lw_tbl tCi_w := goodIn_r _ [75, 74, 67, 69, 64, 72, 73, 70, 68, 65, 77, 63, 76] (by decide +kernel) (by decide +kernel)
set_option maxRecDepth 100000 in
theorem inX0 : GoodIn lw_tbl wsX00 := goodIn_r _ [392, 394, 396, 398] (by decide +kernel) (by decide +kernel)
set_option maxRecDepth 100000 in
theorem inX1 : GoodIn lw_tbl wsX10 := goodIn_r _ [369, 371, 373, 375, 377] (by decide +kernel) (by decide +kernel)
set_option maxRecDepth 100000 in
theorem inX2 : GoodIn lw_tbl wsX20 := goodIn_r _ [178, 180, 182] (by decide +kernel) (by decide +kernel)
set_option maxRecDepth 100000 in
theorem inX3 : GoodIn lw_tbl wsX30 := goodIn_r _ [267, 269, 271, 273, 275, 277, 279] (by decide +kernel) (by decide +kernel)
set_option maxRecDepth 100000 in
theorem inX4 : GoodIn lw_tbl wsX40 := goodIn_r _ [142, 144, 146, 148, 150, 152, 154, 156, 158, 160, 162, 164] (by decide +kernel) (by decide +kernel)
set_option maxRecDepth 100000 in
theorem inX5 : GoodIn lw_tbl wsX50 := goodIn_r _ [303, 305, 307, 309, 311, 313, 315, 317, 319, 321, 323] (by decide +kernel) (by decide +kernel)
set_option maxRecDepth 100000 in
theorem inX6 : GoodIn lw_tbl wsX60 := goodIn_r _ [341, 343, 345, 347, 349, 351, 353] (by decide +kernel) (by decide +kernel)
set_option maxRecDepth 100000 in
theorem inX7 : GoodIn lw_tbl wsX70 := goodIn_r _ [240, 242, 244, 246, 248, 250] (by decide +kernel) (by decide +kernel)
set_option maxRecDepth 100000 in
theorem inX8 : GoodIn lw_tbl wsX80 := goodIn_r _ [200, 202, 204, 206] (by decide +kernel) (by decide +kernel)
set_option maxRecDepth 100000 in
theorem inX9 : GoodIn lw_tbl wsX90 := goodIn_r _ [119, 121, 123, 125] (by decide +kernel) (by decide +kernel)
set_option maxRecDepth 100000 in
theorem inX10 : GoodIn lw_tbl wsX100 := goodIn_r _ [655, 657, 659, 661, 663] (by decide +kernel) (by decide +kernel)
set_option maxRecDepth 100000 in
theorem inX11 : GoodIn lw_tbl wsX110 := goodIn_r _ [416, 418, 420, 422, 424, 426, 428, 430, 432, 434, 436, 438, 440, 442] (by decide +kernel) (by decide +kernel)
set_option maxRecDepth 100000 in
theorem inX12 : GoodIn lw_tbl wsX120 := goodIn_r _ [1347, 1349, 1351, 1353, 1355, 1357, 1359, 1361, 1363, 1365, 1367, 1369, 1371, 1373, 1375, 1377, 1379, 1381, 1383, 1385, 1387, 1389, 1391, 1393, 1395, 1397, 1399, 1401, 1403, 1405, 1407, 1409, 1411, 1413, 1415, 1417, 1419, 1421, 1423, 1425, 1427, 1429, 1431, 1433, 1435, 1437, 1439, 1441, 1443, 1445, 1447, 1449, 1451, 1453, 1455, 1457, 1459, 1461, 1463, 1465, 1467, 1469, 1471, 1473, 1475, 1477, 1479, 1481, 1483, 1485, 1487, 1489, 1491, 1493, 1495, 1497, 1499, 1501, 1503] (by decide +kernel) (by decide +kernel)
def tNg : List Cond := [.arrayOver (.object RX7), .arrayOver (.object RX10), .arrayOver (.array .long), .laysStatic "WishWays" "GREATEST" "[I", .laysStatic "WishWays" "SHIFT" "[I", .fieldLinkNest (cnm 4) 121 "WishWays" "GREATEST" "[I" "WishWays"]
set_option maxRecDepth 100000 in
theorem tNg_in : ∀ w ∈ tNg, w ∈ lw_tbl := mem_r _ [216, 90, 174, 538, 636, 537] (by decide +kernel)
def tOd : List Cond := [.arrayClass .int, .arrayClass .long, .arrayClass .byte, .arrayClass .boolean, .instanceMethod objectInit, .static Lib.Math.max.name, .static Lib.Math.min.name, .initialized "java/lang/Math", .native arraycopyName, .static arraycopyName, .initialized "java/lang/System", .fieldLink (cnm 11) 348 "WishWays" "SHIFT" "[I", .fieldLink (cnm 11) 351 "WishWays" "GREATEST" "[I", .classLink (cnm 2) 11 "[[J", .code objectInit ⟨#[0xb1]⟩ 1 none, .code Lib.Math.max.name Lib.Math.max.code 2 (some .int), .code Lib.Math.min.name Lib.Math.min.code 2 (some .int)]
set_option maxRecDepth 100000 in
theorem tOd_in : GoodIn lw_tbl tOd := goodIn_r _ [128, 185, 1506, 1507, 87, 104, 469, 66, 621, 620, 79, 635, 637, 173, 88, 105, 470] (by decide +kernel) (by decide +kernel)
