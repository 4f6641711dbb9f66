def lawH4 : List Nat := [1088]
set_option maxRecDepth 100000 in
theorem law_4 : lawH4.all (fun h => chk 13 false lawHd cd_L_law (some .boolean) code h (cd_L_law h)) = true := by decide +kernel
def lawH5 : List Nat := [1131]
set_option maxRecDepth 100000 in
theorem law_5 : lawH5.all (fun h => chk 13 false lawHd cd_L_law (some .boolean) code h (cd_L_law h)) = true := by decide +kernel
def lawH6 : List Nat := [1174]
set_option maxRecDepth 100000 in
theorem law_6 : lawH6.all (fun h => chk 13 false lawHd cd_L_law (some .boolean) code h (cd_L_law h)) = true := by decide +kernel
def lawH7 : List Nat := [1197]
set_option maxRecDepth 100000 in
theorem law_7 : lawH7.all (fun h => chk 13 false lawHd cd_L_law (some .boolean) code h (cd_L_law h)) = true := by decide +kernel
def lawH8 : List Nat := [1220]
set_option maxRecDepth 100000 in
theorem law_8 : lawH8.all (fun h => chk 13 false lawHd cd_L_law (some .boolean) code h (cd_L_law h)) = true := by decide +kernel
def lawH9 : List Nat := [1221]
set_option maxRecDepth 100000 in
theorem law_9 : lawH9.all (fun h => chk 13 false lawHd cd_L_law (some .boolean) code h (cd_L_law h)) = true := by decide +kernel
def lawH10 : List Nat := [1252]
set_option maxRecDepth 100000 in
theorem law_10 : lawH10.all (fun h => chk 13 false lawHd cd_L_law (some .boolean) code h (cd_L_law h)) = true := by decide +kernel
def lawH11 : List Nat := [1253]
set_option maxRecDepth 100000 in
theorem law_11 : lawH11.all (fun h => chk 13 false lawHd cd_L_law (some .boolean) code h (cd_L_law h)) = true := by decide +kernel
def lawH12 : List Nat := [1266]
set_option maxRecDepth 100000 in
theorem law_12 : lawH12.all (fun h => chk 13 false lawHd cd_L_law (some .boolean) code h (cd_L_law h)) = true := by decide +kernel
def lawH13 : List Nat := [1279]
set_option maxRecDepth 100000 in
theorem law_13 : lawH13.all (fun h => chk 13 false lawHd cd_L_law (some .boolean) code h (cd_L_law h)) = true := by decide +kernel
def lawH14 : List Nat := [1297]
set_option maxRecDepth 100000 in
theorem law_14 : lawH14.all (fun h => chk 13 false lawHd cd_L_law (some .boolean) code h (cd_L_law h)) = true := by decide +kernel
def lawH15 : List Nat := [1298]
set_option maxRecDepth 100000 in
theorem law_15 : lawH15.all (fun h => chk 13 false lawHd cd_L_law (some .boolean) code h (cd_L_law h)) = true := by decide +kernel
def lawH16 : List Nat := [1319]
set_option maxRecDepth 100000 in
theorem law_16 : lawH16.all (fun h => chk 13 false lawHd cd_L_law (some .boolean) code h (cd_L_law h)) = true := by decide +kernel
def lawH17 : List Nat := [1320]
set_option maxRecDepth 100000 in
theorem law_17 : lawH17.all (fun h => chk 13 false lawHd cd_L_law (some .boolean) code h (cd_L_law h)) = true := by decide +kernel
def lawH18 : List Nat := [1328]
set_option maxRecDepth 100000 in
theorem law_18 : lawH18.all (fun h => chk 13 false lawHd cd_L_law (some .boolean) code h (cd_L_law h)) = true := by decide +kernel
def lawH19 : List Nat := [1351]
set_option maxRecDepth 100000 in
theorem law_19 : lawH19.all (fun h => chk 13 false lawHd cd_L_law (some .boolean) code h (cd_L_law h)) = true := by decide +kernel
def lawH20 : List Nat := [1384]
set_option maxRecDepth 100000 in
theorem law_20 : lawH20.all (fun h => chk 13 false lawHd cd_L_law (some .boolean) code h (cd_L_law h)) = true := by decide +kernel
def lawH21 : List Nat := [1407]
set_option maxRecDepth 100000 in
theorem law_21 : lawH21.all (fun h => chk 13 false lawHd cd_L_law (some .boolean) code h (cd_L_law h)) = true := by decide +kernel
def lawH22 : List Nat := [1430]
set_option maxRecDepth 100000 in
theorem law_22 : lawH22.all (fun h => chk 13 false lawHd cd_L_law (some .boolean) code h (cd_L_law h)) = true := by decide +kernel
def lawH23 : List Nat := [1453]
set_option maxRecDepth 100000 in
theorem law_23 : lawH23.all (fun h => chk 13 false lawHd cd_L_law (some .boolean) code h (cd_L_law h)) = true := by decide +kernel
def lawH24 : List Nat := [1496]
set_option maxRecDepth 100000 in
theorem law_24 : lawH24.all (fun h => chk 13 false lawHd cd_L_law (some .boolean) code h (cd_L_law h)) = true := by decide +kernel
def lawH25 : List Nat := [1549]
set_option maxRecDepth 100000 in
theorem law_25 : lawH25.all (fun h => chk 13 false lawHd cd_L_law (some .boolean) code h (cd_L_law h)) = true := by decide +kernel
def lawH26 : List Nat := [1582]
set_option maxRecDepth 100000 in
theorem law_26 : lawH26.all (fun h => chk 13 false lawHd cd_L_law (some .boolean) code h (cd_L_law h)) = true := by decide +kernel
def lawH27 : List Nat := [1615]
set_option maxRecDepth 100000 in
theorem law_27 : lawH27.all (fun h => chk 13 false lawHd cd_L_law (some .boolean) code h (cd_L_law h)) = true := by decide +kernel
def lawH28 : List Nat := [1648]
set_option maxRecDepth 100000 in
theorem law_28 : lawH28.all (fun h => chk 13 false lawHd cd_L_law (some .boolean) code h (cd_L_law h)) = true := by decide +kernel
def lawH29 : List Nat := [1661]
set_option maxRecDepth 100000 in
theorem law_29 : lawH29.all (fun h => chk 13 false lawHd cd_L_law (some .boolean) code h (cd_L_law h)) = true := by decide +kernel
def lawH30 : List Nat := [1684]
set_option maxRecDepth 100000 in
theorem law_30 : lawH30.all (fun h => chk 13 false lawHd cd_L_law (some .boolean) code h (cd_L_law h)) = true := by decide +kernel
def lawH31 : List Nat := [1690]
set_option maxRecDepth 100000 in
theorem law_31 : lawH31.all (fun h => chk 13 false lawHd cd_L_law (some .boolean) code h (cd_L_law h)) = true := by decide +kernel
theorem okM_law : okM 316 = true := by
  have e : lawHd = lawH0 ++ lawH1 ++ lawH2 ++ lawH3 ++ lawH4 ++ lawH5 ++ lawH6 ++ lawH7 ++ lawH8 ++ lawH9 ++ lawH10 ++ lawH11 ++ lawH12 ++ lawH13 ++ lawH14 ++ lawH15 ++ lawH16 ++ lawH17 ++ lawH18 ++ lawH19 ++ lawH20 ++ lawH21 ++ lawH22 ++ lawH23 ++ lawH24 ++ lawH25 ++ lawH26 ++ lawH27 ++ lawH28 ++ lawH29 ++ lawH30 ++ lawH31 := by decide +kernel
  show (decide (0 ∈ lawHd) && lawHd.all (fun h => chk 13 false lawHd cd_L_law (some .boolean) code h (cd_L_law h))) = true
  rw [show lawHd.all (fun h => chk 13 false lawHd cd_L_law (some .boolean) code h (cd_L_law h)) = (lawH0 ++ lawH1 ++ lawH2 ++ lawH3 ++ lawH4 ++ lawH5 ++ lawH6 ++ lawH7 ++ lawH8 ++ lawH9 ++ lawH10 ++ lawH11 ++ lawH12 ++ lawH13 ++ lawH14 ++ lawH15 ++ lawH16 ++ lawH17 ++ lawH18 ++ lawH19 ++ lawH20 ++ lawH21 ++ lawH22 ++ lawH23 ++ lawH24 ++ lawH25 ++ lawH26 ++ lawH27 ++ lawH28 ++ lawH29 ++ lawH30 ++ lawH31).all (fun h => chk 13 false lawHd cd_L_law (some .boolean) code h (cd_L_law h)) from by rw [← e]]
  simp only [List.all_append, law_0, law_1, law_2, law_3, law_4, law_5, law_6, law_7, law_8, law_9, law_10, law_11, law_12, law_13, law_14, law_15, law_16, law_17, law_18, law_19, law_20, law_21, law_22, law_23, law_24, law_25, law_26, law_27, law_28, law_29, law_30, law_31, Bool.and_self, Bool.and_true]
  decide +kernel
theorem okM_all : ∀ i, i < 317 → okM i = true := by
  intro i hi
  by_cases h0 : i < 22
  · exact okM_0 i (by omega) h0
  by_cases h1 : i < 45
  · exact okM_1 i (by omega) h1
  by_cases h2 : i < 63
  · exact okM_2 i (by omega) h2
  by_cases h3 : i < 84
  · exact okM_3 i (by omega) h3
  by_cases h4 : i < 103
  · exact okM_4 i (by omega) h4
  by_cases h5 : i < 118
  · exact okM_5 i (by omega) h5
  by_cases h6 : i < 140
  · exact okM_6 i (by omega) h6
  by_cases h7 : i < 161
  · exact okM_7 i (by omega) h7
  by_cases h8 : i < 198
  · exact okM_8 i (by omega) h8
  by_cases h9 : i < 217
  · exact okM_9 i (by omega) h9
  by_cases h10 : i < 225
  · exact okM_10 i (by omega) h10
  by_cases h11 : i < 239
  · exact okM_11 i (by omega) h11
  by_cases h12 : i < 255
  · exact okM_12 i (by omega) h12
  by_cases h13 : i < 269
  · exact okM_13 i (by omega) h13
  by_cases h14 : i < 278
  · exact okM_14 i (by omega) h14
  by_cases h15 : i < 290
  · exact okM_15 i (by omega) h15
  by_cases h16 : i < 302
  · exact okM_16 i (by omega) h16
  by_cases h17 : i < 315
  · exact okM_17 i (by omega) h17
  by_cases h18 : i < 316
  · exact okM_18 i (by omega) h18
  have : i = 316 := by omega
  subst this
  exact okM_law
