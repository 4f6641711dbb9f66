def lawHd : List Nat := [0, 18, 224, 287, 310, 333, 376, 409, 452, 485, 548, 571, 604, 637, 670, 733, 766, 779, 802, 803, 829, 830, 838, 861, 894, 917, 950, 973, 1006, 1019, 1042, 1065, 1088, 1131, 1174, 1197, 1220, 1221, 1252, 1253, 1266, 1279, 1297, 1298, 1319, 1320, 1328, 1351, 1384, 1407, 1430, 1453, 1496, 1549, 1582, 1615, 1648, 1661, 1684, 1690]
def lawH0 : List Nat := [0, 18, 224, 287, 310, 333, 376, 409]
set_option maxRecDepth 100000 in
theorem law_0 : lawH0.all (fun h => chk 13 false lawHd cd_L_law (some .boolean) code h (cd_L_law h)) = true := by decide +kernel
def lawH1 : List Nat := [452, 485, 548, 571, 604, 637, 670, 733]
set_option maxRecDepth 100000 in
theorem law_1 : lawH1.all (fun h => chk 13 false lawHd cd_L_law (some .boolean) code h (cd_L_law h)) = true := by decide +kernel
def lawH2 : List Nat := [766, 779, 802, 803, 829, 830, 838, 861]
set_option maxRecDepth 100000 in
theorem law_2 : lawH2.all (fun h => chk 13 false lawHd cd_L_law (some .boolean) code h (cd_L_law h)) = true := by decide +kernel
def lawH3 : List Nat := [894, 917, 950, 973, 1006, 1019, 1042, 1065]
set_option maxRecDepth 100000 in
theorem law_3 : lawH3.all (fun h => chk 13 false lawHd cd_L_law (some .boolean) code h (cd_L_law h)) = true := by decide +kernel
