def cRT : List Nat := [1200, 1300]
theorem RT.ex {S : List Nat} {σ σ2 : St} (h : RT σ) (hE : Ex S σ σ2) (hd : ∀ c ∈ cRT, c ∉ S) : RT σ2 := by
  have h0 := (fun j e => hE.i (hd 1200 (by decide)) j e : ∀ j e, gI σ2 1200 j e = gI σ 1200 j e)
  have h1 := (fun j e => hE.i (hd 1300 (by decide)) j e : ∀ j e, gI σ2 1300 j e = gI σ 1300 j e)
  unfold RT at h ⊢
  simp only [h0, h1]
  exact h
def cRW : List Nat := [1000, 1001, 1100, 1101, 1102, 1103, 1104, 1105, 1106, 1301, 1302, 1303, 1304, 1305, 1306, 1307, 1308]
theorem RW.ex {S : List Nat} {σ σ2 : St} (h : RW σ) (hE : Ex S σ σ2) (hd : ∀ c ∈ cRW, c ∉ S) : RW σ2 := by
  have h0 := (fun j e => hE.i (hd 1001 (by decide)) j e : ∀ j e, gI σ2 1001 j e = gI σ 1001 j e)
  have h1 := (fun j e => hE.i (hd 1100 (by decide)) j e : ∀ j e, gI σ2 1100 j e = gI σ 1100 j e)
  have h2 := (fun j e => hE.i (hd 1101 (by decide)) j e : ∀ j e, gI σ2 1101 j e = gI σ 1101 j e)
  have h3 := (fun j e => hE.i (hd 1102 (by decide)) j e : ∀ j e, gI σ2 1102 j e = gI σ 1102 j e)
  have h4 := (fun j e => hE.i (hd 1103 (by decide)) j e : ∀ j e, gI σ2 1103 j e = gI σ 1103 j e)
  have h5 := (fun j e => hE.i (hd 1104 (by decide)) j e : ∀ j e, gI σ2 1104 j e = gI σ 1104 j e)
  have h6 := (fun j e => hE.i (hd 1105 (by decide)) j e : ∀ j e, gI σ2 1105 j e = gI σ 1105 j e)
  have h7 := (fun j e => hE.i (hd 1106 (by decide)) j e : ∀ j e, gI σ2 1106 j e = gI σ 1106 j e)
  have h8 := (fun j e => hE.i (hd 1301 (by decide)) j e : ∀ j e, gI σ2 1301 j e = gI σ 1301 j e)
  have h9 := (fun j e => hE.i (hd 1302 (by decide)) j e : ∀ j e, gI σ2 1302 j e = gI σ 1302 j e)
  have h10 := (fun j e => hE.i (hd 1303 (by decide)) j e : ∀ j e, gI σ2 1303 j e = gI σ 1303 j e)
  have h11 := (fun j e => hE.i (hd 1304 (by decide)) j e : ∀ j e, gI σ2 1304 j e = gI σ 1304 j e)
  have h12 := (fun j e => hE.i (hd 1305 (by decide)) j e : ∀ j e, gI σ2 1305 j e = gI σ 1305 j e)
  have h13 := (fun j e => hE.i (hd 1306 (by decide)) j e : ∀ j e, gI σ2 1306 j e = gI σ 1306 j e)
  have h14 := (fun j e => hE.i (hd 1307 (by decide)) j e : ∀ j e, gI σ2 1307 j e = gI σ 1307 j e)
  have h15 := (fun j e => hE.i (hd 1308 (by decide)) j e : ∀ j e, gI σ2 1308 j e = gI σ 1308 j e)
  have h16 := (hE.n 10 : gN σ2 10 = gN σ 10)
  have h17 := (fun j e => hE.p (hd 1000 (by decide)) j e : ∀ j e, gP σ2 1000 j e = gP σ 1000 j e)
  unfold RW RW1 at h ⊢
  simp only [h0, h1, h2, h3, h4, h5, h6, h7, h8, h9, h10, h11, h12, h13, h14, h15, h16, h17]
  exact h
def cRS : List Nat := [800, 801, 802, 803, 804, 805, 806, 807, 808, 809, 810, 811, 812, 1200, 1203, 1204, 1310, 1311, 1312, 1313, 1314, 1315, 1316, 1317, 1318, 1319, 1320, 1321, 1322]
theorem RS.ex {S : List Nat} {σ σ2 : St} (h : RS σ) (hE : Ex S σ σ2) (hd : ∀ c ∈ cRS, c ∉ S) : RS σ2 := by
  have h0 := (fun j e => hE.i (hd 800 (by decide)) j e : ∀ j e, gI σ2 800 j e = gI σ 800 j e)
  have h1 := (fun j e => hE.i (hd 801 (by decide)) j e : ∀ j e, gI σ2 801 j e = gI σ 801 j e)
  have h2 := (fun j e => hE.i (hd 802 (by decide)) j e : ∀ j e, gI σ2 802 j e = gI σ 802 j e)
  have h3 := (fun j e => hE.i (hd 803 (by decide)) j e : ∀ j e, gI σ2 803 j e = gI σ 803 j e)
  have h4 := (fun j e => hE.i (hd 804 (by decide)) j e : ∀ j e, gI σ2 804 j e = gI σ 804 j e)
  have h5 := (fun j e => hE.i (hd 805 (by decide)) j e : ∀ j e, gI σ2 805 j e = gI σ 805 j e)
  have h6 := (fun j e => hE.i (hd 806 (by decide)) j e : ∀ j e, gI σ2 806 j e = gI σ 806 j e)
  have h7 := (fun j e => hE.i (hd 807 (by decide)) j e : ∀ j e, gI σ2 807 j e = gI σ 807 j e)
  have h8 := (fun j e => hE.i (hd 808 (by decide)) j e : ∀ j e, gI σ2 808 j e = gI σ 808 j e)
  have h9 := (fun j e => hE.i (hd 809 (by decide)) j e : ∀ j e, gI σ2 809 j e = gI σ 809 j e)
  have h10 := (fun j e => hE.i (hd 810 (by decide)) j e : ∀ j e, gI σ2 810 j e = gI σ 810 j e)
  have h11 := (fun j e => hE.i (hd 811 (by decide)) j e : ∀ j e, gI σ2 811 j e = gI σ 811 j e)
  have h12 := (fun j e => hE.i (hd 812 (by decide)) j e : ∀ j e, gI σ2 812 j e = gI σ 812 j e)
  have h13 := (fun j e => hE.i (hd 1200 (by decide)) j e : ∀ j e, gI σ2 1200 j e = gI σ 1200 j e)
  have h14 := (fun j e => hE.i (hd 1204 (by decide)) j e : ∀ j e, gI σ2 1204 j e = gI σ 1204 j e)
  have h15 := (fun j e => hE.i (hd 1310 (by decide)) j e : ∀ j e, gI σ2 1310 j e = gI σ 1310 j e)
  have h16 := (fun j e => hE.i (hd 1311 (by decide)) j e : ∀ j e, gI σ2 1311 j e = gI σ 1311 j e)
  have h17 := (fun j e => hE.i (hd 1312 (by decide)) j e : ∀ j e, gI σ2 1312 j e = gI σ 1312 j e)
  have h18 := (fun j e => hE.i (hd 1313 (by decide)) j e : ∀ j e, gI σ2 1313 j e = gI σ 1313 j e)
  have h19 := (fun j e => hE.i (hd 1314 (by decide)) j e : ∀ j e, gI σ2 1314 j e = gI σ 1314 j e)
  have h20 := (fun j e => hE.i (hd 1315 (by decide)) j e : ∀ j e, gI σ2 1315 j e = gI σ 1315 j e)
  have h21 := (fun j e => hE.i (hd 1316 (by decide)) j e : ∀ j e, gI σ2 1316 j e = gI σ 1316 j e)
  have h22 := (fun j e => hE.i (hd 1317 (by decide)) j e : ∀ j e, gI σ2 1317 j e = gI σ 1317 j e)
  have h23 := (fun j e => hE.i (hd 1318 (by decide)) j e : ∀ j e, gI σ2 1318 j e = gI σ 1318 j e)
  have h24 := (fun j e => hE.i (hd 1319 (by decide)) j e : ∀ j e, gI σ2 1319 j e = gI σ 1319 j e)
  have h25 := (fun j e => hE.i (hd 1320 (by decide)) j e : ∀ j e, gI σ2 1320 j e = gI σ 1320 j e)
  have h26 := (fun j e => hE.i (hd 1321 (by decide)) j e : ∀ j e, gI σ2 1321 j e = gI σ 1321 j e)
  have h27 := (fun j e => hE.i (hd 1322 (by decide)) j e : ∀ j e, gI σ2 1322 j e = gI σ 1322 j e)
  have h28 := (hE.n 7 : gN σ2 7 = gN σ 7)
  have h29 := (fun j e => hE.p (hd 1203 (by decide)) j e : ∀ j e, gP σ2 1203 j e = gP σ 1203 j e)
  unfold RS RS1 at h ⊢
  simp only [h0, h1, h2, h3, h4, h5, h6, h7, h8, h9, h10, h11, h12, h13, h14, h15, h16, h17, h18, h19, h20, h21, h22, h23, h24, h25, h26, h27, h28, h29]
  exact h
def cRF : List Nat := [200, 201, 202, 1323, 1324, 1325]
theorem RF.ex {S : List Nat} {σ σ2 : St} (h : RF σ) (hE : Ex S σ σ2) (hd : ∀ c ∈ cRF, c ∉ S) : RF σ2 := by
  have h0 := (fun j e => hE.i (hd 200 (by decide)) j e : ∀ j e, gI σ2 200 j e = gI σ 200 j e)
  have h1 := (fun j e => hE.i (hd 201 (by decide)) j e : ∀ j e, gI σ2 201 j e = gI σ 201 j e)
  have h2 := (fun j e => hE.i (hd 202 (by decide)) j e : ∀ j e, gI σ2 202 j e = gI σ 202 j e)
  have h3 := (fun j e => hE.i (hd 1323 (by decide)) j e : ∀ j e, gI σ2 1323 j e = gI σ 1323 j e)
  have h4 := (fun j e => hE.i (hd 1324 (by decide)) j e : ∀ j e, gI σ2 1324 j e = gI σ 1324 j e)
  have h5 := (fun j e => hE.i (hd 1325 (by decide)) j e : ∀ j e, gI σ2 1325 j e = gI σ 1325 j e)
  unfold RF at h ⊢
  simp only [h0, h1, h2, h3, h4, h5]
  exact h
def cRY : List Nat := [900, 901, 902, 903, 904, 905, 906, 907, 1205, 1206, 1326, 1327, 1328, 1329, 1330, 1331, 1332, 1333, 1334]
theorem RY.ex {S : List Nat} {σ σ2 : St} (h : RY σ) (hE : Ex S σ σ2) (hd : ∀ c ∈ cRY, c ∉ S) : RY σ2 := by
  have h0 := (fun j e => hE.i (hd 900 (by decide)) j e : ∀ j e, gI σ2 900 j e = gI σ 900 j e)
  have h1 := (fun j e => hE.i (hd 901 (by decide)) j e : ∀ j e, gI σ2 901 j e = gI σ 901 j e)
  have h2 := (fun j e => hE.i (hd 902 (by decide)) j e : ∀ j e, gI σ2 902 j e = gI σ 902 j e)
  have h3 := (fun j e => hE.i (hd 903 (by decide)) j e : ∀ j e, gI σ2 903 j e = gI σ 903 j e)
  have h4 := (fun j e => hE.i (hd 905 (by decide)) j e : ∀ j e, gI σ2 905 j e = gI σ 905 j e)
  have h5 := (fun j e => hE.i (hd 906 (by decide)) j e : ∀ j e, gI σ2 906 j e = gI σ 906 j e)
  have h6 := (fun j e => hE.i (hd 907 (by decide)) j e : ∀ j e, gI σ2 907 j e = gI σ 907 j e)
  have h7 := (fun j e => hE.i (hd 1206 (by decide)) j e : ∀ j e, gI σ2 1206 j e = gI σ 1206 j e)
  have h8 := (fun j e => hE.i (hd 1326 (by decide)) j e : ∀ j e, gI σ2 1326 j e = gI σ 1326 j e)
  have h9 := (fun j e => hE.i (hd 1327 (by decide)) j e : ∀ j e, gI σ2 1327 j e = gI σ 1327 j e)
  have h10 := (fun j e => hE.i (hd 1328 (by decide)) j e : ∀ j e, gI σ2 1328 j e = gI σ 1328 j e)
  have h11 := (fun j e => hE.i (hd 1329 (by decide)) j e : ∀ j e, gI σ2 1329 j e = gI σ 1329 j e)
  have h12 := (fun j e => hE.i (hd 1330 (by decide)) j e : ∀ j e, gI σ2 1330 j e = gI σ 1330 j e)
  have h13 := (fun j e => hE.i (hd 1331 (by decide)) j e : ∀ j e, gI σ2 1331 j e = gI σ 1331 j e)
  have h14 := (fun j e => hE.i (hd 1332 (by decide)) j e : ∀ j e, gI σ2 1332 j e = gI σ 1332 j e)
  have h15 := (fun j e => hE.i (hd 1333 (by decide)) j e : ∀ j e, gI σ2 1333 j e = gI σ 1333 j e)
  have h16 := (fun j e => hE.i (hd 1334 (by decide)) j e : ∀ j e, gI σ2 1334 j e = gI σ 1334 j e)
  have h17 := (hE.n 7 : gN σ2 7 = gN σ 7)
  have h18 := (hE.n 8 : gN σ2 8 = gN σ 8)
  have h19 := (fun j e => hE.p (hd 904 (by decide)) j e : ∀ j e, gP σ2 904 j e = gP σ 904 j e)
  have h20 := (fun j e => hE.p (hd 1205 (by decide)) j e : ∀ j e, gP σ2 1205 j e = gP σ 1205 j e)
  unfold RY RY1 at h ⊢
  simp only [h0, h1, h2, h3, h4, h5, h6, h7, h8, h9, h10, h11, h12, h13, h14, h15, h16, h17, h18, h19, h20]
  exact h
def cRA : List Nat := [1207, 1208, 1335, 1336]
theorem RA.ex {S : List Nat} {σ σ2 : St} (h : RA σ) (hE : Ex S σ σ2) (hd : ∀ c ∈ cRA, c ∉ S) : RA σ2 := by
  have h0 := (fun j e => hE.i (hd 1207 (by decide)) j e : ∀ j e, gI σ2 1207 j e = gI σ 1207 j e)
  have h1 := (fun j e => hE.i (hd 1208 (by decide)) j e : ∀ j e, gI σ2 1208 j e = gI σ 1208 j e)
  have h2 := (fun j e => hE.i (hd 1335 (by decide)) j e : ∀ j e, gI σ2 1335 j e = gI σ 1335 j e)
  have h3 := (fun j e => hE.i (hd 1336 (by decide)) j e : ∀ j e, gI σ2 1336 j e = gI σ 1336 j e)
  unfold RA at h ⊢
  simp only [h0, h1, h2, h3]
  exact h
def cRL_ : List Nat := [700, 701, 702, 703, 1209, 1210, 1337, 1338, 1339, 1340, 1341]
theorem RL_.ex {S : List Nat} {σ σ2 : St} (h : RL_ σ) (hE : Ex S σ σ2) (hd : ∀ c ∈ cRL_, c ∉ S) : RL_ σ2 := by
  have h0 := (fun j e => hE.i (hd 700 (by decide)) j e : ∀ j e, gI σ2 700 j e = gI σ 700 j e)
  have h1 := (fun j e => hE.i (hd 701 (by decide)) j e : ∀ j e, gI σ2 701 j e = gI σ 701 j e)
  have h2 := (fun j e => hE.i (hd 702 (by decide)) j e : ∀ j e, gI σ2 702 j e = gI σ 702 j e)
  have h3 := (fun j e => hE.i (hd 703 (by decide)) j e : ∀ j e, gI σ2 703 j e = gI σ 703 j e)
  have h4 := (fun j e => hE.i (hd 1210 (by decide)) j e : ∀ j e, gI σ2 1210 j e = gI σ 1210 j e)
  have h5 := (fun j e => hE.i (hd 1337 (by decide)) j e : ∀ j e, gI σ2 1337 j e = gI σ 1337 j e)
  have h6 := (fun j e => hE.i (hd 1338 (by decide)) j e : ∀ j e, gI σ2 1338 j e = gI σ 1338 j e)
  have h7 := (fun j e => hE.i (hd 1339 (by decide)) j e : ∀ j e, gI σ2 1339 j e = gI σ 1339 j e)
  have h8 := (fun j e => hE.i (hd 1340 (by decide)) j e : ∀ j e, gI σ2 1340 j e = gI σ 1340 j e)
  have h9 := (fun j e => hE.i (hd 1341 (by decide)) j e : ∀ j e, gI σ2 1341 j e = gI σ 1341 j e)
  have h10 := (hE.n 6 : gN σ2 6 = gN σ 6)
  have h11 := (fun j e => hE.p (hd 1209 (by decide)) j e : ∀ j e, gP σ2 1209 j e = gP σ 1209 j e)
  unfold RL_ RL1 at h ⊢
  simp only [h0, h1, h2, h3, h4, h5, h6, h7, h8, h9, h10, h11]
  exact h
def cRG : List Nat := [503, 600, 601, 602, 603, 604, 1212, 1213, 1214, 1348, 1349, 1350, 1351, 1352, 1353, 1354, 1358]
theorem RG.ex {S : List Nat} {σ σ2 : St} (h : RG σ) (hE : Ex S σ σ2) (hd : ∀ c ∈ cRG, c ∉ S) : RG σ2 := by
  have h0 := (fun j e => hE.i (hd 503 (by decide)) j e : ∀ j e, gI σ2 503 j e = gI σ 503 j e)
  have h1 := (fun j e => hE.i (hd 600 (by decide)) j e : ∀ j e, gI σ2 600 j e = gI σ 600 j e)
  have h2 := (fun j e => hE.i (hd 601 (by decide)) j e : ∀ j e, gI σ2 601 j e = gI σ 601 j e)
  have h3 := (fun j e => hE.i (hd 602 (by decide)) j e : ∀ j e, gI σ2 602 j e = gI σ 602 j e)
  have h4 := (fun j e => hE.i (hd 603 (by decide)) j e : ∀ j e, gI σ2 603 j e = gI σ 603 j e)
  have h5 := (fun j e => hE.i (hd 604 (by decide)) j e : ∀ j e, gI σ2 604 j e = gI σ 604 j e)
  have h6 := (fun j e => hE.i (hd 1212 (by decide)) j e : ∀ j e, gI σ2 1212 j e = gI σ 1212 j e)
  have h7 := (fun j e => hE.i (hd 1214 (by decide)) j e : ∀ j e, gI σ2 1214 j e = gI σ 1214 j e)
  have h8 := (fun j e => hE.i (hd 1348 (by decide)) j e : ∀ j e, gI σ2 1348 j e = gI σ 1348 j e)
  have h9 := (fun j e => hE.i (hd 1349 (by decide)) j e : ∀ j e, gI σ2 1349 j e = gI σ 1349 j e)
  have h10 := (fun j e => hE.i (hd 1350 (by decide)) j e : ∀ j e, gI σ2 1350 j e = gI σ 1350 j e)
  have h11 := (fun j e => hE.i (hd 1351 (by decide)) j e : ∀ j e, gI σ2 1351 j e = gI σ 1351 j e)
  have h12 := (fun j e => hE.i (hd 1352 (by decide)) j e : ∀ j e, gI σ2 1352 j e = gI σ 1352 j e)
  have h13 := (fun j e => hE.i (hd 1353 (by decide)) j e : ∀ j e, gI σ2 1353 j e = gI σ 1353 j e)
  have h14 := (fun j e => hE.i (hd 1354 (by decide)) j e : ∀ j e, gI σ2 1354 j e = gI σ 1354 j e)
  have h15 := (fun j e => hE.i (hd 1358 (by decide)) j e : ∀ j e, gI σ2 1358 j e = gI σ 1358 j e)
  have h16 := (hE.n 5 : gN σ2 5 = gN σ 5)
  have h17 := (fun j e => hE.p (hd 1213 (by decide)) j e : ∀ j e, gP σ2 1213 j e = gP σ 1213 j e)
  unfold RG RG1 at h ⊢
  simp only [h0, h1, h2, h3, h4, h5, h6, h7, h8, h9, h10, h11, h12, h13, h14, h15, h16, h17]
  exact h
def cRE : List Nat := [500, 501, 502, 1355, 1356, 1357]
theorem RE.ex {S : List Nat} {σ σ2 : St} (h : RE σ) (hE : Ex S σ σ2) (hd : ∀ c ∈ cRE, c ∉ S) : RE σ2 := by
  have h0 := (fun j e => hE.i (hd 500 (by decide)) j e : ∀ j e, gI σ2 500 j e = gI σ 500 j e)
  have h1 := (fun j e => hE.i (hd 501 (by decide)) j e : ∀ j e, gI σ2 501 j e = gI σ 501 j e)
  have h2 := (fun j e => hE.i (hd 502 (by decide)) j e : ∀ j e, gI σ2 502 j e = gI σ 502 j e)
  have h3 := (fun j e => hE.i (hd 1355 (by decide)) j e : ∀ j e, gI σ2 1355 j e = gI σ 1355 j e)
  have h4 := (fun j e => hE.i (hd 1356 (by decide)) j e : ∀ j e, gI σ2 1356 j e = gI σ 1356 j e)
  have h5 := (fun j e => hE.i (hd 1357 (by decide)) j e : ∀ j e, gI σ2 1357 j e = gI σ 1357 j e)
  unfold RE at h ⊢
  simp only [h0, h1, h2, h3, h4, h5]
  exact h
def cRC : List Nat := [100, 101, 102, 103, 104, 105, 106, 1367, 1368, 1369, 1370, 1371, 1372]
theorem RC.ex {S : List Nat} {σ σ2 : St} (h : RC σ) (hE : Ex S σ σ2) (hd : ∀ c ∈ cRC, c ∉ S) : RC σ2 := by
  have h0 := (fun j e => hE.i (hd 100 (by decide)) j e : ∀ j e, gI σ2 100 j e = gI σ 100 j e)
  have h1 := (fun j e => hE.i (hd 101 (by decide)) j e : ∀ j e, gI σ2 101 j e = gI σ 101 j e)
  have h2 := (fun j e => hE.i (hd 102 (by decide)) j e : ∀ j e, gI σ2 102 j e = gI σ 102 j e)
  have h3 := (fun j e => hE.i (hd 103 (by decide)) j e : ∀ j e, gI σ2 103 j e = gI σ 103 j e)
  have h4 := (fun j e => hE.i (hd 104 (by decide)) j e : ∀ j e, gI σ2 104 j e = gI σ 104 j e)
  have h5 := (fun j e => hE.i (hd 105 (by decide)) j e : ∀ j e, gI σ2 105 j e = gI σ 105 j e)
  have h6 := (fun j e => hE.i (hd 106 (by decide)) j e : ∀ j e, gI σ2 106 j e = gI σ 106 j e)
  have h7 := (fun j e => hE.i (hd 1367 (by decide)) j e : ∀ j e, gI σ2 1367 j e = gI σ 1367 j e)
  have h8 := (fun j e => hE.i (hd 1368 (by decide)) j e : ∀ j e, gI σ2 1368 j e = gI σ 1368 j e)
  have h9 := (fun j e => hE.i (hd 1369 (by decide)) j e : ∀ j e, gI σ2 1369 j e = gI σ 1369 j e)
  have h10 := (fun j e => hE.i (hd 1370 (by decide)) j e : ∀ j e, gI σ2 1370 j e = gI σ 1370 j e)
  have h11 := (fun j e => hE.i (hd 1371 (by decide)) j e : ∀ j e, gI σ2 1371 j e = gI σ 1371 j e)
  have h12 := (fun j e => hE.i (hd 1372 (by decide)) j e : ∀ j e, gI σ2 1372 j e = gI σ 1372 j e)
  unfold RC at h ⊢
  simp only [h0, h1, h2, h3, h4, h5, h6, h7, h8, h9, h10, h11, h12]
  exact h
def cRH : List Nat := [300, 301, 302, 303, 304, 305, 308, 1378, 1379, 1380, 1381, 1382, 1383]
theorem RH.ex {S : List Nat} {σ σ2 : St} (h : RH σ) (hE : Ex S σ σ2) (hd : ∀ c ∈ cRH, c ∉ S) : RH σ2 := by
  have h0 := (fun j e => hE.i (hd 300 (by decide)) j e : ∀ j e, gI σ2 300 j e = gI σ 300 j e)
  have h1 := (fun j e => hE.i (hd 301 (by decide)) j e : ∀ j e, gI σ2 301 j e = gI σ 301 j e)
  have h2 := (fun j e => hE.i (hd 302 (by decide)) j e : ∀ j e, gI σ2 302 j e = gI σ 302 j e)
  have h3 := (fun j e => hE.i (hd 303 (by decide)) j e : ∀ j e, gI σ2 303 j e = gI σ 303 j e)
  have h4 := (fun j e => hE.i (hd 304 (by decide)) j e : ∀ j e, gI σ2 304 j e = gI σ 304 j e)
  have h5 := (fun j e => hE.i (hd 305 (by decide)) j e : ∀ j e, gI σ2 305 j e = gI σ 305 j e)
  have h6 := (fun j e => hE.i (hd 308 (by decide)) j e : ∀ j e, gI σ2 308 j e = gI σ 308 j e)
  have h7 := (fun j e => hE.i (hd 1378 (by decide)) j e : ∀ j e, gI σ2 1378 j e = gI σ 1378 j e)
  have h8 := (fun j e => hE.i (hd 1379 (by decide)) j e : ∀ j e, gI σ2 1379 j e = gI σ 1379 j e)
  have h9 := (fun j e => hE.i (hd 1380 (by decide)) j e : ∀ j e, gI σ2 1380 j e = gI σ 1380 j e)
  have h10 := (fun j e => hE.i (hd 1381 (by decide)) j e : ∀ j e, gI σ2 1381 j e = gI σ 1381 j e)
  have h11 := (fun j e => hE.i (hd 1382 (by decide)) j e : ∀ j e, gI σ2 1382 j e = gI σ 1382 j e)
  have h12 := (fun j e => hE.i (hd 1383 (by decide)) j e : ∀ j e, gI σ2 1383 j e = gI σ 1383 j e)
  unfold RH at h ⊢
  simp only [h0, h1, h2, h3, h4, h5, h6, h7, h8, h9, h10, h11, h12]
  exact h
def cRQ : List Nat := [300, 301, 302, 303, 304, 305, 307, 308]
theorem RQ.ex {S : List Nat} {σ σ2 : St} (h : RQ σ) (hE : Ex S σ σ2) (hd : ∀ c ∈ cRQ, c ∉ S) : RQ σ2 := by
  have h0 := (fun j e => hE.i (hd 300 (by decide)) j e : ∀ j e, gI σ2 300 j e = gI σ 300 j e)
  have h1 := (fun j e => hE.i (hd 301 (by decide)) j e : ∀ j e, gI σ2 301 j e = gI σ 301 j e)
  have h2 := (fun j e => hE.i (hd 302 (by decide)) j e : ∀ j e, gI σ2 302 j e = gI σ 302 j e)
  have h3 := (fun j e => hE.i (hd 303 (by decide)) j e : ∀ j e, gI σ2 303 j e = gI σ 303 j e)
  have h4 := (fun j e => hE.i (hd 304 (by decide)) j e : ∀ j e, gI σ2 304 j e = gI σ 304 j e)
  have h5 := (fun j e => hE.i (hd 305 (by decide)) j e : ∀ j e, gI σ2 305 j e = gI σ 305 j e)
  have h6 := (fun j e => hE.i (hd 308 (by decide)) j e : ∀ j e, gI σ2 308 j e = gI σ 308 j e)
  have h7 := (fun j e => hE.j (hd 307 (by decide)) j e : ∀ j e, gJ σ2 307 j e = gJ σ 307 j e)
  unfold RQ at h ⊢
  simp only [h0, h1, h2, h3, h4, h5, h6, h7]
  exact h
/-- both sides alike -/
def RR (σ : St) : Prop := RT σ ∧ RW σ ∧ RS σ ∧ RF σ ∧ RY σ ∧ RA σ ∧ RL_ σ ∧ RG σ ∧ RE σ ∧ RC σ ∧ RH σ ∧ RQ σ
def dj (a b : List Nat) : Bool := a.all (fun c => !b.contains c)
theorem dj_use {a b : List Nat} (h : dj a b = true) : ∀ c ∈ a, c ∉ b := by
  intro c hc hb
  have := List.all_eq_true.mp h c hc
  simp [hb] at this
