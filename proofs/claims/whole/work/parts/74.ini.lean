/-! the two objects as they are made -/
def stO (f : Option (Unit × St)) : St := match f with
  | some x => x.2
  | none => emp
noncomputable def hI0 (x0 : Nat) (σs : St) : Option (Unit × St) :=
  lt (nwA σs 1302) (fun σ105 => lt (gN σs 1302) (fun j5 => lt (nwA (sP σ105 6302 x0 0 (some j5)) 1303) (fun σ109 => lt (gN (sP σ105 6302 x0 0 (some j5)) 1303) (fun j9 => lt (nwA (sP σ109 6303 x0 0 (some j9)) 1304) (fun σ113 => lt (gN (sP σ109 6303 x0 0 (some j9)) 1304) (fun j13 => lt (nwA (sP σ113 6304 x0 0 (some j13)) 1305) (fun σ117 => lt (gN (sP σ113 6304 x0 0 (some j13)) 1305) (fun j17 => lt (nwA (sP σ117 6305 x0 0 (some j17)) 1306) (fun σ121 => lt (gN (sP σ117 6305 x0 0 (some j17)) 1306) (fun j21 => lt (nwA (sP σ121 6306 x0 0 (some j21)) 1307) (fun σ125 => lt (gN (sP σ121 6306 x0 0 (some j21)) 1307) (fun j25 => lt (nwA (sP σ125 6307 x0 0 (some j25)) 1308) (fun σ129 => lt (gN (sP σ125 6307 x0 0 (some j25)) 1308) (fun j29 => lt (nwA (sP σ129 6308 x0 0 (some j29)) 1309) (fun σ133 => lt (gN (sP σ129 6308 x0 0 (some j29)) 1309) (fun j33 => some ((), (sP σ133 6309 x0 0 (some j33)))))))))))))))))))
noncomputable def hI1 (x0 : Nat) (σs : St) : Option (Unit × St) :=
  lt (nwA σs 1311) (fun σ103 => lt (gN σs 1311) (fun j3 => lt (nwA (sP σ103 6311 x0 0 (some j3)) 1312) (fun σ107 => lt (gN (sP σ103 6311 x0 0 (some j3)) 1312) (fun j7 => lt (nwA (sP σ107 6312 x0 0 (some j7)) 1313) (fun σ111 => lt (gN (sP σ107 6312 x0 0 (some j7)) 1313) (fun j11 => lt (nwA (sP σ111 6313 x0 0 (some j11)) 1314) (fun σ115 => lt (gN (sP σ111 6313 x0 0 (some j11)) 1314) (fun j15 => lt (nwA (sP σ115 6314 x0 0 (some j15)) 1315) (fun σ119 => lt (gN (sP σ115 6314 x0 0 (some j15)) 1315) (fun j19 => lt (nwA (sP σ119 6315 x0 0 (some j19)) 1316) (fun σ123 => lt (gN (sP σ119 6315 x0 0 (some j19)) 1316) (fun j23 => lt (nwA (sP σ123 6316 x0 0 (some j23)) 1317) (fun σ127 => lt (gN (sP σ123 6316 x0 0 (some j23)) 1317) (fun j27 => lt (nwA (sP σ127 6317 x0 0 (some j27)) 1318) (fun σ131 => lt (gN (sP σ127 6317 x0 0 (some j27)) 1318) (fun j31 => some ((), (sP σ131 6318 x0 0 (some j31)))))))))))))))))))
noncomputable def hI2 (x0 : Nat) (σs : St) : Option (Unit × St) :=
  lt (nwA σs 1319) (fun σ103 => lt (gN σs 1319) (fun j3 => lt (nwA (sP σ103 6319 x0 0 (some j3)) 1320) (fun σ107 => lt (gN (sP σ103 6319 x0 0 (some j3)) 1320) (fun j7 => lt (nwA (sP σ107 6320 x0 0 (some j7)) 1321) (fun σ111 => lt (gN (sP σ107 6320 x0 0 (some j7)) 1321) (fun j11 => lt (nwA (sP σ111 6321 x0 0 (some j11)) 1322) (fun σ115 => lt (gN (sP σ111 6321 x0 0 (some j11)) 1322) (fun j15 => lt (nwA (sP σ115 6322 x0 0 (some j15)) 1323) (fun σ119 => lt (gN (sP σ115 6322 x0 0 (some j15)) 1323) (fun j19 => lt (nwA (sP σ119 6323 x0 0 (some j19)) 1324) (fun σ123 => lt (gN (sP σ119 6323 x0 0 (some j19)) 1324) (fun j23 => lt (nwA (sP σ123 6324 x0 0 (some j23)) 1325) (fun σ127 => lt (gN (sP σ123 6324 x0 0 (some j23)) 1325) (fun j27 => lt (nwA (sP σ127 6325 x0 0 (some j27)) 1327) (fun σ131 => lt (gN (sP σ127 6325 x0 0 (some j27)) 1327) (fun j31 => some ((), (sP σ131 6327 x0 0 (some j31)))))))))))))))))))
noncomputable def hI3 (x0 : Nat) (σs : St) : Option (Unit × St) :=
  lt (nwA σs 1328) (fun σ103 => lt (gN σs 1328) (fun j3 => lt (nwA (sP σ103 6328 x0 0 (some j3)) 1329) (fun σ107 => lt (gN (sP σ103 6328 x0 0 (some j3)) 1329) (fun j7 => lt (nwA (sP σ107 6329 x0 0 (some j7)) 1330) (fun σ111 => lt (gN (sP σ107 6329 x0 0 (some j7)) 1330) (fun j11 => lt (nwA (sP σ111 6330 x0 0 (some j11)) 1331) (fun σ115 => lt (gN (sP σ111 6330 x0 0 (some j11)) 1331) (fun j15 => lt (nwA (sP σ115 6331 x0 0 (some j15)) 1332) (fun σ119 => lt (gN (sP σ115 6331 x0 0 (some j15)) 1332) (fun j19 => lt (nwA (sP σ119 6332 x0 0 (some j19)) 1333) (fun σ123 => lt (gN (sP σ119 6332 x0 0 (some j19)) 1333) (fun j23 => lt (nwA (sP σ123 6333 x0 0 (some j23)) 1334) (fun σ127 => lt (gN (sP σ123 6333 x0 0 (some j23)) 1334) (fun j27 => lt (nwA (sI (sP σ127 6334 x0 0 (some j27)) 1335 x0 0 30) 1336) (fun σ134 => lt (gN (sI (sP σ127 6334 x0 0 (some j27)) 1335 x0 0 30) 1336) (fun j34 => some ((), (sP σ134 6336 x0 0 (some j34)))))))))))))))))))
noncomputable def hI4 (x0 : Nat) (σs : St) : Option (Unit × St) :=
  lt (nwA σs 1338) (fun σ103 => lt (gN σs 1338) (fun j3 => lt (nwA (sP σ103 6338 x0 0 (some j3)) 1339) (fun σ107 => lt (gN (sP σ103 6338 x0 0 (some j3)) 1339) (fun j7 => lt (nwA (sP σ107 6339 x0 0 (some j7)) 1340) (fun σ111 => lt (gN (sP σ107 6339 x0 0 (some j7)) 1340) (fun j11 => lt (nwA (sP σ111 6340 x0 0 (some j11)) 1341) (fun σ115 => lt (gN (sP σ111 6340 x0 0 (some j11)) 1341) (fun j15 => lt (nwA (sP σ115 6341 x0 0 (some j15)) 1344) (fun σ119 => lt (gN (sP σ115 6341 x0 0 (some j15)) 1344) (fun j19 => lt (nwA (sP σ119 6344 x0 0 (some j19)) 1346) (fun σ123 => lt (gN (sP σ119 6344 x0 0 (some j19)) 1346) (fun j23 => lt (nwA (sP σ123 6346 x0 0 (some j23)) 1347) (fun σ127 => lt (gN (sP σ123 6346 x0 0 (some j23)) 1347) (fun j27 => lt (nwA (sP σ127 6347 x0 0 (some j27)) 1348) (fun σ131 => lt (gN (sP σ127 6347 x0 0 (some j27)) 1348) (fun j31 => some ((), (sP σ131 6348 x0 0 (some j31)))))))))))))))))))
noncomputable def hI5 (x0 : Nat) (σs : St) : Option (Unit × St) :=
  lt (nwA σs 1350) (fun σ103 => lt (gN σs 1350) (fun j3 => lt (nwA (sP σ103 6350 x0 0 (some j3)) 1351) (fun σ107 => lt (gN (sP σ103 6350 x0 0 (some j3)) 1351) (fun j7 => lt (nwA (sP σ107 6351 x0 0 (some j7)) 1352) (fun σ111 => lt (gN (sP σ107 6351 x0 0 (some j7)) 1352) (fun j11 => lt (nwA (sP σ111 6352 x0 0 (some j11)) 1353) (fun σ115 => lt (gN (sP σ111 6352 x0 0 (some j11)) 1353) (fun j15 => lt (nwA (sP σ115 6353 x0 0 (some j15)) 1354) (fun σ119 => lt (gN (sP σ115 6353 x0 0 (some j15)) 1354) (fun j19 => lt (nwA (sI (sI (sP σ119 6354 x0 0 (some j19)) 1355 x0 0 100) 1356 x0 0 900) 1357) (fun σ129 => lt (gN (sI (sI (sP σ119 6354 x0 0 (some j19)) 1355 x0 0 100) 1356 x0 0 900) 1357) (fun j29 => lt (nwA (sP σ129 6357 x0 0 (some j29)) 1358) (fun σ133 => lt (gN (sP σ129 6357 x0 0 (some j29)) 1358) (fun j33 => lt (nwA (sP σ133 6358 x0 0 (some j33)) 1359) (fun σ137 => lt (gN (sP σ133 6358 x0 0 (some j33)) 1359) (fun j37 => some ((), (sP σ137 6359 x0 0 (some j37)))))))))))))))))))
noncomputable def hI6 (x0 : Nat) (σs : St) : Option (Unit × St) :=
  lt (nwA σs 1360) (fun σ103 => lt (gN σs 1360) (fun j3 => lt (nwA (sP σ103 6360 x0 0 (some j3)) 1361) (fun σ107 => lt (gN (sP σ103 6360 x0 0 (some j3)) 1361) (fun j7 => lt (nwA (sP σ107 6361 x0 0 (some j7)) 1363) (fun σ111 => lt (gN (sP σ107 6361 x0 0 (some j7)) 1363) (fun j11 => lt (nwA (sP σ111 6363 x0 0 (some j11)) 1364) (fun σ115 => lt (gN (sP σ111 6363 x0 0 (some j11)) 1364) (fun j15 => lt (nwA (sP σ115 6364 x0 0 (some j15)) 1367) (fun σ119 => lt (gN (sP σ115 6364 x0 0 (some j15)) 1367) (fun j19 => lt (nwA (sP σ119 6367 x0 0 (some j19)) 1368) (fun σ123 => lt (gN (sP σ119 6367 x0 0 (some j19)) 1368) (fun j23 => lt (nwA (sP σ123 6368 x0 0 (some j23)) 1370) (fun σ127 => lt (gN (sP σ123 6368 x0 0 (some j23)) 1370) (fun j27 => lt (nwA (sP σ127 6370 x0 0 (some j27)) 1371) (fun σ131 => lt (gN (sP σ127 6370 x0 0 (some j27)) 1371) (fun j31 => some ((), (sP σ131 6371 x0 0 (some j31)))))))))))))))))))
noncomputable def hI7 (x0 : Nat) (σs : St) : Option (Unit × St) :=
  lt (nwA σs 1372) (fun σ103 => lt (gN σs 1372) (fun j3 => lt (nwA (sP σ103 6372 x0 0 (some j3)) 1373) (fun σ107 => lt (gN (sP σ103 6372 x0 0 (some j3)) 1373) (fun j7 => lt (nwA (sP σ107 6373 x0 0 (some j7)) 1374) (fun σ111 => lt (gN (sP σ107 6373 x0 0 (some j7)) 1374) (fun j11 => lt (nwA (sP σ111 6374 x0 0 (some j11)) 1375) (fun σ115 => lt (gN (sP σ111 6374 x0 0 (some j11)) 1375) (fun j15 => lt (nwA (sP σ115 6375 x0 0 (some j15)) 1376) (fun σ119 => lt (gN (sP σ115 6375 x0 0 (some j15)) 1376) (fun j19 => lt (nwA (sP σ119 6376 x0 0 (some j19)) 1377) (fun σ123 => lt (gN (sP σ119 6376 x0 0 (some j19)) 1377) (fun j23 => lt (nwA (sP σ123 6377 x0 0 (some j23)) 1379) (fun σ127 => lt (gN (sP σ123 6377 x0 0 (some j23)) 1379) (fun j27 => lt (nwA (sP σ127 6379 x0 0 (some j27)) 1380) (fun σ131 => lt (gN (sP σ127 6379 x0 0 (some j27)) 1380) (fun j31 => some ((), (sP σ131 6380 x0 0 (some j31)))))))))))))))))))
noncomputable def hI8 (x0 : Nat) (σs : St) : Option (Unit × St) :=
  lt (nwA σs 1381) (fun σ103 => lt (gN σs 1381) (fun j3 => lt (nwA (sP σ103 6381 x0 0 (some j3)) 1382) (fun σ107 => lt (gN (sP σ103 6381 x0 0 (some j3)) 1382) (fun j7 => lt (nwA (sI (sP σ107 6382 x0 0 (some j7)) 1383 x0 0 1) 1385) (fun σ114 => lt (gN (sI (sP σ107 6382 x0 0 (some j7)) 1383 x0 0 1) 1385) (fun j14 => lt (nwA (sP σ114 6385 x0 0 (some j14)) 1386) (fun σ118 => lt (gN (sP σ114 6385 x0 0 (some j14)) 1386) (fun j18 => lt (nwA (sP σ118 6386 x0 0 (some j18)) 1387) (fun σ122 => lt (gN (sP σ118 6386 x0 0 (some j18)) 1387) (fun j22 => lt (nwA (sP σ122 6387 x0 0 (some j22)) 1388) (fun σ126 => lt (gN (sP σ122 6387 x0 0 (some j22)) 1388) (fun j26 => lt (nwA (sP σ126 6388 x0 0 (some j26)) 1389) (fun σ130 => lt (gN (sP σ126 6388 x0 0 (some j26)) 1389) (fun j30 => lt (nwA (sP σ130 6389 x0 0 (some j30)) 1390) (fun σ134 => lt (gN (sP σ130 6389 x0 0 (some j30)) 1390) (fun j34 => some ((), (sP σ134 6390 x0 0 (some j34)))))))))))))))))))
noncomputable def hI9 (x0 : Nat) (σs : St) : Option (Unit × St) :=
  lt (nwA σs 1391) (fun σ103 => lt (gN σs 1391) (fun j3 => some ((), (sP σ103 6391 x0 0 (some j3)))))
noncomputable def in0 : St := stO (fX11_init 0 (nwO emp 11))
noncomputable def in1 : St := stO (hI0 0 (nwO in0 12))
noncomputable def in2 : St := stO (hI1 0 (in1))
noncomputable def in3 : St := stO (hI2 0 (in2))
noncomputable def in4 : St := stO (hI3 0 (in3))
noncomputable def in5 : St := stO (hI4 0 (in4))
noncomputable def in6 : St := stO (hI5 0 (in5))
noncomputable def in7 : St := stO (hI6 0 (in6))
noncomputable def in8 : St := stO (hI7 0 (in7))
noncomputable def in9 : St := stO (hI8 0 (in8))
noncomputable def in10 : St := stO (hI9 0 (in9))
def iA (σ : St) : Nat → St
  | 0 => σ
  | k + 1 => sI (sI (iA σ k) 1323 0 k 255) 1325 0 k 364
def iB (σ : St) : Nat → St
  | 0 => σ
  | k + 1 => sI (iB σ k) 1367 0 k (-9)
def iC (σ : St) : Nat → St
  | 0 => σ
  | k + 1 => sI (iC σ k) 1382 0 k 100
theorem iA_p (σ : St) (k : Nat) : Ex [1323, 1325] σ (iA σ k) := by
  induction k with
  | zero => exact Ex.rf
  | succ k ih => exact (ih.sI (by decide)).sI (by decide)
theorem iB_p (σ : St) (k : Nat) : Ex [1367] σ (iB σ k) := by
  induction k with
  | zero => exact Ex.rf
  | succ k ih => exact ih.sI (by decide)
theorem iC_p (σ : St) (k : Nat) : Ex [1382] σ (iC σ k) := by
  induction k with
  | zero => exact Ex.rf
  | succ k ih => exact ih.sI (by decide)
noncomputable def in12 : St := sI (sI (sI (iC (iB (iA in10 8) 4) 9) 1336 0 0 3) 1336 0 1 1) 1336 0 2 5
set_option maxRecDepth 20000 in
theorem in0_eq : fX11_init 0 (nwO emp 11) = some ((), in0) := rfl
set_option maxRecDepth 20000 in
theorem in10_eq : fX12_init 0 (nwO in0 12) = fX12_init_t 0 in10 := rfl
theorem in_n : gN in10 1323 = 1 ∧ gN in10 1325 = 1 ∧ gN in10 1367 = 1 ∧ gN in10 1382 = 1 ∧ gN in10 1336 = 1 ∧ gN in0 12 = 0 ∧ gN (nwO in0 12) 11 = 1 := by decide +kernel
theorem in_p : gP in10 6323 0 0 = some 0 ∧ gP in10 6325 0 0 = some 0 ∧ gP in10 6367 0 0 = some 0 ∧ gP in10 6382 0 0 = some 0 ∧ gP in10 6336 0 0 = some 0 := by decide +kernel
theorem in12_eq : fX12_init_t 0 in10 = some ((), in12) := by
  obtain ⟨n1, n2, n3, n4, n5, -⟩ := in_n
  obtain ⟨p1, p2, p3, p4, p5⟩ := in_p
  have h1 : wh (fun s => fX12_init_l619 0 s.1 s.2) ((0, in10)) = some (iA in10 8) := by
    have hw := wh_seq (f := fun s => fX12_init_l619 0 s.1 s.2) (r := iA in10 8) 8 (fun k => ((k : Int), iA in10 k)) ?_ ?_
    · exact hw
    · intro k hk
      have hx := iA_p in10 k
      show fX12_init_l619 0 (k : Int) (iA in10 k) = some (.inl ((k : Int) + 1, sI (sI (iA in10 k) 1323 0 k 255) 1325 0 k 364))
      unfold fX12_init_l619
      rw [if_neg (by omega), lt_def, hx.p (c := 6323) (by decide), p1, mop_s, ck_n (by rw [hx.n, n1]; decide), ck_x (by omega) (by omega), lt_def, hx.p (c := 6325) (by decide), p2, mop_s, ck_n (by rw [gN_sI, hx.n, n2]; decide), ck_x (by omega) (by omega), ck_i (by omega) (by omega), Int.toNat_natCast]
    · show fX12_init_l619 0 (8 : Int) (iA in10 8) = _
      unfold fX12_init_l619
      rw [if_pos (by decide)]
  have hxa := iA_p in10 8
  have h2 : wh (fun s => fX12_init_l651 0 s.1 s.2) ((0, iA in10 8)) = some (iB (iA in10 8) 4) := by
    have hw := wh_seq (f := fun s => fX12_init_l651 0 s.1 s.2) (r := iB (iA in10 8) 4) 4 (fun k => ((k : Int), iB (iA in10 8) k)) ?_ ?_
    · exact hw
    · intro k hk
      have hx := iB_p (iA in10 8) k
      show fX12_init_l651 0 (k : Int) (iB (iA in10 8) k) = some (.inl ((k : Int) + 1, sI (iB (iA in10 8) k) 1367 0 k (-9)))
      unfold fX12_init_l651
      rw [if_neg (by omega), lt_def, hx.p (c := 6367) (by decide), hxa.p (c := 6367) (by decide), p3, mop_s, ck_n (by rw [hx.n, hxa.n, n3]; decide), ck_x (by omega) (by omega), ck_i (by omega) (by omega), Int.toNat_natCast]
    · show fX12_init_l651 0 (4 : Int) (iB (iA in10 8) 4) = _
      unfold fX12_init_l651
      rw [if_pos (by decide)]
  have hxb := iB_p (iA in10 8) 4
  have h3 : wh (fun s => fX12_init_l672 0 s.1 s.2) ((0, iB (iA in10 8) 4)) = some (iC (iB (iA in10 8) 4) 9) := by
    have hw := wh_seq (f := fun s => fX12_init_l672 0 s.1 s.2) (r := iC (iB (iA in10 8) 4) 9) 9 (fun k => ((k : Int), iC (iB (iA in10 8) 4) k)) ?_ ?_
    · exact hw
    · intro k hk
      have hx := iC_p (iB (iA in10 8) 4) k
      show fX12_init_l672 0 (k : Int) (iC (iB (iA in10 8) 4) k) = some (.inl ((k : Int) + 1, sI (iC (iB (iA in10 8) 4) k) 1382 0 k 100))
      unfold fX12_init_l672
      rw [if_neg (by omega), lt_def, hx.p (c := 6382) (by decide), hxb.p (c := 6382) (by decide), hxa.p (c := 6382) (by decide), p4, mop_s, ck_n (by rw [hx.n, hxb.n, hxa.n, n4]; decide), ck_x (by omega) (by omega), ck_i (by omega) (by omega), Int.toNat_natCast]
    · show fX12_init_l672 0 (9 : Int) (iC (iB (iA in10 8) 4) 9) = _
      unfold fX12_init_l672
      rw [if_pos (by decide)]
  have hxc := iC_p (iB (iA in10 8) 4) 9
  have q5 : gP (iC (iB (iA in10 8) 4) 9) 6336 0 0 = some 0 := by rw [hxc.p (c := 6336) (by decide), hxb.p (c := 6336) (by decide), hxa.p (c := 6336) (by decide), p5]
  have m5 : gN (iC (iB (iA in10 8) 4) 9) 1336 = 1 := by rw [hxc.n, hxb.n, hxa.n, n5]
  unfold fX12_init_t fX12_init_j619 fX12_init_j649 fX12_init_j651 fX12_init_j670 fX12_init_j672 fX12_init_j692
  rw [h1, bnk_some, h2, bnk_some, h3, bnk_some, lt_def, q5, mop_s, ck_n (by rw [m5]; decide), lt_def, mop_s, ck_n (by rw [gN_sI, m5]; decide), lt_def, mop_s, ck_n (by rw [gN_sI, gN_sI, m5]; decide)]
  rfl
theorem in_k : (∀ K, K < 13 → gN in12 K ≤ 1) ∧ gN in12 10 = 0 ∧ gN in12 7 = 0 ∧ gN in12 8 = 0 ∧ gN in12 6 = 0 ∧ gN in12 5 = 0 ∧ gN in12 702 = 0 ∧ gN in12 904 = 0 := by decide +kernel
theorem in_s1 : ∀ K, K < 13 → ∀ k, k < 100 → (ftl K)[k]? = some 2 → 0 < gN in12 K → gP in12 (5000 + (100 * (K + 1) + k)) 0 0 = some 0 := by decide +kernel
theorem in_s2 : ∀ K, K < 13 → ∀ k, k < 100 → 3 ≤ ((ftl K)[k]?).getD 0 → 0 < gN in12 K → gP in12 (5000 + (100 * (K + 1) + k)) 0 0 = some 0 := by decide +kernel
theorem in_s3 : ∀ K, K ∈ sgl → gN in12 K = 1 := by decide +kernel
theorem in_SF : SF in12 := by
  obtain ⟨k1, k2, k3, k4, k5, k6, k7, k8⟩ := in_k
  refine ⟨fun K k j hk hj => ?_, fun K k j K2 hk hj => ?_, in_s3, by rw [k7, k5], by rw [k8, k4]⟩
  · obtain ⟨h1, h2⟩ := tb_K hk
    have h3 := k1 K h1
    have : j = 0 := by omega
    subst this
    exact in_s1 K h1 k h2 hk (by omega)
  · obtain ⟨h1, h2⟩ := tb_K hk
    have h3 := k1 K h1
    have : j = 0 := by omega
    subst this
    exact in_s2 K h1 k h2 (by rw [hk]; show 3 ≤ K2 + 3; omega) (by omega)
theorem ini_c : gI in12 1300 0 0 = 0 ∧ gI in12 1200 0 0 = 0 ∧ gI in12 1301 0 0 = 0 ∧ gI in12 1001 0 0 = 0 ∧ gI in12 1310 0 0 = 0 ∧ gI in12 1204 0 0 = 0 ∧ gI in12 1326 0 0 = 0 ∧ gI in12 1206 0 0 = 0 ∧ gI in12 1335 0 0 = 30 ∧ gI in12 1207 0 0 = 30 ∧ gI in12 1337 0 0 = 0 ∧ gI in12 1210 0 0 = 0 ∧ gI in12 1349 0 0 = 0 ∧ gI in12 1214 0 0 = 0 ∧ gI in12 1212 0 0 = 0 ∧ gI in12 503 0 0 = 0 ∧ gI in12 1355 0 0 = 100 ∧ gI in12 500 0 0 = 100 ∧ gI in12 1356 0 0 = 900 ∧ gI in12 501 0 0 = 900 ∧ gI in12 1369 0 0 = 0 ∧ gI in12 102 0 0 = 0 ∧ gI in12 1378 0 0 = 0 ∧ gI in12 300 0 0 = 0 ∧ gI in12 1383 0 0 = 1 ∧ gI in12 305 0 0 = 1 ∧ gI in12 308 0 0 = 0 := by decide +kernel
theorem in_f : ∀ i, i < 8 → gI in12 1323 0 i = gI in12 200 0 i ∧ gI in12 1324 0 i = gI in12 201 0 i ∧ gI in12 1325 0 i = gI in12 202 0 i ∧ (0 ≤ gI in12 200 0 i ∧ gI in12 200 0 i ≤ 255) ∧ (0 ≤ gI in12 201 0 i ∧ gI in12 201 0 i ≤ 364) ∧ (0 ≤ gI in12 202 0 i ∧ gI in12 202 0 i ≤ 364) := by decide +kernel
theorem in_a : ∀ i, i < 3 → gI in12 1336 0 i = gI in12 1208 0 i ∧ 0 ≤ gI in12 1208 0 i ∧ gI in12 1208 0 i ≤ 99 := by decide +kernel
theorem ini_m : ∀ i, i < 4 → gI in12 1367 0 i = gI in12 100 0 i ∧ gI in12 1368 0 i = gI in12 101 0 i ∧ (gI in12 100 0 i = -9 ∨ (0 ≤ gI in12 100 0 i ∧ gI in12 100 0 i ≤ 7)) ∧ (0 ≤ gI in12 101 0 i ∧ gI in12 101 0 i ≤ 9999) := by decide +kernel
theorem in_h : ∀ i, i < 9 → gI in12 1382 0 i = gI in12 304 0 i ∧ 0 ≤ gI in12 304 0 i ∧ gI in12 304 0 i ≤ 100 := by decide +kernel
set_option maxRecDepth 20000 in
theorem in_z (i : Nat) : gI in12 1308 0 i = 0 ∧ gI in12 1331 0 i = 0 ∧ gI in12 1333 0 i = 0 ∧ gI in12 1334 0 i = 0 ∧ gI in12 1340 0 i = 0 ∧ gI in12 1348 0 i = 0 ∧ gI in12 1358 0 i = 0 ∧ gI in12 1357 0 i = 0 ∧ gI in12 502 0 i = 0 := ⟨rfl, rfl, rfl, rfl, rfl, rfl, rfl, rfl, rfl⟩
theorem rb0 {n : Nat} {f : Nat → Int} (h : ∀ k, f k = 0) : RB 0 n f := ⟨0, rfl, Nat.two_pow_pos n, fun k _ => by rw [h k, Nat.zero_testBit]; rfl⟩
theorem rr_ini : INI RR := by
  obtain ⟨n1, n2, n3, n4, n5, n6, n7⟩ := in_n
  obtain ⟨k1, k2, k3, k4, k5, k6, k7, k8⟩ := in_k
  obtain ⟨c1, c2, c3, c4, c5, c6, c7, c8, c9, d1, d2, d3, d4, d5, d6, d7, d8, d9, e1, e2, e3, e4, e5, e6, e7, e8, e9⟩ := ini_c
  have hR : RR in12 := by
    refine ⟨?_, ?_, ?_, in_f, ?_, ?_, ?_, ?_, ?_, ?_, ?_, ?_⟩
    · unfold RT; rw [c1, c2]; decide
    · unfold RW; rw [c3, c4, k2]
      exact ⟨rfl, rfl, by decide, fun i hi => absurd hi (Nat.not_lt_zero i), fun i _ => (in_z i).1⟩
    · unfold RS; rw [c5, c6, k3]
      exact ⟨rfl, rfl, by decide, fun i hi => absurd hi (Nat.not_lt_zero i)⟩
    · unfold RY; rw [c7, c8, k4]
      exact ⟨rfl, rfl, by decide, fun i hi => absurd hi (Nat.not_lt_zero i), fun i _ => ⟨(in_z i).2.1, (in_z i).2.2.1, (in_z i).2.2.2.1⟩⟩
    · unfold RA; rw [c9, d1]
      exact ⟨rfl, by decide, in_a⟩
    · unfold RL_; rw [d2, d3, k5]
      exact ⟨rfl, rfl, by decide, fun i hi => absurd hi (Nat.not_lt_zero i), fun i _ => (in_z i).2.2.2.2.1⟩
    · unfold RG; rw [d4, d5, k6, d6, d7]
      exact ⟨rfl, rfl, by decide, fun i hi => absurd hi (Nat.not_lt_zero i), rb0 (fun k => (in_z k).2.2.2.2.2.1), rb0 (fun k => (in_z k).2.2.2.2.2.2.1)⟩
    · unfold RE; rw [d8, d9, e1, e2]
      refine ⟨rfl, rfl, by decide, by decide, fun a _ => ?_, fun a b _ _ => ?_⟩
      · rw [(in_z a).2.2.2.2.2.2.2.2]
        exact rb0 (fun k => (in_z _).2.2.2.2.2.2.2.1)
      · rw [(in_z _).2.2.2.2.2.2.2.1, (in_z _).2.2.2.2.2.2.2.1]
    · unfold RC; rw [e3, e4]
      exact ⟨ini_m, rfl, by decide, fun i hi => by omega, fun i hi => by omega, fun i j _ hj => by omega⟩
    · unfold RH; rw [e5, e6, e7, e8, e9]
      exact ⟨rfl, by decide, fun i hi => by omega, in_h, rfl, by decide, Or.inl rfl⟩
    · unfold RQ; rw [e9]
      intro z
      exact absurd z (by decide)
  unfold INI
  rw [in0_eq, bnd_some, n6, in10_eq, in12_eq, bnd_some, ckp_pos ⟨rfl, n7, in_SF, hR⟩]
  exact ⟨(), rfl, trivial⟩
