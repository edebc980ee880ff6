noncomputable def fX12_init_j692 (x0 : Nat) (σ1 : St) : Option (Unit × St) :=
  lt (gP σ1 6336 x0 0) (fun r3 => mop r3 (fun j5 => ck (j5 < gN σ1 1336) (lt (gP σ1 6336 x0 0) (fun r8 => mop r8 (fun j10 => ck (j10 < gN (sI σ1 1336 j5 0 3) 1336) (lt (gP σ1 6336 x0 0) (fun r13 => mop r13 (fun j15 => ck (j15 < gN (sI (sI σ1 1336 j5 0 3) 1336 j10 1 1) 1336) (some ((), sI (sI (sI σ1 1336 j5 0 3) 1336 j10 1 1) 1336 j15 2 5))) none))) none))) none)
noncomputable def fX12_init_l672 (x0 : Nat) (x1 : Int) (σ1 : St) : Option ((Int × St) ⊕ St) :=
  if 9 ≤ x1 then (some (.inr σ1)) else (lt (gP σ1 6382 x0 0) (fun r21 => mop r21 (fun j23 => ck (j23 < gN σ1 1382) (ck (0 ≤ x1 ∧ x1 < 9) (ck (inr (x1 + 1)) (some (.inl ((x1 + 1, sI σ1 1382 j23 x1.toNat 100))))))) none))
noncomputable def fX12_init_j672 (x0 : Nat) (x1 : Int) (σ1 : St) : Option (Unit × St) :=
  bnk (wh (fun s => fX12_init_l672 x0 s.1 s.2) ((x1, σ1))) (fun e => fX12_init_j692 x0 e)
noncomputable def fX12_init_j670 (x0 : Nat) (σ1 : St) : Option (Unit × St) :=
  fX12_init_j672 x0 0 σ1
noncomputable def fX12_init_l651 (x0 : Nat) (x1 : Int) (σ1 : St) : Option ((Int × St) ⊕ St) :=
  if 4 ≤ x1 then (some (.inr σ1)) else (lt (gP σ1 6367 x0 0) (fun r33 => mop r33 (fun j35 => ck (j35 < gN σ1 1367) (ck (0 ≤ x1 ∧ x1 < 4) (ck (inr (x1 + 1)) (some (.inl ((x1 + 1, sI σ1 1367 j35 x1.toNat ((-9))))))))) none))
noncomputable def fX12_init_j651 (x0 : Nat) (x1 : Int) (σ1 : St) : Option (Unit × St) :=
  bnk (wh (fun s => fX12_init_l651 x0 s.1 s.2) ((x1, σ1))) (fun e => fX12_init_j670 x0 e)
noncomputable def fX12_init_j649 (x0 : Nat) (σ1 : St) : Option (Unit × St) :=
  fX12_init_j651 x0 0 σ1
noncomputable def fX12_init_l619 (x0 : Nat) (x1 : Int) (σ1 : St) : Option ((Int × St) ⊕ St) :=
  if 8 ≤ x1 then (some (.inr σ1)) else (lt (gP σ1 6323 x0 0) (fun r45 => mop r45 (fun j47 => ck (j47 < gN σ1 1323) (ck (0 ≤ x1 ∧ x1 < 8) (lt (gP σ1 6325 x0 0) (fun r51 => mop r51 (fun j53 => ck (j53 < gN (sI σ1 1323 j47 x1.toNat 255) 1325) (ck (0 ≤ x1 ∧ x1 < 8) (ck (inr (x1 + 1)) (some (.inl ((x1 + 1, sI (sI σ1 1323 j47 x1.toNat 255) 1325 j53 x1.toNat 364))))))) none)))) none))
noncomputable def fX12_init_j619 (x0 : Nat) (x1 : Int) (σ1 : St) : Option (Unit × St) :=
  bnk (wh (fun s => fX12_init_l619 x0 s.1 s.2) ((x1, σ1))) (fun e => fX12_init_j649 x0 e)
noncomputable def fX12_init_t (x0 : Nat) (σ : St) : Option (Unit × St) :=
  fX12_init_j619 x0 0 σ
noncomputable def fX12_init_s9 (x0 : Nat) (σs : St) : Option (Unit × St) :=
  lt (nwA σs 1391) (fun σ103 => lt (gN σs 1391) (fun j3 => fX12_init_t x0 (sP σ103 6391 x0 0 (some j3))))
noncomputable def fX12_init_s8 (x0 : Nat) (σs : St) : Option (Unit × St) :=
  lt (nwA σs 1381) (fun σ103 => lt (gN σs 1381) (fun j3 => lt (nwA (sP σ103 6381 x0 0 (some j3)) 1382) (fun σ107 => lt (gN (sP σ103 6381 x0 0 (some j3)) 1382) (fun j7 => lt (nwA (sI (sP σ107 6382 x0 0 (some j7)) 1383 x0 0 1) 1385) (fun σ114 => lt (gN (sI (sP σ107 6382 x0 0 (some j7)) 1383 x0 0 1) 1385) (fun j14 => lt (nwA (sP σ114 6385 x0 0 (some j14)) 1386) (fun σ118 => lt (gN (sP σ114 6385 x0 0 (some j14)) 1386) (fun j18 => lt (nwA (sP σ118 6386 x0 0 (some j18)) 1387) (fun σ122 => lt (gN (sP σ118 6386 x0 0 (some j18)) 1387) (fun j22 => lt (nwA (sP σ122 6387 x0 0 (some j22)) 1388) (fun σ126 => lt (gN (sP σ122 6387 x0 0 (some j22)) 1388) (fun j26 => lt (nwA (sP σ126 6388 x0 0 (some j26)) 1389) (fun σ130 => lt (gN (sP σ126 6388 x0 0 (some j26)) 1389) (fun j30 => lt (nwA (sP σ130 6389 x0 0 (some j30)) 1390) (fun σ134 => lt (gN (sP σ130 6389 x0 0 (some j30)) 1390) (fun j34 => fX12_init_s9 x0 (sP σ134 6390 x0 0 (some j34))))))))))))))))))
noncomputable def fX12_init_s7 (x0 : Nat) (σs : St) : Option (Unit × St) :=
  lt (nwA σs 1372) (fun σ103 => lt (gN σs 1372) (fun j3 => lt (nwA (sP σ103 6372 x0 0 (some j3)) 1373) (fun σ107 => lt (gN (sP σ103 6372 x0 0 (some j3)) 1373) (fun j7 => lt (nwA (sP σ107 6373 x0 0 (some j7)) 1374) (fun σ111 => lt (gN (sP σ107 6373 x0 0 (some j7)) 1374) (fun j11 => lt (nwA (sP σ111 6374 x0 0 (some j11)) 1375) (fun σ115 => lt (gN (sP σ111 6374 x0 0 (some j11)) 1375) (fun j15 => lt (nwA (sP σ115 6375 x0 0 (some j15)) 1376) (fun σ119 => lt (gN (sP σ115 6375 x0 0 (some j15)) 1376) (fun j19 => lt (nwA (sP σ119 6376 x0 0 (some j19)) 1377) (fun σ123 => lt (gN (sP σ119 6376 x0 0 (some j19)) 1377) (fun j23 => lt (nwA (sP σ123 6377 x0 0 (some j23)) 1379) (fun σ127 => lt (gN (sP σ123 6377 x0 0 (some j23)) 1379) (fun j27 => lt (nwA (sP σ127 6379 x0 0 (some j27)) 1380) (fun σ131 => lt (gN (sP σ127 6379 x0 0 (some j27)) 1380) (fun j31 => fX12_init_s8 x0 (sP σ131 6380 x0 0 (some j31))))))))))))))))))
noncomputable def fX12_init_s6 (x0 : Nat) (σs : St) : Option (Unit × St) :=
  lt (nwA σs 1360) (fun σ103 => lt (gN σs 1360) (fun j3 => lt (nwA (sP σ103 6360 x0 0 (some j3)) 1361) (fun σ107 => lt (gN (sP σ103 6360 x0 0 (some j3)) 1361) (fun j7 => lt (nwA (sP σ107 6361 x0 0 (some j7)) 1363) (fun σ111 => lt (gN (sP σ107 6361 x0 0 (some j7)) 1363) (fun j11 => lt (nwA (sP σ111 6363 x0 0 (some j11)) 1364) (fun σ115 => lt (gN (sP σ111 6363 x0 0 (some j11)) 1364) (fun j15 => lt (nwA (sP σ115 6364 x0 0 (some j15)) 1367) (fun σ119 => lt (gN (sP σ115 6364 x0 0 (some j15)) 1367) (fun j19 => lt (nwA (sP σ119 6367 x0 0 (some j19)) 1368) (fun σ123 => lt (gN (sP σ119 6367 x0 0 (some j19)) 1368) (fun j23 => lt (nwA (sP σ123 6368 x0 0 (some j23)) 1370) (fun σ127 => lt (gN (sP σ123 6368 x0 0 (some j23)) 1370) (fun j27 => lt (nwA (sP σ127 6370 x0 0 (some j27)) 1371) (fun σ131 => lt (gN (sP σ127 6370 x0 0 (some j27)) 1371) (fun j31 => fX12_init_s7 x0 (sP σ131 6371 x0 0 (some j31))))))))))))))))))
noncomputable def fX12_init_s5 (x0 : Nat) (σs : St) : Option (Unit × St) :=
  lt (nwA σs 1350) (fun σ103 => lt (gN σs 1350) (fun j3 => lt (nwA (sP σ103 6350 x0 0 (some j3)) 1351) (fun σ107 => lt (gN (sP σ103 6350 x0 0 (some j3)) 1351) (fun j7 => lt (nwA (sP σ107 6351 x0 0 (some j7)) 1352) (fun σ111 => lt (gN (sP σ107 6351 x0 0 (some j7)) 1352) (fun j11 => lt (nwA (sP σ111 6352 x0 0 (some j11)) 1353) (fun σ115 => lt (gN (sP σ111 6352 x0 0 (some j11)) 1353) (fun j15 => lt (nwA (sP σ115 6353 x0 0 (some j15)) 1354) (fun σ119 => lt (gN (sP σ115 6353 x0 0 (some j15)) 1354) (fun j19 => lt (nwA (sI (sI (sP σ119 6354 x0 0 (some j19)) 1355 x0 0 100) 1356 x0 0 900) 1357) (fun σ129 => lt (gN (sI (sI (sP σ119 6354 x0 0 (some j19)) 1355 x0 0 100) 1356 x0 0 900) 1357) (fun j29 => lt (nwA (sP σ129 6357 x0 0 (some j29)) 1358) (fun σ133 => lt (gN (sP σ129 6357 x0 0 (some j29)) 1358) (fun j33 => lt (nwA (sP σ133 6358 x0 0 (some j33)) 1359) (fun σ137 => lt (gN (sP σ133 6358 x0 0 (some j33)) 1359) (fun j37 => fX12_init_s6 x0 (sP σ137 6359 x0 0 (some j37))))))))))))))))))
noncomputable def fX12_init_s4 (x0 : Nat) (σs : St) : Option (Unit × St) :=
  lt (nwA σs 1338) (fun σ103 => lt (gN σs 1338) (fun j3 => lt (nwA (sP σ103 6338 x0 0 (some j3)) 1339) (fun σ107 => lt (gN (sP σ103 6338 x0 0 (some j3)) 1339) (fun j7 => lt (nwA (sP σ107 6339 x0 0 (some j7)) 1340) (fun σ111 => lt (gN (sP σ107 6339 x0 0 (some j7)) 1340) (fun j11 => lt (nwA (sP σ111 6340 x0 0 (some j11)) 1341) (fun σ115 => lt (gN (sP σ111 6340 x0 0 (some j11)) 1341) (fun j15 => lt (nwA (sP σ115 6341 x0 0 (some j15)) 1344) (fun σ119 => lt (gN (sP σ115 6341 x0 0 (some j15)) 1344) (fun j19 => lt (nwA (sP σ119 6344 x0 0 (some j19)) 1346) (fun σ123 => lt (gN (sP σ119 6344 x0 0 (some j19)) 1346) (fun j23 => lt (nwA (sP σ123 6346 x0 0 (some j23)) 1347) (fun σ127 => lt (gN (sP σ123 6346 x0 0 (some j23)) 1347) (fun j27 => lt (nwA (sP σ127 6347 x0 0 (some j27)) 1348) (fun σ131 => lt (gN (sP σ127 6347 x0 0 (some j27)) 1348) (fun j31 => fX12_init_s5 x0 (sP σ131 6348 x0 0 (some j31))))))))))))))))))
noncomputable def fX12_init_s3 (x0 : Nat) (σs : St) : Option (Unit × St) :=
  lt (nwA σs 1328) (fun σ103 => lt (gN σs 1328) (fun j3 => lt (nwA (sP σ103 6328 x0 0 (some j3)) 1329) (fun σ107 => lt (gN (sP σ103 6328 x0 0 (some j3)) 1329) (fun j7 => lt (nwA (sP σ107 6329 x0 0 (some j7)) 1330) (fun σ111 => lt (gN (sP σ107 6329 x0 0 (some j7)) 1330) (fun j11 => lt (nwA (sP σ111 6330 x0 0 (some j11)) 1331) (fun σ115 => lt (gN (sP σ111 6330 x0 0 (some j11)) 1331) (fun j15 => lt (nwA (sP σ115 6331 x0 0 (some j15)) 1332) (fun σ119 => lt (gN (sP σ115 6331 x0 0 (some j15)) 1332) (fun j19 => lt (nwA (sP σ119 6332 x0 0 (some j19)) 1333) (fun σ123 => lt (gN (sP σ119 6332 x0 0 (some j19)) 1333) (fun j23 => lt (nwA (sP σ123 6333 x0 0 (some j23)) 1334) (fun σ127 => lt (gN (sP σ123 6333 x0 0 (some j23)) 1334) (fun j27 => lt (nwA (sI (sP σ127 6334 x0 0 (some j27)) 1335 x0 0 30) 1336) (fun σ134 => lt (gN (sI (sP σ127 6334 x0 0 (some j27)) 1335 x0 0 30) 1336) (fun j34 => fX12_init_s4 x0 (sP σ134 6336 x0 0 (some j34))))))))))))))))))
noncomputable def fX12_init_s2 (x0 : Nat) (σs : St) : Option (Unit × St) :=
  lt (nwA σs 1319) (fun σ103 => lt (gN σs 1319) (fun j3 => lt (nwA (sP σ103 6319 x0 0 (some j3)) 1320) (fun σ107 => lt (gN (sP σ103 6319 x0 0 (some j3)) 1320) (fun j7 => lt (nwA (sP σ107 6320 x0 0 (some j7)) 1321) (fun σ111 => lt (gN (sP σ107 6320 x0 0 (some j7)) 1321) (fun j11 => lt (nwA (sP σ111 6321 x0 0 (some j11)) 1322) (fun σ115 => lt (gN (sP σ111 6321 x0 0 (some j11)) 1322) (fun j15 => lt (nwA (sP σ115 6322 x0 0 (some j15)) 1323) (fun σ119 => lt (gN (sP σ115 6322 x0 0 (some j15)) 1323) (fun j19 => lt (nwA (sP σ119 6323 x0 0 (some j19)) 1324) (fun σ123 => lt (gN (sP σ119 6323 x0 0 (some j19)) 1324) (fun j23 => lt (nwA (sP σ123 6324 x0 0 (some j23)) 1325) (fun σ127 => lt (gN (sP σ123 6324 x0 0 (some j23)) 1325) (fun j27 => lt (nwA (sP σ127 6325 x0 0 (some j27)) 1327) (fun σ131 => lt (gN (sP σ127 6325 x0 0 (some j27)) 1327) (fun j31 => fX12_init_s3 x0 (sP σ131 6327 x0 0 (some j31))))))))))))))))))
noncomputable def fX12_init_s1 (x0 : Nat) (σs : St) : Option (Unit × St) :=
  lt (nwA σs 1311) (fun σ103 => lt (gN σs 1311) (fun j3 => lt (nwA (sP σ103 6311 x0 0 (some j3)) 1312) (fun σ107 => lt (gN (sP σ103 6311 x0 0 (some j3)) 1312) (fun j7 => lt (nwA (sP σ107 6312 x0 0 (some j7)) 1313) (fun σ111 => lt (gN (sP σ107 6312 x0 0 (some j7)) 1313) (fun j11 => lt (nwA (sP σ111 6313 x0 0 (some j11)) 1314) (fun σ115 => lt (gN (sP σ111 6313 x0 0 (some j11)) 1314) (fun j15 => lt (nwA (sP σ115 6314 x0 0 (some j15)) 1315) (fun σ119 => lt (gN (sP σ115 6314 x0 0 (some j15)) 1315) (fun j19 => lt (nwA (sP σ119 6315 x0 0 (some j19)) 1316) (fun σ123 => lt (gN (sP σ119 6315 x0 0 (some j19)) 1316) (fun j23 => lt (nwA (sP σ123 6316 x0 0 (some j23)) 1317) (fun σ127 => lt (gN (sP σ123 6316 x0 0 (some j23)) 1317) (fun j27 => lt (nwA (sP σ127 6317 x0 0 (some j27)) 1318) (fun σ131 => lt (gN (sP σ127 6317 x0 0 (some j27)) 1318) (fun j31 => fX12_init_s2 x0 (sP σ131 6318 x0 0 (some j31))))))))))))))))))
noncomputable def fX12_init_s0 (x0 : Nat) (σs : St) : Option (Unit × St) :=
  lt (nwA σs 1302) (fun σ105 => lt (gN σs 1302) (fun j5 => lt (nwA (sP σ105 6302 x0 0 (some j5)) 1303) (fun σ109 => lt (gN (sP σ105 6302 x0 0 (some j5)) 1303) (fun j9 => lt (nwA (sP σ109 6303 x0 0 (some j9)) 1304) (fun σ113 => lt (gN (sP σ109 6303 x0 0 (some j9)) 1304) (fun j13 => lt (nwA (sP σ113 6304 x0 0 (some j13)) 1305) (fun σ117 => lt (gN (sP σ113 6304 x0 0 (some j13)) 1305) (fun j17 => lt (nwA (sP σ117 6305 x0 0 (some j17)) 1306) (fun σ121 => lt (gN (sP σ117 6305 x0 0 (some j17)) 1306) (fun j21 => lt (nwA (sP σ121 6306 x0 0 (some j21)) 1307) (fun σ125 => lt (gN (sP σ121 6306 x0 0 (some j21)) 1307) (fun j25 => lt (nwA (sP σ125 6307 x0 0 (some j25)) 1308) (fun σ129 => lt (gN (sP σ125 6307 x0 0 (some j25)) 1308) (fun j29 => lt (nwA (sP σ129 6308 x0 0 (some j29)) 1309) (fun σ133 => lt (gN (sP σ129 6308 x0 0 (some j29)) 1309) (fun j33 => fX12_init_s1 x0 (sP σ133 6309 x0 0 (some j33))))))))))))))))))
noncomputable def fX12_init (x0 : Nat) (σ0 : St) : Option (Unit × St) :=
  fX12_init_s0 x0 σ0
set_option maxRecDepth 20000 in
set_option maxHeartbeats 8000000 in
theorem sgX12_init_0 (x0 : Nat) {κ : Cxt} {Q0 : State → Prop} {Xp : Unit × St → Prop} {ad0 : Nat → Nat → Nat} {σ0 : St} (C : Cx κ RX12 cX12_init 2 none 1) (F : isF κ) (I0 : isInit κ) (hcs : csOK κ (73, 4189)) (tail : ∀ (ad : Nat → Nat → Nat) (σ : St), x0 < gN σ 12 → Grw σ0 ad0 σ ad → wpO (fX12_init_s1 x0 σ) Xp → Z κ (8, 176) Q0 68 [(0, vo ad 12 (some x0))] [] ad σ) : ∀ (ads : Nat → Nat → Nat) (σs : St), x0 < gN σs 12 → Grw σ0 ad0 σs ads → wpO (fX12_init_s0 x0 σs) Xp → Z κ (0, 0) Q0 0 [(0, vo ads 12 (some x0))] [] ads σs := by
  intro ads σs hx0 hGs h
  unfold fX12_init_s0 at h
  show Z κ (0, 0) Q0 0 [(0, vo ads 12 (some x0))] [] ads σs
  refine z_aload_n C 0 dX12_init_0 rfl ?_
  refine z_objInit (st := []) C (by decide) lo_X12_1 lo_i lo_c (Nat.le_of_ble_eq_true rfl) dX12_init_1 ?_
  refine z_aload_n C 0 dX12_init_4 rfl ?_
  refine z_bipush C dX12_init_5 (by decide) ?_
  refine z_newarr (atype := .int) (t0 := 0) C ar_1302 rfl lac_int (fun _ => rfl) (by decide) rfl (by decide) (fun q => noT F q) (csOK_le hcs (by decide) (by decide)) dX12_init_7 (fun ad105 hA5 => ?_)
  rw [voA (K2 := 12) (r := some x0) hA5 (by decide)]
  have hGc : Grw σ0 ad0 σs ads := hGs
  have hG5 := hGc.nwA hA5
  have hN5 : gN σs 1302 < gN (nwA σs 1302) 1302 := nwA_lt
  generalize e5 : nwA σs 1302 = σ105 at hG5 hN5 ⊢
  have h := lt_elim h σ105 e5
  generalize e5j : gN σs 1302 = j5 at hN5 ⊢
  have h := lt_elim h j5 e5j
  have hp60 : x0 < gN σ105 12 := (grN e5 hx0 (by decide))
  show Z κ (1, 24) Q0 9 [(0, vo ad105 12 (some x0))] [vo ad105 1302 (some j5), vo ad105 12 (some x0)] ad105 σ105
  refine z_pR (K2 := 1302) I0 F C lpf_X12_7 (by decide) rfl (Or.inl hp60) hN5 dX12_init_9 ?_
  show Z κ (1, 24) Q0 12 _ _ _ (sP σ105 6302 x0 0 (some j5))
  refine z_aload_n C 0 dX12_init_12 rfl ?_
  refine z_bipush C dX12_init_13 (by decide) ?_
  refine z_newarr (atype := .int) (t0 := 0) C ar_1303 rfl lac_int (fun _ => rfl) (by decide) rfl (by decide) (fun q => noT F q) (csOK_le hcs (by decide) (by decide)) dX12_init_15 (fun ad109 hA9 => ?_)
  rw [voA (K2 := 12) (r := some x0) hA9 (by decide)]
  have hGc : Grw σ0 ad0 (sP σ105 6302 x0 0 (some j5)) ad105 := hG5
  have hG9 := hGc.nwA hA9
  have hN9 : gN (sP σ105 6302 x0 0 (some j5)) 1303 < gN (nwA (sP σ105 6302 x0 0 (some j5)) 1303) 1303 := nwA_lt
  generalize e9 : nwA (sP σ105 6302 x0 0 (some j5)) 1303 = σ109 at hG9 hN9 ⊢
  have h := lt_elim h σ109 e9
  generalize e9j : gN (sP σ105 6302 x0 0 (some j5)) 1303 = j9 at hN9 ⊢
  have h := lt_elim h j9 e9j
  have hp61 : x0 < gN σ109 12 := (grN e9 hp60 (by decide))
  show Z κ (2, 48) Q0 17 [(0, vo ad109 12 (some x0))] [vo ad109 1303 (some j9), vo ad109 12 (some x0)] ad109 σ109
  refine z_pR (K2 := 1303) I0 F C lpf_X12_13 (by decide) rfl (Or.inl hp61) hN9 dX12_init_17 ?_
  show Z κ (2, 48) Q0 20 _ _ _ (sP σ109 6303 x0 0 (some j9))
  refine z_aload_n C 0 dX12_init_20 rfl ?_
  refine z_bipush C dX12_init_21 (by decide) ?_
  refine z_newarr (atype := .int) (t0 := 0) C ar_1304 rfl lac_int (fun _ => rfl) (by decide) rfl (by decide) (fun q => noT F q) (csOK_le hcs (by decide) (by decide)) dX12_init_23 (fun ad113 hA13 => ?_)
  rw [voA (K2 := 12) (r := some x0) hA13 (by decide)]
  have hGc : Grw σ0 ad0 (sP σ109 6303 x0 0 (some j9)) ad109 := hG9
  have hG13 := hGc.nwA hA13
  have hN13 : gN (sP σ109 6303 x0 0 (some j9)) 1304 < gN (nwA (sP σ109 6303 x0 0 (some j9)) 1304) 1304 := nwA_lt
  generalize e13 : nwA (sP σ109 6303 x0 0 (some j9)) 1304 = σ113 at hG13 hN13 ⊢
  have h := lt_elim h σ113 e13
  generalize e13j : gN (sP σ109 6303 x0 0 (some j9)) 1304 = j13 at hN13 ⊢
  have h := lt_elim h j13 e13j
  have hp62 : x0 < gN σ113 12 := (grN e13 hp61 (by decide))
  show Z κ (3, 72) Q0 25 [(0, vo ad113 12 (some x0))] [vo ad113 1304 (some j13), vo ad113 12 (some x0)] ad113 σ113
  refine z_pR (K2 := 1304) I0 F C lpf_X12_16 (by decide) rfl (Or.inl hp62) hN13 dX12_init_25 ?_
  show Z κ (3, 72) Q0 28 _ _ _ (sP σ113 6304 x0 0 (some j13))
  refine z_aload_n C 0 dX12_init_28 rfl ?_
  refine z_bipush C dX12_init_29 (by decide) ?_
  refine z_newarr (atype := .int) (t0 := 0) C ar_1305 rfl lac_int (fun _ => rfl) (by decide) rfl (by decide) (fun q => noT F q) (csOK_le hcs (by decide) (by decide)) dX12_init_31 (fun ad117 hA17 => ?_)
  rw [voA (K2 := 12) (r := some x0) hA17 (by decide)]
  have hGc : Grw σ0 ad0 (sP σ113 6304 x0 0 (some j13)) ad113 := hG13
  have hG17 := hGc.nwA hA17
  have hN17 : gN (sP σ113 6304 x0 0 (some j13)) 1305 < gN (nwA (sP σ113 6304 x0 0 (some j13)) 1305) 1305 := nwA_lt
  generalize e17 : nwA (sP σ113 6304 x0 0 (some j13)) 1305 = σ117 at hG17 hN17 ⊢
  have h := lt_elim h σ117 e17
  generalize e17j : gN (sP σ113 6304 x0 0 (some j13)) 1305 = j17 at hN17 ⊢
  have h := lt_elim h j17 e17j
  have hp63 : x0 < gN σ117 12 := (grN e17 hp62 (by decide))
  show Z κ (4, 96) Q0 33 [(0, vo ad117 12 (some x0))] [vo ad117 1305 (some j17), vo ad117 12 (some x0)] ad117 σ117
  refine z_pR (K2 := 1305) I0 F C lpf_X12_19 (by decide) rfl (Or.inl hp63) hN17 dX12_init_33 ?_
  show Z κ (4, 96) Q0 36 _ _ _ (sP σ117 6305 x0 0 (some j17))
  refine z_aload_n C 0 dX12_init_36 rfl ?_
  refine z_bipush C dX12_init_37 (by decide) ?_
  refine z_newarr (atype := .int) (t0 := 0) C ar_1306 rfl lac_int (fun _ => rfl) (by decide) rfl (by decide) (fun q => noT F q) (csOK_le hcs (by decide) (by decide)) dX12_init_39 (fun ad121 hA21 => ?_)
  rw [voA (K2 := 12) (r := some x0) hA21 (by decide)]
  have hGc : Grw σ0 ad0 (sP σ117 6305 x0 0 (some j17)) ad117 := hG17
  have hG21 := hGc.nwA hA21
  have hN21 : gN (sP σ117 6305 x0 0 (some j17)) 1306 < gN (nwA (sP σ117 6305 x0 0 (some j17)) 1306) 1306 := nwA_lt
  generalize e21 : nwA (sP σ117 6305 x0 0 (some j17)) 1306 = σ121 at hG21 hN21 ⊢
  have h := lt_elim h σ121 e21
  generalize e21j : gN (sP σ117 6305 x0 0 (some j17)) 1306 = j21 at hN21 ⊢
  have h := lt_elim h j21 e21j
  have hp64 : x0 < gN σ121 12 := (grN e21 hp63 (by decide))
  show Z κ (5, 120) Q0 41 [(0, vo ad121 12 (some x0))] [vo ad121 1306 (some j21), vo ad121 12 (some x0)] ad121 σ121
  refine z_pR (K2 := 1306) I0 F C lpf_X12_22 (by decide) rfl (Or.inl hp64) hN21 dX12_init_41 ?_
  show Z κ (5, 120) Q0 44 _ _ _ (sP σ121 6306 x0 0 (some j21))
  refine z_aload_n C 0 dX12_init_44 rfl ?_
  refine z_bipush C dX12_init_45 (by decide) ?_
  refine z_newarr (atype := .int) (t0 := 0) C ar_1307 rfl lac_int (fun _ => rfl) (by decide) rfl (by decide) (fun q => noT F q) (csOK_le hcs (by decide) (by decide)) dX12_init_47 (fun ad125 hA25 => ?_)
  rw [voA (K2 := 12) (r := some x0) hA25 (by decide)]
  have hGc : Grw σ0 ad0 (sP σ121 6306 x0 0 (some j21)) ad121 := hG21
  have hG25 := hGc.nwA hA25
  have hN25 : gN (sP σ121 6306 x0 0 (some j21)) 1307 < gN (nwA (sP σ121 6306 x0 0 (some j21)) 1307) 1307 := nwA_lt
  generalize e25 : nwA (sP σ121 6306 x0 0 (some j21)) 1307 = σ125 at hG25 hN25 ⊢
  have h := lt_elim h σ125 e25
  generalize e25j : gN (sP σ121 6306 x0 0 (some j21)) 1307 = j25 at hN25 ⊢
  have h := lt_elim h j25 e25j
  have hp65 : x0 < gN σ125 12 := (grN e25 hp64 (by decide))
  show Z κ (6, 144) Q0 49 [(0, vo ad125 12 (some x0))] [vo ad125 1307 (some j25), vo ad125 12 (some x0)] ad125 σ125
  refine z_pR (K2 := 1307) I0 F C lpf_X12_25 (by decide) rfl (Or.inl hp65) hN25 dX12_init_49 ?_
  show Z κ (6, 144) Q0 52 _ _ _ (sP σ125 6307 x0 0 (some j25))
  refine z_aload_n C 0 dX12_init_52 rfl ?_
  refine z_bipush C dX12_init_53 (by decide) ?_
  refine z_newarr (atype := .boolean) (t0 := 1) C ar_1308 rfl lac_boolean (fun _ => rfl) (by decide) rfl (by decide) (fun q => noT F q) (csOK_le hcs (by decide) (by decide)) dX12_init_55 (fun ad129 hA29 => ?_)
  rw [voA (K2 := 12) (r := some x0) hA29 (by decide)]
  have hGc : Grw σ0 ad0 (sP σ125 6307 x0 0 (some j25)) ad125 := hG25
  have hG29 := hGc.nwA hA29
  have hN29 : gN (sP σ125 6307 x0 0 (some j25)) 1308 < gN (nwA (sP σ125 6307 x0 0 (some j25)) 1308) 1308 := nwA_lt
  generalize e29 : nwA (sP σ125 6307 x0 0 (some j25)) 1308 = σ129 at hG29 hN29 ⊢
  have h := lt_elim h σ129 e29
  generalize e29j : gN (sP σ125 6307 x0 0 (some j25)) 1308 = j29 at hN29 ⊢
  have h := lt_elim h j29 e29j
  have hp66 : x0 < gN σ129 12 := (grN e29 hp65 (by decide))
  show Z κ (7, 168) Q0 57 [(0, vo ad129 12 (some x0))] [vo ad129 1308 (some j29), vo ad129 12 (some x0)] ad129 σ129
  refine z_pR (K2 := 1308) I0 F C lpf_X12_28 (by decide) rfl (Or.inl hp66) hN29 dX12_init_57 ?_
  show Z κ (7, 168) Q0 60 _ _ _ (sP σ129 6308 x0 0 (some j29))
  refine z_aload_n C 0 dX12_init_60 rfl ?_
  refine z_bipush C dX12_init_61 (by decide) ?_
  refine z_newarr (atype := .int) (t0 := 0) C ar_1309 rfl lac_int (fun _ => rfl) (by decide) rfl (by decide) (fun q => noT F q) (csOK_le hcs (by decide) (by decide)) dX12_init_63 (fun ad133 hA33 => ?_)
  rw [voA (K2 := 12) (r := some x0) hA33 (by decide)]
  have hGc : Grw σ0 ad0 (sP σ129 6308 x0 0 (some j29)) ad129 := hG29
  have hG33 := hGc.nwA hA33
  have hN33 : gN (sP σ129 6308 x0 0 (some j29)) 1309 < gN (nwA (sP σ129 6308 x0 0 (some j29)) 1309) 1309 := nwA_lt
  generalize e33 : nwA (sP σ129 6308 x0 0 (some j29)) 1309 = σ133 at hG33 hN33 ⊢
  have h := lt_elim h σ133 e33
  generalize e33j : gN (sP σ129 6308 x0 0 (some j29)) 1309 = j33 at hN33 ⊢
  have h := lt_elim h j33 e33j
  have hp67 : x0 < gN σ133 12 := (grN e33 hp66 (by decide))
  show Z κ (8, 176) Q0 65 [(0, vo ad133 12 (some x0))] [vo ad133 1309 (some j33), vo ad133 12 (some x0)] ad133 σ133
  refine z_pR (K2 := 1309) I0 F C lpf_X12_32 (by decide) rfl (Or.inl hp67) hN33 dX12_init_65 ?_
  show Z κ (8, 176) Q0 68 _ _ _ (sP σ133 6309 x0 0 (some j33))
  have hGc : Grw σ0 ad0 (sP σ133 6309 x0 0 (some j33)) ad133 := hG33
  exact tail ad133 (sP σ133 6309 x0 0 (some j33)) hp67 hGc h
set_option maxRecDepth 20000 in
set_option maxHeartbeats 8000000 in
theorem sgX12_init_1 (x0 : Nat) {κ : Cxt} {Q0 : State → Prop} {Xp : Unit × St → Prop} {ad0 : Nat → Nat → Nat} {σ0 : St} (C : Cx κ RX12 cX12_init 2 none 1) (F : isF κ) (I0 : isInit κ) (hcs : csOK κ (73, 4189)) (tail : ∀ (ad : Nat → Nat → Nat) (σ : St), x0 < gN σ 12 → Grw σ0 ad0 σ ad → wpO (fX12_init_s2 x0 σ) Xp → Z κ (16, 496) Q0 132 [(0, vo ad 12 (some x0))] [] ad σ) : ∀ (ads : Nat → Nat → Nat) (σs : St), x0 < gN σs 12 → Grw σ0 ad0 σs ads → wpO (fX12_init_s1 x0 σs) Xp → Z κ (8, 176) Q0 68 [(0, vo ads 12 (some x0))] [] ads σs := by
  intro ads σs hx0 hGs h
  unfold fX12_init_s1 at h
  show Z κ (8, 176) Q0 68 [(0, vo ads 12 (some x0))] [] ads σs
  refine z_aload_n C 0 dX12_init_68 rfl ?_
  refine z_bipush C dX12_init_69 (by decide) ?_
  refine z_newarr (atype := .int) (t0 := 0) C ar_1311 rfl lac_int (fun _ => rfl) (by decide) rfl (by decide) (fun q => noT F q) (csOK_le hcs (by decide) (by decide)) dX12_init_71 (fun ad103 hA3 => ?_)
  rw [voA (K2 := 12) (r := some x0) hA3 (by decide)]
  have hGc : Grw σ0 ad0 σs ads := hGs
  have hG3 := hGc.nwA hA3
  have hN3 : gN σs 1311 < gN (nwA σs 1311) 1311 := nwA_lt
  generalize e3 : nwA σs 1311 = σ103 at hG3 hN3 ⊢
  have h := lt_elim h σ103 e3
  generalize e3j : gN σs 1311 = j3 at hN3 ⊢
  have h := lt_elim h j3 e3j
  have hp68 : x0 < gN σ103 12 := (grN e3 hx0 (by decide))
  show Z κ (9, 216) Q0 73 [(0, vo ad103 12 (some x0))] [vo ad103 1311 (some j3), vo ad103 12 (some x0)] ad103 σ103
  refine z_pR (K2 := 1311) I0 F C lpf_X12_35 (by decide) rfl (Or.inl hp68) hN3 dX12_init_73 ?_
  show Z κ (9, 216) Q0 76 _ _ _ (sP σ103 6311 x0 0 (some j3))
  refine z_aload_n C 0 dX12_init_76 rfl ?_
  refine z_bipush C dX12_init_77 (by decide) ?_
  refine z_newarr (atype := .int) (t0 := 0) C ar_1312 rfl lac_int (fun _ => rfl) (by decide) rfl (by decide) (fun q => noT F q) (csOK_le hcs (by decide) (by decide)) dX12_init_79 (fun ad107 hA7 => ?_)
  rw [voA (K2 := 12) (r := some x0) hA7 (by decide)]
  have hGc : Grw σ0 ad0 (sP σ103 6311 x0 0 (some j3)) ad103 := hG3
  have hG7 := hGc.nwA hA7
  have hN7 : gN (sP σ103 6311 x0 0 (some j3)) 1312 < gN (nwA (sP σ103 6311 x0 0 (some j3)) 1312) 1312 := nwA_lt
  generalize e7 : nwA (sP σ103 6311 x0 0 (some j3)) 1312 = σ107 at hG7 hN7 ⊢
  have h := lt_elim h σ107 e7
  generalize e7j : gN (sP σ103 6311 x0 0 (some j3)) 1312 = j7 at hN7 ⊢
  have h := lt_elim h j7 e7j
  have hp69 : x0 < gN σ107 12 := (grN e7 hp68 (by decide))
  show Z κ (10, 256) Q0 81 [(0, vo ad107 12 (some x0))] [vo ad107 1312 (some j7), vo ad107 12 (some x0)] ad107 σ107
  refine z_pR (K2 := 1312) I0 F C lpf_X12_38 (by decide) rfl (Or.inl hp69) hN7 dX12_init_81 ?_
  show Z κ (10, 256) Q0 84 _ _ _ (sP σ107 6312 x0 0 (some j7))
  refine z_aload_n C 0 dX12_init_84 rfl ?_
  refine z_bipush C dX12_init_85 (by decide) ?_
  refine z_newarr (atype := .int) (t0 := 0) C ar_1313 rfl lac_int (fun _ => rfl) (by decide) rfl (by decide) (fun q => noT F q) (csOK_le hcs (by decide) (by decide)) dX12_init_87 (fun ad111 hA11 => ?_)
  rw [voA (K2 := 12) (r := some x0) hA11 (by decide)]
  have hGc : Grw σ0 ad0 (sP σ107 6312 x0 0 (some j7)) ad107 := hG7
  have hG11 := hGc.nwA hA11
  have hN11 : gN (sP σ107 6312 x0 0 (some j7)) 1313 < gN (nwA (sP σ107 6312 x0 0 (some j7)) 1313) 1313 := nwA_lt
  generalize e11 : nwA (sP σ107 6312 x0 0 (some j7)) 1313 = σ111 at hG11 hN11 ⊢
  have h := lt_elim h σ111 e11
  generalize e11j : gN (sP σ107 6312 x0 0 (some j7)) 1313 = j11 at hN11 ⊢
  have h := lt_elim h j11 e11j
  have hp70 : x0 < gN σ111 12 := (grN e11 hp69 (by decide))
  show Z κ (11, 296) Q0 89 [(0, vo ad111 12 (some x0))] [vo ad111 1313 (some j11), vo ad111 12 (some x0)] ad111 σ111
  refine z_pR (K2 := 1313) I0 F C lpf_X12_41 (by decide) rfl (Or.inl hp70) hN11 dX12_init_89 ?_
  show Z κ (11, 296) Q0 92 _ _ _ (sP σ111 6313 x0 0 (some j11))
  refine z_aload_n C 0 dX12_init_92 rfl ?_
  refine z_bipush C dX12_init_93 (by decide) ?_
  refine z_newarr (atype := .int) (t0 := 0) C ar_1314 rfl lac_int (fun _ => rfl) (by decide) rfl (by decide) (fun q => noT F q) (csOK_le hcs (by decide) (by decide)) dX12_init_95 (fun ad115 hA15 => ?_)
  rw [voA (K2 := 12) (r := some x0) hA15 (by decide)]
  have hGc : Grw σ0 ad0 (sP σ111 6313 x0 0 (some j11)) ad111 := hG11
  have hG15 := hGc.nwA hA15
  have hN15 : gN (sP σ111 6313 x0 0 (some j11)) 1314 < gN (nwA (sP σ111 6313 x0 0 (some j11)) 1314) 1314 := nwA_lt
  generalize e15 : nwA (sP σ111 6313 x0 0 (some j11)) 1314 = σ115 at hG15 hN15 ⊢
  have h := lt_elim h σ115 e15
  generalize e15j : gN (sP σ111 6313 x0 0 (some j11)) 1314 = j15 at hN15 ⊢
  have h := lt_elim h j15 e15j
  have hp71 : x0 < gN σ115 12 := (grN e15 hp70 (by decide))
  show Z κ (12, 336) Q0 97 [(0, vo ad115 12 (some x0))] [vo ad115 1314 (some j15), vo ad115 12 (some x0)] ad115 σ115
  refine z_pR (K2 := 1314) I0 F C lpf_X12_44 (by decide) rfl (Or.inl hp71) hN15 dX12_init_97 ?_
  show Z κ (12, 336) Q0 100 _ _ _ (sP σ115 6314 x0 0 (some j15))
  refine z_aload_n C 0 dX12_init_100 rfl ?_
  refine z_bipush C dX12_init_101 (by decide) ?_
  refine z_newarr (atype := .int) (t0 := 0) C ar_1315 rfl lac_int (fun _ => rfl) (by decide) rfl (by decide) (fun q => noT F q) (csOK_le hcs (by decide) (by decide)) dX12_init_103 (fun ad119 hA19 => ?_)
  rw [voA (K2 := 12) (r := some x0) hA19 (by decide)]
  have hGc : Grw σ0 ad0 (sP σ115 6314 x0 0 (some j15)) ad115 := hG15
  have hG19 := hGc.nwA hA19
  have hN19 : gN (sP σ115 6314 x0 0 (some j15)) 1315 < gN (nwA (sP σ115 6314 x0 0 (some j15)) 1315) 1315 := nwA_lt
  generalize e19 : nwA (sP σ115 6314 x0 0 (some j15)) 1315 = σ119 at hG19 hN19 ⊢
  have h := lt_elim h σ119 e19
  generalize e19j : gN (sP σ115 6314 x0 0 (some j15)) 1315 = j19 at hN19 ⊢
  have h := lt_elim h j19 e19j
  have hp72 : x0 < gN σ119 12 := (grN e19 hp71 (by decide))
  show Z κ (13, 376) Q0 105 [(0, vo ad119 12 (some x0))] [vo ad119 1315 (some j19), vo ad119 12 (some x0)] ad119 σ119
  refine z_pR (K2 := 1315) I0 F C lpf_X12_47 (by decide) rfl (Or.inl hp72) hN19 dX12_init_105 ?_
  show Z κ (13, 376) Q0 108 _ _ _ (sP σ119 6315 x0 0 (some j19))
  refine z_aload_n C 0 dX12_init_108 rfl ?_
  refine z_bipush C dX12_init_109 (by decide) ?_
  refine z_newarr (atype := .int) (t0 := 0) C ar_1316 rfl lac_int (fun _ => rfl) (by decide) rfl (by decide) (fun q => noT F q) (csOK_le hcs (by decide) (by decide)) dX12_init_111 (fun ad123 hA23 => ?_)
  rw [voA (K2 := 12) (r := some x0) hA23 (by decide)]
  have hGc : Grw σ0 ad0 (sP σ119 6315 x0 0 (some j19)) ad119 := hG19
  have hG23 := hGc.nwA hA23
  have hN23 : gN (sP σ119 6315 x0 0 (some j19)) 1316 < gN (nwA (sP σ119 6315 x0 0 (some j19)) 1316) 1316 := nwA_lt
  generalize e23 : nwA (sP σ119 6315 x0 0 (some j19)) 1316 = σ123 at hG23 hN23 ⊢
  have h := lt_elim h σ123 e23
  generalize e23j : gN (sP σ119 6315 x0 0 (some j19)) 1316 = j23 at hN23 ⊢
  have h := lt_elim h j23 e23j
  have hp73 : x0 < gN σ123 12 := (grN e23 hp72 (by decide))
  show Z κ (14, 416) Q0 113 [(0, vo ad123 12 (some x0))] [vo ad123 1316 (some j23), vo ad123 12 (some x0)] ad123 σ123
  refine z_pR (K2 := 1316) I0 F C lpf_X12_50 (by decide) rfl (Or.inl hp73) hN23 dX12_init_113 ?_
  show Z κ (14, 416) Q0 116 _ _ _ (sP σ123 6316 x0 0 (some j23))
  refine z_aload_n C 0 dX12_init_116 rfl ?_
  refine z_bipush C dX12_init_117 (by decide) ?_
  refine z_newarr (atype := .int) (t0 := 0) C ar_1317 rfl lac_int (fun _ => rfl) (by decide) rfl (by decide) (fun q => noT F q) (csOK_le hcs (by decide) (by decide)) dX12_init_119 (fun ad127 hA27 => ?_)
  rw [voA (K2 := 12) (r := some x0) hA27 (by decide)]
  have hGc : Grw σ0 ad0 (sP σ123 6316 x0 0 (some j23)) ad123 := hG23
  have hG27 := hGc.nwA hA27
  have hN27 : gN (sP σ123 6316 x0 0 (some j23)) 1317 < gN (nwA (sP σ123 6316 x0 0 (some j23)) 1317) 1317 := nwA_lt
  generalize e27 : nwA (sP σ123 6316 x0 0 (some j23)) 1317 = σ127 at hG27 hN27 ⊢
  have h := lt_elim h σ127 e27
  generalize e27j : gN (sP σ123 6316 x0 0 (some j23)) 1317 = j27 at hN27 ⊢
  have h := lt_elim h j27 e27j
  have hp74 : x0 < gN σ127 12 := (grN e27 hp73 (by decide))
  show Z κ (15, 456) Q0 121 [(0, vo ad127 12 (some x0))] [vo ad127 1317 (some j27), vo ad127 12 (some x0)] ad127 σ127
  refine z_pR (K2 := 1317) I0 F C lpf_X12_53 (by decide) rfl (Or.inl hp74) hN27 dX12_init_121 ?_
  show Z κ (15, 456) Q0 124 _ _ _ (sP σ127 6317 x0 0 (some j27))
  refine z_aload_n C 0 dX12_init_124 rfl ?_
  refine z_bipush C dX12_init_125 (by decide) ?_
  refine z_newarr (atype := .int) (t0 := 0) C ar_1318 rfl lac_int (fun _ => rfl) (by decide) rfl (by decide) (fun q => noT F q) (csOK_le hcs (by decide) (by decide)) dX12_init_127 (fun ad131 hA31 => ?_)
  rw [voA (K2 := 12) (r := some x0) hA31 (by decide)]
  have hGc : Grw σ0 ad0 (sP σ127 6317 x0 0 (some j27)) ad127 := hG27
  have hG31 := hGc.nwA hA31
  have hN31 : gN (sP σ127 6317 x0 0 (some j27)) 1318 < gN (nwA (sP σ127 6317 x0 0 (some j27)) 1318) 1318 := nwA_lt
  generalize e31 : nwA (sP σ127 6317 x0 0 (some j27)) 1318 = σ131 at hG31 hN31 ⊢
  have h := lt_elim h σ131 e31
  generalize e31j : gN (sP σ127 6317 x0 0 (some j27)) 1318 = j31 at hN31 ⊢
  have h := lt_elim h j31 e31j
  have hp75 : x0 < gN σ131 12 := (grN e31 hp74 (by decide))
  show Z κ (16, 496) Q0 129 [(0, vo ad131 12 (some x0))] [vo ad131 1318 (some j31), vo ad131 12 (some x0)] ad131 σ131
  refine z_pR (K2 := 1318) I0 F C lpf_X12_56 (by decide) rfl (Or.inl hp75) hN31 dX12_init_129 ?_
  show Z κ (16, 496) Q0 132 _ _ _ (sP σ131 6318 x0 0 (some j31))
  have hGc : Grw σ0 ad0 (sP σ131 6318 x0 0 (some j31)) ad131 := hG31
  exact tail ad131 (sP σ131 6318 x0 0 (some j31)) hp75 hGc h
set_option maxRecDepth 20000 in
set_option maxHeartbeats 8000000 in
theorem sgX12_init_2 (x0 : Nat) {κ : Cxt} {Q0 : State → Prop} {Xp : Unit × St → Prop} {ad0 : Nat → Nat → Nat} {σ0 : St} (C : Cx κ RX12 cX12_init 2 none 1) (F : isF κ) (I0 : isInit κ) (hcs : csOK κ (73, 4189)) (tail : ∀ (ad : Nat → Nat → Nat) (σ : St), x0 < gN σ 12 → Grw σ0 ad0 σ ad → wpO (fX12_init_s3 x0 σ) Xp → Z κ (24, 688) Q0 196 [(0, vo ad 12 (some x0))] [] ad σ) : ∀ (ads : Nat → Nat → Nat) (σs : St), x0 < gN σs 12 → Grw σ0 ad0 σs ads → wpO (fX12_init_s2 x0 σs) Xp → Z κ (16, 496) Q0 132 [(0, vo ads 12 (some x0))] [] ads σs := by
  intro ads σs hx0 hGs h
  unfold fX12_init_s2 at h
  show Z κ (16, 496) Q0 132 [(0, vo ads 12 (some x0))] [] ads σs
  refine z_aload_n C 0 dX12_init_132 rfl ?_
  refine z_bipush C dX12_init_133 (by decide) ?_
  refine z_newarr (atype := .int) (t0 := 0) C ar_1319 rfl lac_int (fun _ => rfl) (by decide) rfl (by decide) (fun q => noT F q) (csOK_le hcs (by decide) (by decide)) dX12_init_135 (fun ad103 hA3 => ?_)
  rw [voA (K2 := 12) (r := some x0) hA3 (by decide)]
  have hGc : Grw σ0 ad0 σs ads := hGs
  have hG3 := hGc.nwA hA3
  have hN3 : gN σs 1319 < gN (nwA σs 1319) 1319 := nwA_lt
  generalize e3 : nwA σs 1319 = σ103 at hG3 hN3 ⊢
  have h := lt_elim h σ103 e3
  generalize e3j : gN σs 1319 = j3 at hN3 ⊢
  have h := lt_elim h j3 e3j
  have hp76 : x0 < gN σ103 12 := (grN e3 hx0 (by decide))
  show Z κ (17, 536) Q0 137 [(0, vo ad103 12 (some x0))] [vo ad103 1319 (some j3), vo ad103 12 (some x0)] ad103 σ103
  refine z_pR (K2 := 1319) I0 F C lpf_X12_59 (by decide) rfl (Or.inl hp76) hN3 dX12_init_137 ?_
  show Z κ (17, 536) Q0 140 _ _ _ (sP σ103 6319 x0 0 (some j3))
  refine z_aload_n C 0 dX12_init_140 rfl ?_
  refine z_bipush C dX12_init_141 (by decide) ?_
  refine z_newarr (atype := .int) (t0 := 0) C ar_1320 rfl lac_int (fun _ => rfl) (by decide) rfl (by decide) (fun q => noT F q) (csOK_le hcs (by decide) (by decide)) dX12_init_143 (fun ad107 hA7 => ?_)
  rw [voA (K2 := 12) (r := some x0) hA7 (by decide)]
  have hGc : Grw σ0 ad0 (sP σ103 6319 x0 0 (some j3)) ad103 := hG3
  have hG7 := hGc.nwA hA7
  have hN7 : gN (sP σ103 6319 x0 0 (some j3)) 1320 < gN (nwA (sP σ103 6319 x0 0 (some j3)) 1320) 1320 := nwA_lt
  generalize e7 : nwA (sP σ103 6319 x0 0 (some j3)) 1320 = σ107 at hG7 hN7 ⊢
  have h := lt_elim h σ107 e7
  generalize e7j : gN (sP σ103 6319 x0 0 (some j3)) 1320 = j7 at hN7 ⊢
  have h := lt_elim h j7 e7j
  have hp77 : x0 < gN σ107 12 := (grN e7 hp76 (by decide))
  show Z κ (18, 576) Q0 145 [(0, vo ad107 12 (some x0))] [vo ad107 1320 (some j7), vo ad107 12 (some x0)] ad107 σ107
  refine z_pR (K2 := 1320) I0 F C lpf_X12_62 (by decide) rfl (Or.inl hp77) hN7 dX12_init_145 ?_
  show Z κ (18, 576) Q0 148 _ _ _ (sP σ107 6320 x0 0 (some j7))
  refine z_aload_n C 0 dX12_init_148 rfl ?_
  refine z_bipush C dX12_init_149 (by decide) ?_
  refine z_newarr (atype := .int) (t0 := 0) C ar_1321 rfl lac_int (fun _ => rfl) (by decide) rfl (by decide) (fun q => noT F q) (csOK_le hcs (by decide) (by decide)) dX12_init_151 (fun ad111 hA11 => ?_)
  rw [voA (K2 := 12) (r := some x0) hA11 (by decide)]
  have hGc : Grw σ0 ad0 (sP σ107 6320 x0 0 (some j7)) ad107 := hG7
  have hG11 := hGc.nwA hA11
  have hN11 : gN (sP σ107 6320 x0 0 (some j7)) 1321 < gN (nwA (sP σ107 6320 x0 0 (some j7)) 1321) 1321 := nwA_lt
  generalize e11 : nwA (sP σ107 6320 x0 0 (some j7)) 1321 = σ111 at hG11 hN11 ⊢
  have h := lt_elim h σ111 e11
  generalize e11j : gN (sP σ107 6320 x0 0 (some j7)) 1321 = j11 at hN11 ⊢
  have h := lt_elim h j11 e11j
  have hp78 : x0 < gN σ111 12 := (grN e11 hp77 (by decide))
  show Z κ (19, 616) Q0 153 [(0, vo ad111 12 (some x0))] [vo ad111 1321 (some j11), vo ad111 12 (some x0)] ad111 σ111
  refine z_pR (K2 := 1321) I0 F C lpf_X12_65 (by decide) rfl (Or.inl hp78) hN11 dX12_init_153 ?_
  show Z κ (19, 616) Q0 156 _ _ _ (sP σ111 6321 x0 0 (some j11))
  refine z_aload_n C 0 dX12_init_156 rfl ?_
  refine z_bipush C dX12_init_157 (by decide) ?_
  refine z_newarr (atype := .int) (t0 := 0) C ar_1322 rfl lac_int (fun _ => rfl) (by decide) rfl (by decide) (fun q => noT F q) (csOK_le hcs (by decide) (by decide)) dX12_init_159 (fun ad115 hA15 => ?_)
  rw [voA (K2 := 12) (r := some x0) hA15 (by decide)]
  have hGc : Grw σ0 ad0 (sP σ111 6321 x0 0 (some j11)) ad111 := hG11
  have hG15 := hGc.nwA hA15
  have hN15 : gN (sP σ111 6321 x0 0 (some j11)) 1322 < gN (nwA (sP σ111 6321 x0 0 (some j11)) 1322) 1322 := nwA_lt
  generalize e15 : nwA (sP σ111 6321 x0 0 (some j11)) 1322 = σ115 at hG15 hN15 ⊢
  have h := lt_elim h σ115 e15
  generalize e15j : gN (sP σ111 6321 x0 0 (some j11)) 1322 = j15 at hN15 ⊢
  have h := lt_elim h j15 e15j
  have hp79 : x0 < gN σ115 12 := (grN e15 hp78 (by decide))
  show Z κ (20, 656) Q0 161 [(0, vo ad115 12 (some x0))] [vo ad115 1322 (some j15), vo ad115 12 (some x0)] ad115 σ115
  refine z_pR (K2 := 1322) I0 F C lpf_X12_68 (by decide) rfl (Or.inl hp79) hN15 dX12_init_161 ?_
  show Z κ (20, 656) Q0 164 _ _ _ (sP σ115 6322 x0 0 (some j15))
  refine z_aload_n C 0 dX12_init_164 rfl ?_
  refine z_bipush C dX12_init_165 (by decide) ?_
  refine z_newarr (atype := .int) (t0 := 0) C ar_1323 rfl lac_int (fun _ => rfl) (by decide) rfl (by decide) (fun q => noT F q) (csOK_le hcs (by decide) (by decide)) dX12_init_167 (fun ad119 hA19 => ?_)
  rw [voA (K2 := 12) (r := some x0) hA19 (by decide)]
  have hGc : Grw σ0 ad0 (sP σ115 6322 x0 0 (some j15)) ad115 := hG15
  have hG19 := hGc.nwA hA19
  have hN19 : gN (sP σ115 6322 x0 0 (some j15)) 1323 < gN (nwA (sP σ115 6322 x0 0 (some j15)) 1323) 1323 := nwA_lt
  generalize e19 : nwA (sP σ115 6322 x0 0 (some j15)) 1323 = σ119 at hG19 hN19 ⊢
  have h := lt_elim h σ119 e19
  generalize e19j : gN (sP σ115 6322 x0 0 (some j15)) 1323 = j19 at hN19 ⊢
  have h := lt_elim h j19 e19j
  have hp80 : x0 < gN σ119 12 := (grN e19 hp79 (by decide))
  show Z κ (21, 664) Q0 169 [(0, vo ad119 12 (some x0))] [vo ad119 1323 (some j19), vo ad119 12 (some x0)] ad119 σ119
  refine z_pR (K2 := 1323) I0 F C lpf_X12_71 (by decide) rfl (Or.inl hp80) hN19 dX12_init_169 ?_
  show Z κ (21, 664) Q0 172 _ _ _ (sP σ119 6323 x0 0 (some j19))
  refine z_aload_n C 0 dX12_init_172 rfl ?_
  refine z_bipush C dX12_init_173 (by decide) ?_
  refine z_newarr (atype := .int) (t0 := 0) C ar_1324 rfl lac_int (fun _ => rfl) (by decide) rfl (by decide) (fun q => noT F q) (csOK_le hcs (by decide) (by decide)) dX12_init_175 (fun ad123 hA23 => ?_)
  rw [voA (K2 := 12) (r := some x0) hA23 (by decide)]
  have hGc : Grw σ0 ad0 (sP σ119 6323 x0 0 (some j19)) ad119 := hG19
  have hG23 := hGc.nwA hA23
  have hN23 : gN (sP σ119 6323 x0 0 (some j19)) 1324 < gN (nwA (sP σ119 6323 x0 0 (some j19)) 1324) 1324 := nwA_lt
  generalize e23 : nwA (sP σ119 6323 x0 0 (some j19)) 1324 = σ123 at hG23 hN23 ⊢
  have h := lt_elim h σ123 e23
  generalize e23j : gN (sP σ119 6323 x0 0 (some j19)) 1324 = j23 at hN23 ⊢
  have h := lt_elim h j23 e23j
  have hp81 : x0 < gN σ123 12 := (grN e23 hp80 (by decide))
  show Z κ (22, 672) Q0 177 [(0, vo ad123 12 (some x0))] [vo ad123 1324 (some j23), vo ad123 12 (some x0)] ad123 σ123
  refine z_pR (K2 := 1324) I0 F C lpf_X12_74 (by decide) rfl (Or.inl hp81) hN23 dX12_init_177 ?_
  show Z κ (22, 672) Q0 180 _ _ _ (sP σ123 6324 x0 0 (some j23))
  refine z_aload_n C 0 dX12_init_180 rfl ?_
  refine z_bipush C dX12_init_181 (by decide) ?_
  refine z_newarr (atype := .int) (t0 := 0) C ar_1325 rfl lac_int (fun _ => rfl) (by decide) rfl (by decide) (fun q => noT F q) (csOK_le hcs (by decide) (by decide)) dX12_init_183 (fun ad127 hA27 => ?_)
  rw [voA (K2 := 12) (r := some x0) hA27 (by decide)]
  have hGc : Grw σ0 ad0 (sP σ123 6324 x0 0 (some j23)) ad123 := hG23
  have hG27 := hGc.nwA hA27
  have hN27 : gN (sP σ123 6324 x0 0 (some j23)) 1325 < gN (nwA (sP σ123 6324 x0 0 (some j23)) 1325) 1325 := nwA_lt
  generalize e27 : nwA (sP σ123 6324 x0 0 (some j23)) 1325 = σ127 at hG27 hN27 ⊢
  have h := lt_elim h σ127 e27
  generalize e27j : gN (sP σ123 6324 x0 0 (some j23)) 1325 = j27 at hN27 ⊢
  have h := lt_elim h j27 e27j
  have hp82 : x0 < gN σ127 12 := (grN e27 hp81 (by decide))
  show Z κ (23, 680) Q0 185 [(0, vo ad127 12 (some x0))] [vo ad127 1325 (some j27), vo ad127 12 (some x0)] ad127 σ127
  refine z_pR (K2 := 1325) I0 F C lpf_X12_77 (by decide) rfl (Or.inl hp82) hN27 dX12_init_185 ?_
  show Z κ (23, 680) Q0 188 _ _ _ (sP σ127 6325 x0 0 (some j27))
  refine z_aload_n C 0 dX12_init_188 rfl ?_
  refine z_bipush C dX12_init_189 (by decide) ?_
  refine z_newarr (atype := .int) (t0 := 0) C ar_1327 rfl lac_int (fun _ => rfl) (by decide) rfl (by decide) (fun q => noT F q) (csOK_le hcs (by decide) (by decide)) dX12_init_191 (fun ad131 hA31 => ?_)
  rw [voA (K2 := 12) (r := some x0) hA31 (by decide)]
  have hGc : Grw σ0 ad0 (sP σ127 6325 x0 0 (some j27)) ad127 := hG27
  have hG31 := hGc.nwA hA31
  have hN31 : gN (sP σ127 6325 x0 0 (some j27)) 1327 < gN (nwA (sP σ127 6325 x0 0 (some j27)) 1327) 1327 := nwA_lt
  generalize e31 : nwA (sP σ127 6325 x0 0 (some j27)) 1327 = σ131 at hG31 hN31 ⊢
  have h := lt_elim h σ131 e31
  generalize e31j : gN (sP σ127 6325 x0 0 (some j27)) 1327 = j31 at hN31 ⊢
  have h := lt_elim h j31 e31j
  have hp83 : x0 < gN σ131 12 := (grN e31 hp82 (by decide))
  show Z κ (24, 688) Q0 193 [(0, vo ad131 12 (some x0))] [vo ad131 1327 (some j31), vo ad131 12 (some x0)] ad131 σ131
  refine z_pR (K2 := 1327) I0 F C lpf_X12_80 (by decide) rfl (Or.inl hp83) hN31 dX12_init_193 ?_
  show Z κ (24, 688) Q0 196 _ _ _ (sP σ131 6327 x0 0 (some j31))
  have hGc : Grw σ0 ad0 (sP σ131 6327 x0 0 (some j31)) ad131 := hG31
  exact tail ad131 (sP σ131 6327 x0 0 (some j31)) hp83 hGc h
set_option maxRecDepth 20000 in
set_option maxHeartbeats 8000000 in
theorem sgX12_init_3 (x0 : Nat) {κ : Cxt} {Q0 : State → Prop} {Xp : Unit × St → Prop} {ad0 : Nat → Nat → Nat} {σ0 : St} (C : Cx κ RX12 cX12_init 2 none 1) (F : isF κ) (I0 : isInit κ) (hcs : csOK κ (73, 4189)) (tail : ∀ (ad : Nat → Nat → Nat) (σ : St), x0 < gN σ 12 → Grw σ0 ad0 σ ad → wpO (fX12_init_s4 x0 σ) Xp → Z κ (32, 787) Q0 265 [(0, vo ad 12 (some x0))] [] ad σ) : ∀ (ads : Nat → Nat → Nat) (σs : St), x0 < gN σs 12 → Grw σ0 ad0 σs ads → wpO (fX12_init_s3 x0 σs) Xp → Z κ (24, 688) Q0 196 [(0, vo ads 12 (some x0))] [] ads σs := by
  intro ads σs hx0 hGs h
  unfold fX12_init_s3 at h
  show Z κ (24, 688) Q0 196 [(0, vo ads 12 (some x0))] [] ads σs
  refine z_aload_n C 0 dX12_init_196 rfl ?_
  refine z_bipush C dX12_init_197 (by decide) ?_
  refine z_newarr (atype := .int) (t0 := 0) C ar_1328 rfl lac_int (fun _ => rfl) (by decide) rfl (by decide) (fun q => noT F q) (csOK_le hcs (by decide) (by decide)) dX12_init_199 (fun ad103 hA3 => ?_)
  rw [voA (K2 := 12) (r := some x0) hA3 (by decide)]
  have hGc : Grw σ0 ad0 σs ads := hGs
  have hG3 := hGc.nwA hA3
  have hN3 : gN σs 1328 < gN (nwA σs 1328) 1328 := nwA_lt
  generalize e3 : nwA σs 1328 = σ103 at hG3 hN3 ⊢
  have h := lt_elim h σ103 e3
  generalize e3j : gN σs 1328 = j3 at hN3 ⊢
  have h := lt_elim h j3 e3j
  have hp84 : x0 < gN σ103 12 := (grN e3 hx0 (by decide))
  show Z κ (25, 696) Q0 201 [(0, vo ad103 12 (some x0))] [vo ad103 1328 (some j3), vo ad103 12 (some x0)] ad103 σ103
  refine z_pR (K2 := 1328) I0 F C lpf_X12_83 (by decide) rfl (Or.inl hp84) hN3 dX12_init_201 ?_
  show Z κ (25, 696) Q0 204 _ _ _ (sP σ103 6328 x0 0 (some j3))
  refine z_aload_n C 0 dX12_init_204 rfl ?_
  refine z_bipush C dX12_init_205 (by decide) ?_
  refine z_newarr (atype := .int) (t0 := 0) C ar_1329 rfl lac_int (fun _ => rfl) (by decide) rfl (by decide) (fun q => noT F q) (csOK_le hcs (by decide) (by decide)) dX12_init_207 (fun ad107 hA7 => ?_)
  rw [voA (K2 := 12) (r := some x0) hA7 (by decide)]
  have hGc : Grw σ0 ad0 (sP σ103 6328 x0 0 (some j3)) ad103 := hG3
  have hG7 := hGc.nwA hA7
  have hN7 : gN (sP σ103 6328 x0 0 (some j3)) 1329 < gN (nwA (sP σ103 6328 x0 0 (some j3)) 1329) 1329 := nwA_lt
  generalize e7 : nwA (sP σ103 6328 x0 0 (some j3)) 1329 = σ107 at hG7 hN7 ⊢
  have h := lt_elim h σ107 e7
  generalize e7j : gN (sP σ103 6328 x0 0 (some j3)) 1329 = j7 at hN7 ⊢
  have h := lt_elim h j7 e7j
  have hp85 : x0 < gN σ107 12 := (grN e7 hp84 (by decide))
  show Z κ (26, 704) Q0 209 [(0, vo ad107 12 (some x0))] [vo ad107 1329 (some j7), vo ad107 12 (some x0)] ad107 σ107
  refine z_pR (K2 := 1329) I0 F C lpf_X12_86 (by decide) rfl (Or.inl hp85) hN7 dX12_init_209 ?_
  show Z κ (26, 704) Q0 212 _ _ _ (sP σ107 6329 x0 0 (some j7))
  refine z_aload_n C 0 dX12_init_212 rfl ?_
  refine z_bipush C dX12_init_213 (by decide) ?_
  refine z_newarr (atype := .int) (t0 := 0) C ar_1330 rfl lac_int (fun _ => rfl) (by decide) rfl (by decide) (fun q => noT F q) (csOK_le hcs (by decide) (by decide)) dX12_init_215 (fun ad111 hA11 => ?_)
  rw [voA (K2 := 12) (r := some x0) hA11 (by decide)]
  have hGc : Grw σ0 ad0 (sP σ107 6329 x0 0 (some j7)) ad107 := hG7
  have hG11 := hGc.nwA hA11
  have hN11 : gN (sP σ107 6329 x0 0 (some j7)) 1330 < gN (nwA (sP σ107 6329 x0 0 (some j7)) 1330) 1330 := nwA_lt
  generalize e11 : nwA (sP σ107 6329 x0 0 (some j7)) 1330 = σ111 at hG11 hN11 ⊢
  have h := lt_elim h σ111 e11
  generalize e11j : gN (sP σ107 6329 x0 0 (some j7)) 1330 = j11 at hN11 ⊢
  have h := lt_elim h j11 e11j
  have hp86 : x0 < gN σ111 12 := (grN e11 hp85 (by decide))
  show Z κ (27, 712) Q0 217 [(0, vo ad111 12 (some x0))] [vo ad111 1330 (some j11), vo ad111 12 (some x0)] ad111 σ111
  refine z_pR (K2 := 1330) I0 F C lpf_X12_89 (by decide) rfl (Or.inl hp86) hN11 dX12_init_217 ?_
  show Z κ (27, 712) Q0 220 _ _ _ (sP σ111 6330 x0 0 (some j11))
  refine z_aload_n C 0 dX12_init_220 rfl ?_
  refine z_bipush C dX12_init_221 (by decide) ?_
  refine z_newarr (atype := .int) (t0 := 0) C ar_1331 rfl lac_int (fun _ => rfl) (by decide) rfl (by decide) (fun q => noT F q) (csOK_le hcs (by decide) (by decide)) dX12_init_223 (fun ad115 hA15 => ?_)
  rw [voA (K2 := 12) (r := some x0) hA15 (by decide)]
  have hGc : Grw σ0 ad0 (sP σ111 6330 x0 0 (some j11)) ad111 := hG11
  have hG15 := hGc.nwA hA15
  have hN15 : gN (sP σ111 6330 x0 0 (some j11)) 1331 < gN (nwA (sP σ111 6330 x0 0 (some j11)) 1331) 1331 := nwA_lt
  generalize e15 : nwA (sP σ111 6330 x0 0 (some j11)) 1331 = σ115 at hG15 hN15 ⊢
  have h := lt_elim h σ115 e15
  generalize e15j : gN (sP σ111 6330 x0 0 (some j11)) 1331 = j15 at hN15 ⊢
  have h := lt_elim h j15 e15j
  have hp87 : x0 < gN σ115 12 := (grN e15 hp86 (by decide))
  show Z κ (28, 720) Q0 225 [(0, vo ad115 12 (some x0))] [vo ad115 1331 (some j15), vo ad115 12 (some x0)] ad115 σ115
  refine z_pR (K2 := 1331) I0 F C lpf_X12_92 (by decide) rfl (Or.inl hp87) hN15 dX12_init_225 ?_
  show Z κ (28, 720) Q0 228 _ _ _ (sP σ115 6331 x0 0 (some j15))
  refine z_aload_n C 0 dX12_init_228 rfl ?_
  refine z_bipush C dX12_init_229 (by decide) ?_
  refine z_newarr (atype := .int) (t0 := 0) C ar_1332 rfl lac_int (fun _ => rfl) (by decide) rfl (by decide) (fun q => noT F q) (csOK_le hcs (by decide) (by decide)) dX12_init_231 (fun ad119 hA19 => ?_)
  rw [voA (K2 := 12) (r := some x0) hA19 (by decide)]
  have hGc : Grw σ0 ad0 (sP σ115 6331 x0 0 (some j15)) ad115 := hG15
  have hG19 := hGc.nwA hA19
  have hN19 : gN (sP σ115 6331 x0 0 (some j15)) 1332 < gN (nwA (sP σ115 6331 x0 0 (some j15)) 1332) 1332 := nwA_lt
  generalize e19 : nwA (sP σ115 6331 x0 0 (some j15)) 1332 = σ119 at hG19 hN19 ⊢
  have h := lt_elim h σ119 e19
  generalize e19j : gN (sP σ115 6331 x0 0 (some j15)) 1332 = j19 at hN19 ⊢
  have h := lt_elim h j19 e19j
  have hp88 : x0 < gN σ119 12 := (grN e19 hp87 (by decide))
  show Z κ (29, 768) Q0 233 [(0, vo ad119 12 (some x0))] [vo ad119 1332 (some j19), vo ad119 12 (some x0)] ad119 σ119
  refine z_pR (K2 := 1332) I0 F C lpf_X12_95 (by decide) rfl (Or.inl hp88) hN19 dX12_init_233 ?_
  show Z κ (29, 768) Q0 236 _ _ _ (sP σ119 6332 x0 0 (some j19))
  refine z_aload_n C 0 dX12_init_236 rfl ?_
  refine z_bipush C dX12_init_237 (by decide) ?_
  refine z_newarr (atype := .boolean) (t0 := 1) C ar_1333 rfl lac_boolean (fun _ => rfl) (by decide) rfl (by decide) (fun q => noT F q) (csOK_le hcs (by decide) (by decide)) dX12_init_239 (fun ad123 hA23 => ?_)
  rw [voA (K2 := 12) (r := some x0) hA23 (by decide)]
  have hGc : Grw σ0 ad0 (sP σ119 6332 x0 0 (some j19)) ad119 := hG19
  have hG23 := hGc.nwA hA23
  have hN23 : gN (sP σ119 6332 x0 0 (some j19)) 1333 < gN (nwA (sP σ119 6332 x0 0 (some j19)) 1333) 1333 := nwA_lt
  generalize e23 : nwA (sP σ119 6332 x0 0 (some j19)) 1333 = σ123 at hG23 hN23 ⊢
  have h := lt_elim h σ123 e23
  generalize e23j : gN (sP σ119 6332 x0 0 (some j19)) 1333 = j23 at hN23 ⊢
  have h := lt_elim h j23 e23j
  have hp89 : x0 < gN σ123 12 := (grN e23 hp88 (by decide))
  show Z κ (30, 776) Q0 241 [(0, vo ad123 12 (some x0))] [vo ad123 1333 (some j23), vo ad123 12 (some x0)] ad123 σ123
  refine z_pR (K2 := 1333) I0 F C lpf_X12_98 (by decide) rfl (Or.inl hp89) hN23 dX12_init_241 ?_
  show Z κ (30, 776) Q0 244 _ _ _ (sP σ123 6333 x0 0 (some j23))
  refine z_aload_n C 0 dX12_init_244 rfl ?_
  refine z_bipush C dX12_init_245 (by decide) ?_
  refine z_newarr (atype := .boolean) (t0 := 1) C ar_1334 rfl lac_boolean (fun _ => rfl) (by decide) rfl (by decide) (fun q => noT F q) (csOK_le hcs (by decide) (by decide)) dX12_init_247 (fun ad127 hA27 => ?_)
  rw [voA (K2 := 12) (r := some x0) hA27 (by decide)]
  have hGc : Grw σ0 ad0 (sP σ123 6333 x0 0 (some j23)) ad123 := hG23
  have hG27 := hGc.nwA hA27
  have hN27 : gN (sP σ123 6333 x0 0 (some j23)) 1334 < gN (nwA (sP σ123 6333 x0 0 (some j23)) 1334) 1334 := nwA_lt
  generalize e27 : nwA (sP σ123 6333 x0 0 (some j23)) 1334 = σ127 at hG27 hN27 ⊢
  have h := lt_elim h σ127 e27
  generalize e27j : gN (sP σ123 6333 x0 0 (some j23)) 1334 = j27 at hN27 ⊢
  have h := lt_elim h j27 e27j
  have hp90 : x0 < gN σ127 12 := (grN e27 hp89 (by decide))
  show Z κ (31, 784) Q0 249 [(0, vo ad127 12 (some x0))] [vo ad127 1334 (some j27), vo ad127 12 (some x0)] ad127 σ127
  refine z_pR (K2 := 1334) I0 F C lpf_X12_101 (by decide) rfl (Or.inl hp90) hN27 dX12_init_249 ?_
  show Z κ (31, 784) Q0 252 _ _ _ (sP σ127 6334 x0 0 (some j27))
  refine z_aload_n C 0 dX12_init_252 rfl ?_
  refine z_bipush C dX12_init_253 (by decide) ?_
  refine z_pF I0 C lpf_X12_104 (Or.inl hp90) (by decide) dX12_init_255 ?_
  refine z_aload_n C 0 dX12_init_258 rfl ?_
  refine z_iconst C dX12_init_259 ?_
  refine z_newarr (atype := .int) (t0 := 0) C ar_1336 rfl lac_int (fun _ => rfl) (by decide) rfl (by decide) (fun q => noT F q) (csOK_le hcs (by decide) (by decide)) dX12_init_260 (fun ad134 hA34 => ?_)
  rw [voA (K2 := 12) (r := some x0) hA34 (by decide)]
  have hGc : Grw σ0 ad0 (sI (sP σ127 6334 x0 0 (some j27)) 1335 x0 0 30) ad127 := hG27
  have hG34 := hGc.nwA hA34
  have hN34 : gN (sI (sP σ127 6334 x0 0 (some j27)) 1335 x0 0 30) 1336 < gN (nwA (sI (sP σ127 6334 x0 0 (some j27)) 1335 x0 0 30) 1336) 1336 := nwA_lt
  generalize e34 : nwA (sI (sP σ127 6334 x0 0 (some j27)) 1335 x0 0 30) 1336 = σ134 at hG34 hN34 ⊢
  have h := lt_elim h σ134 e34
  generalize e34j : gN (sI (sP σ127 6334 x0 0 (some j27)) 1335 x0 0 30) 1336 = j34 at hN34 ⊢
  have h := lt_elim h j34 e34j
  have hp91 : x0 < gN σ134 12 := (grN e34 hp90 (by decide))
  show Z κ (32, 787) Q0 262 [(0, vo ad134 12 (some x0))] [vo ad134 1336 (some j34), vo ad134 12 (some x0)] ad134 σ134
  refine z_pR (K2 := 1336) I0 F C lpf_X12_108 (by decide) rfl (Or.inl hp91) hN34 dX12_init_262 ?_
  show Z κ (32, 787) Q0 265 _ _ _ (sP σ134 6336 x0 0 (some j34))
  have hGc : Grw σ0 ad0 (sP σ134 6336 x0 0 (some j34)) ad134 := hG34
  exact tail ad134 (sP σ134 6336 x0 0 (some j34)) hp91 hGc h
set_option maxRecDepth 20000 in
set_option maxHeartbeats 8000000 in
theorem sgX12_init_4 (x0 : Nat) {κ : Cxt} {Q0 : State → Prop} {Xp : Unit × St → Prop} {ad0 : Nat → Nat → Nat} {σ0 : St} (C : Cx κ RX12 cX12_init 2 none 1) (F : isF κ) (I0 : isInit κ) (hcs : csOK κ (73, 4189)) (tail : ∀ (ad : Nat → Nat → Nat) (σ : St), x0 < gN σ 12 → Grw σ0 ad0 σ ad → wpO (fX12_init_s5 x0 σ) Xp → Z κ (40, 1477) Q0 330 [(0, vo ad 12 (some x0))] [] ad σ) : ∀ (ads : Nat → Nat → Nat) (σs : St), x0 < gN σs 12 → Grw σ0 ad0 σs ads → wpO (fX12_init_s4 x0 σs) Xp → Z κ (32, 787) Q0 265 [(0, vo ads 12 (some x0))] [] ads σs := by
  intro ads σs hx0 hGs h
  unfold fX12_init_s4 at h
  show Z κ (32, 787) Q0 265 [(0, vo ads 12 (some x0))] [] ads σs
  refine z_aload_n C 0 dX12_init_265 rfl ?_
  refine z_bipush C dX12_init_266 (by decide) ?_
  refine z_newarr (atype := .int) (t0 := 0) C ar_1338 rfl lac_int (fun _ => rfl) (by decide) rfl (by decide) (fun q => noT F q) (csOK_le hcs (by decide) (by decide)) dX12_init_268 (fun ad103 hA3 => ?_)
  rw [voA (K2 := 12) (r := some x0) hA3 (by decide)]
  have hGc : Grw σ0 ad0 σs ads := hGs
  have hG3 := hGc.nwA hA3
  have hN3 : gN σs 1338 < gN (nwA σs 1338) 1338 := nwA_lt
  generalize e3 : nwA σs 1338 = σ103 at hG3 hN3 ⊢
  have h := lt_elim h σ103 e3
  generalize e3j : gN σs 1338 = j3 at hN3 ⊢
  have h := lt_elim h j3 e3j
  have hp92 : x0 < gN σ103 12 := (grN e3 hx0 (by decide))
  show Z κ (33, 793) Q0 270 [(0, vo ad103 12 (some x0))] [vo ad103 1338 (some j3), vo ad103 12 (some x0)] ad103 σ103
  refine z_pR (K2 := 1338) I0 F C lpf_X12_111 (by decide) rfl (Or.inl hp92) hN3 dX12_init_270 ?_
  show Z κ (33, 793) Q0 273 _ _ _ (sP σ103 6338 x0 0 (some j3))
  refine z_aload_n C 0 dX12_init_273 rfl ?_
  refine z_bipush C dX12_init_274 (by decide) ?_
  refine z_newarr (atype := .int) (t0 := 0) C ar_1339 rfl lac_int (fun _ => rfl) (by decide) rfl (by decide) (fun q => noT F q) (csOK_le hcs (by decide) (by decide)) dX12_init_276 (fun ad107 hA7 => ?_)
  rw [voA (K2 := 12) (r := some x0) hA7 (by decide)]
  have hGc : Grw σ0 ad0 (sP σ103 6338 x0 0 (some j3)) ad103 := hG3
  have hG7 := hGc.nwA hA7
  have hN7 : gN (sP σ103 6338 x0 0 (some j3)) 1339 < gN (nwA (sP σ103 6338 x0 0 (some j3)) 1339) 1339 := nwA_lt
  generalize e7 : nwA (sP σ103 6338 x0 0 (some j3)) 1339 = σ107 at hG7 hN7 ⊢
  have h := lt_elim h σ107 e7
  generalize e7j : gN (sP σ103 6338 x0 0 (some j3)) 1339 = j7 at hN7 ⊢
  have h := lt_elim h j7 e7j
  have hp93 : x0 < gN σ107 12 := (grN e7 hp92 (by decide))
  show Z κ (34, 799) Q0 278 [(0, vo ad107 12 (some x0))] [vo ad107 1339 (some j7), vo ad107 12 (some x0)] ad107 σ107
  refine z_pR (K2 := 1339) I0 F C lpf_X12_114 (by decide) rfl (Or.inl hp93) hN7 dX12_init_278 ?_
  show Z κ (34, 799) Q0 281 _ _ _ (sP σ107 6339 x0 0 (some j7))
  refine z_aload_n C 0 dX12_init_281 rfl ?_
  refine z_bipush C dX12_init_282 (by decide) ?_
  refine z_newarr (atype := .int) (t0 := 0) C ar_1340 rfl lac_int (fun _ => rfl) (by decide) rfl (by decide) (fun q => noT F q) (csOK_le hcs (by decide) (by decide)) dX12_init_284 (fun ad111 hA11 => ?_)
  rw [voA (K2 := 12) (r := some x0) hA11 (by decide)]
  have hGc : Grw σ0 ad0 (sP σ107 6339 x0 0 (some j7)) ad107 := hG7
  have hG11 := hGc.nwA hA11
  have hN11 : gN (sP σ107 6339 x0 0 (some j7)) 1340 < gN (nwA (sP σ107 6339 x0 0 (some j7)) 1340) 1340 := nwA_lt
  generalize e11 : nwA (sP σ107 6339 x0 0 (some j7)) 1340 = σ111 at hG11 hN11 ⊢
  have h := lt_elim h σ111 e11
  generalize e11j : gN (sP σ107 6339 x0 0 (some j7)) 1340 = j11 at hN11 ⊢
  have h := lt_elim h j11 e11j
  have hp94 : x0 < gN σ111 12 := (grN e11 hp93 (by decide))
  show Z κ (35, 805) Q0 286 [(0, vo ad111 12 (some x0))] [vo ad111 1340 (some j11), vo ad111 12 (some x0)] ad111 σ111
  refine z_pR (K2 := 1340) I0 F C lpf_X12_117 (by decide) rfl (Or.inl hp94) hN11 dX12_init_286 ?_
  show Z κ (35, 805) Q0 289 _ _ _ (sP σ111 6340 x0 0 (some j11))
  refine z_aload_n C 0 dX12_init_289 rfl ?_
  refine z_sipush C dX12_init_290 (by decide) ?_
  refine z_newarr (atype := .int) (t0 := 0) C ar_1341 rfl lac_int (fun _ => rfl) (by decide) rfl (by decide) (fun q => noT F q) (csOK_le hcs (by decide) (by decide)) dX12_init_293 (fun ad115 hA15 => ?_)
  rw [voA (K2 := 12) (r := some x0) hA15 (by decide)]
  have hGc : Grw σ0 ad0 (sP σ111 6340 x0 0 (some j11)) ad111 := hG11
  have hG15 := hGc.nwA hA15
  have hN15 : gN (sP σ111 6340 x0 0 (some j11)) 1341 < gN (nwA (sP σ111 6340 x0 0 (some j11)) 1341) 1341 := nwA_lt
  generalize e15 : nwA (sP σ111 6340 x0 0 (some j11)) 1341 = σ115 at hG15 hN15 ⊢
  have h := lt_elim h σ115 e15
  generalize e15j : gN (sP σ111 6340 x0 0 (some j11)) 1341 = j15 at hN15 ⊢
  have h := lt_elim h j15 e15j
  have hp95 : x0 < gN σ115 12 := (grN e15 hp94 (by decide))
  show Z κ (36, 1285) Q0 295 [(0, vo ad115 12 (some x0))] [vo ad115 1341 (some j15), vo ad115 12 (some x0)] ad115 σ115
  refine z_pR (K2 := 1341) I0 F C lpf_X12_120 (by decide) rfl (Or.inl hp95) hN15 dX12_init_295 ?_
  show Z κ (36, 1285) Q0 298 _ _ _ (sP σ115 6341 x0 0 (some j15))
  refine z_aload_n C 0 dX12_init_298 rfl ?_
  refine z_bipush C dX12_init_299 (by decide) ?_
  refine z_newarr (atype := .int) (t0 := 0) C ar_1344 rfl lac_int (fun _ => rfl) (by decide) rfl (by decide) (fun q => noT F q) (csOK_le hcs (by decide) (by decide)) dX12_init_301 (fun ad119 hA19 => ?_)
  rw [voA (K2 := 12) (r := some x0) hA19 (by decide)]
  have hGc : Grw σ0 ad0 (sP σ115 6341 x0 0 (some j15)) ad115 := hG15
  have hG19 := hGc.nwA hA19
  have hN19 : gN (sP σ115 6341 x0 0 (some j15)) 1344 < gN (nwA (sP σ115 6341 x0 0 (some j15)) 1344) 1344 := nwA_lt
  generalize e19 : nwA (sP σ115 6341 x0 0 (some j15)) 1344 = σ119 at hG19 hN19 ⊢
  have h := lt_elim h σ119 e19
  generalize e19j : gN (sP σ115 6341 x0 0 (some j15)) 1344 = j19 at hN19 ⊢
  have h := lt_elim h j19 e19j
  have hp96 : x0 < gN σ119 12 := (grN e19 hp95 (by decide))
  show Z κ (37, 1369) Q0 303 [(0, vo ad119 12 (some x0))] [vo ad119 1344 (some j19), vo ad119 12 (some x0)] ad119 σ119
  refine z_pR (K2 := 1344) I0 F C lpf_X12_123 (by decide) rfl (Or.inl hp96) hN19 dX12_init_303 ?_
  show Z κ (37, 1369) Q0 306 _ _ _ (sP σ119 6344 x0 0 (some j19))
  refine z_aload_n C 0 dX12_init_306 rfl ?_
  refine z_bipush C dX12_init_307 (by decide) ?_
  refine z_newarr (atype := .boolean) (t0 := 1) C ar_1346 rfl lac_boolean (fun _ => rfl) (by decide) rfl (by decide) (fun q => noT F q) (csOK_le hcs (by decide) (by decide)) dX12_init_309 (fun ad123 hA23 => ?_)
  rw [voA (K2 := 12) (r := some x0) hA23 (by decide)]
  have hGc : Grw σ0 ad0 (sP σ119 6344 x0 0 (some j19)) ad119 := hG19
  have hG23 := hGc.nwA hA23
  have hN23 : gN (sP σ119 6344 x0 0 (some j19)) 1346 < gN (nwA (sP σ119 6344 x0 0 (some j19)) 1346) 1346 := nwA_lt
  generalize e23 : nwA (sP σ119 6344 x0 0 (some j19)) 1346 = σ123 at hG23 hN23 ⊢
  have h := lt_elim h σ123 e23
  generalize e23j : gN (sP σ119 6344 x0 0 (some j19)) 1346 = j23 at hN23 ⊢
  have h := lt_elim h j23 e23j
  have hp97 : x0 < gN σ123 12 := (grN e23 hp96 (by decide))
  show Z κ (38, 1453) Q0 311 [(0, vo ad123 12 (some x0))] [vo ad123 1346 (some j23), vo ad123 12 (some x0)] ad123 σ123
  refine z_pR (K2 := 1346) I0 F C lpf_X12_126 (by decide) rfl (Or.inl hp97) hN23 dX12_init_311 ?_
  show Z κ (38, 1453) Q0 314 _ _ _ (sP σ123 6346 x0 0 (some j23))
  refine z_aload_n C 0 dX12_init_314 rfl ?_
  refine z_bipush C dX12_init_315 (by decide) ?_
  refine z_newarr (atype := .int) (t0 := 0) C ar_1347 rfl lac_int (fun _ => rfl) (by decide) rfl (by decide) (fun q => noT F q) (csOK_le hcs (by decide) (by decide)) dX12_init_317 (fun ad127 hA27 => ?_)
  rw [voA (K2 := 12) (r := some x0) hA27 (by decide)]
  have hGc : Grw σ0 ad0 (sP σ123 6346 x0 0 (some j23)) ad123 := hG23
  have hG27 := hGc.nwA hA27
  have hN27 : gN (sP σ123 6346 x0 0 (some j23)) 1347 < gN (nwA (sP σ123 6346 x0 0 (some j23)) 1347) 1347 := nwA_lt
  generalize e27 : nwA (sP σ123 6346 x0 0 (some j23)) 1347 = σ127 at hG27 hN27 ⊢
  have h := lt_elim h σ127 e27
  generalize e27j : gN (sP σ123 6346 x0 0 (some j23)) 1347 = j27 at hN27 ⊢
  have h := lt_elim h j27 e27j
  have hp98 : x0 < gN σ127 12 := (grN e27 hp97 (by decide))
  show Z κ (39, 1461) Q0 319 [(0, vo ad127 12 (some x0))] [vo ad127 1347 (some j27), vo ad127 12 (some x0)] ad127 σ127
  refine z_pR (K2 := 1347) I0 F C lpf_X12_129 (by decide) rfl (Or.inl hp98) hN27 dX12_init_319 ?_
  show Z κ (39, 1461) Q0 322 _ _ _ (sP σ127 6347 x0 0 (some j27))
  refine z_aload_n C 0 dX12_init_322 rfl ?_
  refine z_bipush C dX12_init_323 (by decide) ?_
  refine z_newarr (atype := .boolean) (t0 := 1) C ar_1348 rfl lac_boolean (fun _ => rfl) (by decide) rfl (by decide) (fun q => noT F q) (csOK_le hcs (by decide) (by decide)) dX12_init_325 (fun ad131 hA31 => ?_)
  rw [voA (K2 := 12) (r := some x0) hA31 (by decide)]
  have hGc : Grw σ0 ad0 (sP σ127 6347 x0 0 (some j27)) ad127 := hG27
  have hG31 := hGc.nwA hA31
  have hN31 : gN (sP σ127 6347 x0 0 (some j27)) 1348 < gN (nwA (sP σ127 6347 x0 0 (some j27)) 1348) 1348 := nwA_lt
  generalize e31 : nwA (sP σ127 6347 x0 0 (some j27)) 1348 = σ131 at hG31 hN31 ⊢
  have h := lt_elim h σ131 e31
  generalize e31j : gN (sP σ127 6347 x0 0 (some j27)) 1348 = j31 at hN31 ⊢
  have h := lt_elim h j31 e31j
  have hp99 : x0 < gN σ131 12 := (grN e31 hp98 (by decide))
  show Z κ (40, 1477) Q0 327 [(0, vo ad131 12 (some x0))] [vo ad131 1348 (some j31), vo ad131 12 (some x0)] ad131 σ131
  refine z_pR (K2 := 1348) I0 F C lpf_X12_132 (by decide) rfl (Or.inl hp99) hN31 dX12_init_327 ?_
  show Z κ (40, 1477) Q0 330 _ _ _ (sP σ131 6348 x0 0 (some j31))
  have hGc : Grw σ0 ad0 (sP σ131 6348 x0 0 (some j31)) ad131 := hG31
  exact tail ad131 (sP σ131 6348 x0 0 (some j31)) hp99 hGc h
set_option maxRecDepth 20000 in
set_option maxHeartbeats 8000000 in
theorem sgX12_init_5 (x0 : Nat) {κ : Cxt} {Q0 : State → Prop} {Xp : Unit × St → Prop} {ad0 : Nat → Nat → Nat} {σ0 : St} (C : Cx κ RX12 cX12_init 2 none 1) (F : isF κ) (I0 : isInit κ) (hcs : csOK κ (73, 4189)) (tail : ∀ (ad : Nat → Nat → Nat) (σ : St), x0 < gN σ 12 → Grw σ0 ad0 σ ad → wpO (fX12_init_s6 x0 σ) Xp → Z κ (48, 1605) Q0 407 [(0, vo ad 12 (some x0))] [] ad σ) : ∀ (ads : Nat → Nat → Nat) (σs : St), x0 < gN σs 12 → Grw σ0 ad0 σs ads → wpO (fX12_init_s5 x0 σs) Xp → Z κ (40, 1477) Q0 330 [(0, vo ads 12 (some x0))] [] ads σs := by
  intro ads σs hx0 hGs h
  unfold fX12_init_s5 at h
  show Z κ (40, 1477) Q0 330 [(0, vo ads 12 (some x0))] [] ads σs
  refine z_aload_n C 0 dX12_init_330 rfl ?_
  refine z_bipush C dX12_init_331 (by decide) ?_
  refine z_newarr (atype := .int) (t0 := 0) C ar_1350 rfl lac_int (fun _ => rfl) (by decide) rfl (by decide) (fun q => noT F q) (csOK_le hcs (by decide) (by decide)) dX12_init_333 (fun ad103 hA3 => ?_)
  rw [voA (K2 := 12) (r := some x0) hA3 (by decide)]
  have hGc : Grw σ0 ad0 σs ads := hGs
  have hG3 := hGc.nwA hA3
  have hN3 : gN σs 1350 < gN (nwA σs 1350) 1350 := nwA_lt
  generalize e3 : nwA σs 1350 = σ103 at hG3 hN3 ⊢
  have h := lt_elim h σ103 e3
  generalize e3j : gN σs 1350 = j3 at hN3 ⊢
  have h := lt_elim h j3 e3j
  have hp100 : x0 < gN σ103 12 := (grN e3 hx0 (by decide))
  show Z κ (41, 1485) Q0 335 [(0, vo ad103 12 (some x0))] [vo ad103 1350 (some j3), vo ad103 12 (some x0)] ad103 σ103
  refine z_pR (K2 := 1350) I0 F C lpf_X12_135 (by decide) rfl (Or.inl hp100) hN3 dX12_init_335 ?_
  show Z κ (41, 1485) Q0 338 _ _ _ (sP σ103 6350 x0 0 (some j3))
  refine z_aload_n C 0 dX12_init_338 rfl ?_
  refine z_bipush C dX12_init_339 (by decide) ?_
  refine z_newarr (atype := .int) (t0 := 0) C ar_1351 rfl lac_int (fun _ => rfl) (by decide) rfl (by decide) (fun q => noT F q) (csOK_le hcs (by decide) (by decide)) dX12_init_341 (fun ad107 hA7 => ?_)
  rw [voA (K2 := 12) (r := some x0) hA7 (by decide)]
  have hGc : Grw σ0 ad0 (sP σ103 6350 x0 0 (some j3)) ad103 := hG3
  have hG7 := hGc.nwA hA7
  have hN7 : gN (sP σ103 6350 x0 0 (some j3)) 1351 < gN (nwA (sP σ103 6350 x0 0 (some j3)) 1351) 1351 := nwA_lt
  generalize e7 : nwA (sP σ103 6350 x0 0 (some j3)) 1351 = σ107 at hG7 hN7 ⊢
  have h := lt_elim h σ107 e7
  generalize e7j : gN (sP σ103 6350 x0 0 (some j3)) 1351 = j7 at hN7 ⊢
  have h := lt_elim h j7 e7j
  have hp101 : x0 < gN σ107 12 := (grN e7 hp100 (by decide))
  show Z κ (42, 1493) Q0 343 [(0, vo ad107 12 (some x0))] [vo ad107 1351 (some j7), vo ad107 12 (some x0)] ad107 σ107
  refine z_pR (K2 := 1351) I0 F C lpf_X12_138 (by decide) rfl (Or.inl hp101) hN7 dX12_init_343 ?_
  show Z κ (42, 1493) Q0 346 _ _ _ (sP σ107 6351 x0 0 (some j7))
  refine z_aload_n C 0 dX12_init_346 rfl ?_
  refine z_bipush C dX12_init_347 (by decide) ?_
  refine z_newarr (atype := .int) (t0 := 0) C ar_1352 rfl lac_int (fun _ => rfl) (by decide) rfl (by decide) (fun q => noT F q) (csOK_le hcs (by decide) (by decide)) dX12_init_349 (fun ad111 hA11 => ?_)
  rw [voA (K2 := 12) (r := some x0) hA11 (by decide)]
  have hGc : Grw σ0 ad0 (sP σ107 6351 x0 0 (some j7)) ad107 := hG7
  have hG11 := hGc.nwA hA11
  have hN11 : gN (sP σ107 6351 x0 0 (some j7)) 1352 < gN (nwA (sP σ107 6351 x0 0 (some j7)) 1352) 1352 := nwA_lt
  generalize e11 : nwA (sP σ107 6351 x0 0 (some j7)) 1352 = σ111 at hG11 hN11 ⊢
  have h := lt_elim h σ111 e11
  generalize e11j : gN (sP σ107 6351 x0 0 (some j7)) 1352 = j11 at hN11 ⊢
  have h := lt_elim h j11 e11j
  have hp102 : x0 < gN σ111 12 := (grN e11 hp101 (by decide))
  show Z κ (43, 1501) Q0 351 [(0, vo ad111 12 (some x0))] [vo ad111 1352 (some j11), vo ad111 12 (some x0)] ad111 σ111
  refine z_pR (K2 := 1352) I0 F C lpf_X12_141 (by decide) rfl (Or.inl hp102) hN11 dX12_init_351 ?_
  show Z κ (43, 1501) Q0 354 _ _ _ (sP σ111 6352 x0 0 (some j11))
  refine z_aload_n C 0 dX12_init_354 rfl ?_
  refine z_bipush C dX12_init_355 (by decide) ?_
  refine z_newarr (atype := .int) (t0 := 0) C ar_1353 rfl lac_int (fun _ => rfl) (by decide) rfl (by decide) (fun q => noT F q) (csOK_le hcs (by decide) (by decide)) dX12_init_357 (fun ad115 hA15 => ?_)
  rw [voA (K2 := 12) (r := some x0) hA15 (by decide)]
  have hGc : Grw σ0 ad0 (sP σ111 6352 x0 0 (some j11)) ad111 := hG11
  have hG15 := hGc.nwA hA15
  have hN15 : gN (sP σ111 6352 x0 0 (some j11)) 1353 < gN (nwA (sP σ111 6352 x0 0 (some j11)) 1353) 1353 := nwA_lt
  generalize e15 : nwA (sP σ111 6352 x0 0 (some j11)) 1353 = σ115 at hG15 hN15 ⊢
  have h := lt_elim h σ115 e15
  generalize e15j : gN (sP σ111 6352 x0 0 (some j11)) 1353 = j15 at hN15 ⊢
  have h := lt_elim h j15 e15j
  have hp103 : x0 < gN σ115 12 := (grN e15 hp102 (by decide))
  show Z κ (44, 1509) Q0 359 [(0, vo ad115 12 (some x0))] [vo ad115 1353 (some j15), vo ad115 12 (some x0)] ad115 σ115
  refine z_pR (K2 := 1353) I0 F C lpf_X12_144 (by decide) rfl (Or.inl hp103) hN15 dX12_init_359 ?_
  show Z κ (44, 1509) Q0 362 _ _ _ (sP σ115 6353 x0 0 (some j15))
  refine z_aload_n C 0 dX12_init_362 rfl ?_
  refine z_bipush C dX12_init_363 (by decide) ?_
  refine z_newarr (atype := .int) (t0 := 0) C ar_1354 rfl lac_int (fun _ => rfl) (by decide) rfl (by decide) (fun q => noT F q) (csOK_le hcs (by decide) (by decide)) dX12_init_365 (fun ad119 hA19 => ?_)
  rw [voA (K2 := 12) (r := some x0) hA19 (by decide)]
  have hGc : Grw σ0 ad0 (sP σ115 6353 x0 0 (some j15)) ad115 := hG15
  have hG19 := hGc.nwA hA19
  have hN19 : gN (sP σ115 6353 x0 0 (some j15)) 1354 < gN (nwA (sP σ115 6353 x0 0 (some j15)) 1354) 1354 := nwA_lt
  generalize e19 : nwA (sP σ115 6353 x0 0 (some j15)) 1354 = σ119 at hG19 hN19 ⊢
  have h := lt_elim h σ119 e19
  generalize e19j : gN (sP σ115 6353 x0 0 (some j15)) 1354 = j19 at hN19 ⊢
  have h := lt_elim h j19 e19j
  have hp104 : x0 < gN σ119 12 := (grN e19 hp103 (by decide))
  show Z κ (45, 1517) Q0 367 [(0, vo ad119 12 (some x0))] [vo ad119 1354 (some j19), vo ad119 12 (some x0)] ad119 σ119
  refine z_pR (K2 := 1354) I0 F C lpf_X12_147 (by decide) rfl (Or.inl hp104) hN19 dX12_init_367 ?_
  show Z κ (45, 1517) Q0 370 _ _ _ (sP σ119 6354 x0 0 (some j19))
  refine z_aload_n C 0 dX12_init_370 rfl ?_
  refine z_bipush C dX12_init_371 (by decide) ?_
  refine z_pF I0 C lpf_X12_150 (Or.inl hp104) (by decide) dX12_init_373 ?_
  refine z_aload_n C 0 dX12_init_376 rfl ?_
  refine z_sipush C dX12_init_377 (by decide) ?_
  refine z_pF I0 C lpf_X12_153 (Or.inl hp104) (by decide) dX12_init_380 ?_
  refine z_aload_n C 0 dX12_init_383 rfl ?_
  refine z_bipush C dX12_init_384 (by decide) ?_
  refine z_newarr (atype := .boolean) (t0 := 1) C ar_1357 rfl lac_boolean (fun _ => rfl) (by decide) rfl (by decide) (fun q => noT F q) (csOK_le hcs (by decide) (by decide)) dX12_init_386 (fun ad129 hA29 => ?_)
  rw [voA (K2 := 12) (r := some x0) hA29 (by decide)]
  have hGc : Grw σ0 ad0 (sI (sI (sP σ119 6354 x0 0 (some j19)) 1355 x0 0 100) 1356 x0 0 900) ad119 := hG19
  have hG29 := hGc.nwA hA29
  have hN29 : gN (sI (sI (sP σ119 6354 x0 0 (some j19)) 1355 x0 0 100) 1356 x0 0 900) 1357 < gN (nwA (sI (sI (sP σ119 6354 x0 0 (some j19)) 1355 x0 0 100) 1356 x0 0 900) 1357) 1357 := nwA_lt
  generalize e29 : nwA (sI (sI (sP σ119 6354 x0 0 (some j19)) 1355 x0 0 100) 1356 x0 0 900) 1357 = σ129 at hG29 hN29 ⊢
  have h := lt_elim h σ129 e29
  generalize e29j : gN (sI (sI (sP σ119 6354 x0 0 (some j19)) 1355 x0 0 100) 1356 x0 0 900) 1357 = j29 at hN29 ⊢
  have h := lt_elim h j29 e29j
  have hp105 : x0 < gN σ129 12 := (grN e29 hp104 (by decide))
  show Z κ (46, 1581) Q0 388 [(0, vo ad129 12 (some x0))] [vo ad129 1357 (some j29), vo ad129 12 (some x0)] ad129 σ129
  refine z_pR (K2 := 1357) I0 F C lpf_X12_156 (by decide) rfl (Or.inl hp105) hN29 dX12_init_388 ?_
  show Z κ (46, 1581) Q0 391 _ _ _ (sP σ129 6357 x0 0 (some j29))
  refine z_aload_n C 0 dX12_init_391 rfl ?_
  refine z_bipush C dX12_init_392 (by decide) ?_
  refine z_newarr (atype := .boolean) (t0 := 1) C ar_1358 rfl lac_boolean (fun _ => rfl) (by decide) rfl (by decide) (fun q => noT F q) (csOK_le hcs (by decide) (by decide)) dX12_init_394 (fun ad133 hA33 => ?_)
  rw [voA (K2 := 12) (r := some x0) hA33 (by decide)]
  have hGc : Grw σ0 ad0 (sP σ129 6357 x0 0 (some j29)) ad129 := hG29
  have hG33 := hGc.nwA hA33
  have hN33 : gN (sP σ129 6357 x0 0 (some j29)) 1358 < gN (nwA (sP σ129 6357 x0 0 (some j29)) 1358) 1358 := nwA_lt
  generalize e33 : nwA (sP σ129 6357 x0 0 (some j29)) 1358 = σ133 at hG33 hN33 ⊢
  have h := lt_elim h σ133 e33
  generalize e33j : gN (sP σ129 6357 x0 0 (some j29)) 1358 = j33 at hN33 ⊢
  have h := lt_elim h j33 e33j
  have hp106 : x0 < gN σ133 12 := (grN e33 hp105 (by decide))
  show Z κ (47, 1597) Q0 396 [(0, vo ad133 12 (some x0))] [vo ad133 1358 (some j33), vo ad133 12 (some x0)] ad133 σ133
  refine z_pR (K2 := 1358) I0 F C lpf_X12_159 (by decide) rfl (Or.inl hp106) hN33 dX12_init_396 ?_
  show Z κ (47, 1597) Q0 399 _ _ _ (sP σ133 6358 x0 0 (some j33))
  refine z_aload_n C 0 dX12_init_399 rfl ?_
  refine z_bipush C dX12_init_400 (by decide) ?_
  refine z_newarr (atype := .boolean) (t0 := 1) C ar_1359 rfl lac_boolean (fun _ => rfl) (by decide) rfl (by decide) (fun q => noT F q) (csOK_le hcs (by decide) (by decide)) dX12_init_402 (fun ad137 hA37 => ?_)
  rw [voA (K2 := 12) (r := some x0) hA37 (by decide)]
  have hGc : Grw σ0 ad0 (sP σ133 6358 x0 0 (some j33)) ad133 := hG33
  have hG37 := hGc.nwA hA37
  have hN37 : gN (sP σ133 6358 x0 0 (some j33)) 1359 < gN (nwA (sP σ133 6358 x0 0 (some j33)) 1359) 1359 := nwA_lt
  generalize e37 : nwA (sP σ133 6358 x0 0 (some j33)) 1359 = σ137 at hG37 hN37 ⊢
  have h := lt_elim h σ137 e37
  generalize e37j : gN (sP σ133 6358 x0 0 (some j33)) 1359 = j37 at hN37 ⊢
  have h := lt_elim h j37 e37j
  have hp107 : x0 < gN σ137 12 := (grN e37 hp106 (by decide))
  show Z κ (48, 1605) Q0 404 [(0, vo ad137 12 (some x0))] [vo ad137 1359 (some j37), vo ad137 12 (some x0)] ad137 σ137
  refine z_pR (K2 := 1359) I0 F C lpf_X12_162 (by decide) rfl (Or.inl hp107) hN37 dX12_init_404 ?_
  show Z κ (48, 1605) Q0 407 _ _ _ (sP σ137 6359 x0 0 (some j37))
  have hGc : Grw σ0 ad0 (sP σ137 6359 x0 0 (some j37)) ad137 := hG37
  exact tail ad137 (sP σ137 6359 x0 0 (some j37)) hp107 hGc h
set_option maxRecDepth 20000 in
set_option maxHeartbeats 8000000 in
theorem sgX12_init_6 (x0 : Nat) {κ : Cxt} {Q0 : State → Prop} {Xp : Unit × St → Prop} {ad0 : Nat → Nat → Nat} {σ0 : St} (C : Cx κ RX12 cX12_init 2 none 1) (F : isF κ) (I0 : isInit κ) (hcs : csOK κ (73, 4189)) (tail : ∀ (ad : Nat → Nat → Nat) (σ : St), x0 < gN σ 12 → Grw σ0 ad0 σ ad → wpO (fX12_init_s7 x0 σ) Xp → Z κ (56, 1662) Q0 469 [(0, vo ad 12 (some x0))] [] ad σ) : ∀ (ads : Nat → Nat → Nat) (σs : St), x0 < gN σs 12 → Grw σ0 ad0 σs ads → wpO (fX12_init_s6 x0 σs) Xp → Z κ (48, 1605) Q0 407 [(0, vo ads 12 (some x0))] [] ads σs := by
  intro ads σs hx0 hGs h
  unfold fX12_init_s6 at h
  show Z κ (48, 1605) Q0 407 [(0, vo ads 12 (some x0))] [] ads σs
  refine z_aload_n C 0 dX12_init_407 rfl ?_
  refine z_bipush C dX12_init_408 (by decide) ?_
  refine z_newarr (atype := .int) (t0 := 0) C ar_1360 rfl lac_int (fun _ => rfl) (by decide) rfl (by decide) (fun q => noT F q) (csOK_le hcs (by decide) (by decide)) dX12_init_410 (fun ad103 hA3 => ?_)
  rw [voA (K2 := 12) (r := some x0) hA3 (by decide)]
  have hGc : Grw σ0 ad0 σs ads := hGs
  have hG3 := hGc.nwA hA3
  have hN3 : gN σs 1360 < gN (nwA σs 1360) 1360 := nwA_lt
  generalize e3 : nwA σs 1360 = σ103 at hG3 hN3 ⊢
  have h := lt_elim h σ103 e3
  generalize e3j : gN σs 1360 = j3 at hN3 ⊢
  have h := lt_elim h j3 e3j
  have hp108 : x0 < gN σ103 12 := (grN e3 hx0 (by decide))
  show Z κ (49, 1613) Q0 412 [(0, vo ad103 12 (some x0))] [vo ad103 1360 (some j3), vo ad103 12 (some x0)] ad103 σ103
  refine z_pR (K2 := 1360) I0 F C lpf_X12_165 (by decide) rfl (Or.inl hp108) hN3 dX12_init_412 ?_
  show Z κ (49, 1613) Q0 415 _ _ _ (sP σ103 6360 x0 0 (some j3))
  refine z_aload_n C 0 dX12_init_415 rfl ?_
  refine z_bipush C dX12_init_416 (by decide) ?_
  refine z_newarr (atype := .int) (t0 := 0) C ar_1361 rfl lac_int (fun _ => rfl) (by decide) rfl (by decide) (fun q => noT F q) (csOK_le hcs (by decide) (by decide)) dX12_init_418 (fun ad107 hA7 => ?_)
  rw [voA (K2 := 12) (r := some x0) hA7 (by decide)]
  have hGc : Grw σ0 ad0 (sP σ103 6360 x0 0 (some j3)) ad103 := hG3
  have hG7 := hGc.nwA hA7
  have hN7 : gN (sP σ103 6360 x0 0 (some j3)) 1361 < gN (nwA (sP σ103 6360 x0 0 (some j3)) 1361) 1361 := nwA_lt
  generalize e7 : nwA (sP σ103 6360 x0 0 (some j3)) 1361 = σ107 at hG7 hN7 ⊢
  have h := lt_elim h σ107 e7
  generalize e7j : gN (sP σ103 6360 x0 0 (some j3)) 1361 = j7 at hN7 ⊢
  have h := lt_elim h j7 e7j
  have hp109 : x0 < gN σ107 12 := (grN e7 hp108 (by decide))
  show Z κ (50, 1621) Q0 420 [(0, vo ad107 12 (some x0))] [vo ad107 1361 (some j7), vo ad107 12 (some x0)] ad107 σ107
  refine z_pR (K2 := 1361) I0 F C lpf_X12_168 (by decide) rfl (Or.inl hp109) hN7 dX12_init_420 ?_
  show Z κ (50, 1621) Q0 423 _ _ _ (sP σ107 6361 x0 0 (some j7))
  refine z_aload_n C 0 dX12_init_423 rfl ?_
  refine z_bipush C dX12_init_424 (by decide) ?_
  refine z_newarr (atype := .int) (t0 := 0) C ar_1363 rfl lac_int (fun _ => rfl) (by decide) rfl (by decide) (fun q => noT F q) (csOK_le hcs (by decide) (by decide)) dX12_init_426 (fun ad111 hA11 => ?_)
  rw [voA (K2 := 12) (r := some x0) hA11 (by decide)]
  have hGc : Grw σ0 ad0 (sP σ107 6361 x0 0 (some j7)) ad107 := hG7
  have hG11 := hGc.nwA hA11
  have hN11 : gN (sP σ107 6361 x0 0 (some j7)) 1363 < gN (nwA (sP σ107 6361 x0 0 (some j7)) 1363) 1363 := nwA_lt
  generalize e11 : nwA (sP σ107 6361 x0 0 (some j7)) 1363 = σ111 at hG11 hN11 ⊢
  have h := lt_elim h σ111 e11
  generalize e11j : gN (sP σ107 6361 x0 0 (some j7)) 1363 = j11 at hN11 ⊢
  have h := lt_elim h j11 e11j
  have hp110 : x0 < gN σ111 12 := (grN e11 hp109 (by decide))
  show Z κ (51, 1630) Q0 428 [(0, vo ad111 12 (some x0))] [vo ad111 1363 (some j11), vo ad111 12 (some x0)] ad111 σ111
  refine z_pR (K2 := 1363) I0 F C lpf_X12_171 (by decide) rfl (Or.inl hp110) hN11 dX12_init_428 ?_
  show Z κ (51, 1630) Q0 431 _ _ _ (sP σ111 6363 x0 0 (some j11))
  refine z_aload_n C 0 dX12_init_431 rfl ?_
  refine z_bipush C dX12_init_432 (by decide) ?_
  refine z_newarr (atype := .int) (t0 := 0) C ar_1364 rfl lac_int (fun _ => rfl) (by decide) rfl (by decide) (fun q => noT F q) (csOK_le hcs (by decide) (by decide)) dX12_init_434 (fun ad115 hA15 => ?_)
  rw [voA (K2 := 12) (r := some x0) hA15 (by decide)]
  have hGc : Grw σ0 ad0 (sP σ111 6363 x0 0 (some j11)) ad111 := hG11
  have hG15 := hGc.nwA hA15
  have hN15 : gN (sP σ111 6363 x0 0 (some j11)) 1364 < gN (nwA (sP σ111 6363 x0 0 (some j11)) 1364) 1364 := nwA_lt
  generalize e15 : nwA (sP σ111 6363 x0 0 (some j11)) 1364 = σ115 at hG15 hN15 ⊢
  have h := lt_elim h σ115 e15
  generalize e15j : gN (sP σ111 6363 x0 0 (some j11)) 1364 = j15 at hN15 ⊢
  have h := lt_elim h j15 e15j
  have hp111 : x0 < gN σ115 12 := (grN e15 hp110 (by decide))
  show Z κ (52, 1638) Q0 436 [(0, vo ad115 12 (some x0))] [vo ad115 1364 (some j15), vo ad115 12 (some x0)] ad115 σ115
  refine z_pR (K2 := 1364) I0 F C lpf_X12_174 (by decide) rfl (Or.inl hp111) hN15 dX12_init_436 ?_
  show Z κ (52, 1638) Q0 439 _ _ _ (sP σ115 6364 x0 0 (some j15))
  refine z_aload_n C 0 dX12_init_439 rfl ?_
  refine z_iconst C dX12_init_440 ?_
  refine z_newarr (atype := .int) (t0 := 0) C ar_1367 rfl lac_int (fun _ => rfl) (by decide) rfl (by decide) (fun q => noT F q) (csOK_le hcs (by decide) (by decide)) dX12_init_441 (fun ad119 hA19 => ?_)
  rw [voA (K2 := 12) (r := some x0) hA19 (by decide)]
  have hGc : Grw σ0 ad0 (sP σ115 6364 x0 0 (some j15)) ad115 := hG15
  have hG19 := hGc.nwA hA19
  have hN19 : gN (sP σ115 6364 x0 0 (some j15)) 1367 < gN (nwA (sP σ115 6364 x0 0 (some j15)) 1367) 1367 := nwA_lt
  generalize e19 : nwA (sP σ115 6364 x0 0 (some j15)) 1367 = σ119 at hG19 hN19 ⊢
  have h := lt_elim h σ119 e19
  generalize e19j : gN (sP σ115 6364 x0 0 (some j15)) 1367 = j19 at hN19 ⊢
  have h := lt_elim h j19 e19j
  have hp112 : x0 < gN σ119 12 := (grN e19 hp111 (by decide))
  show Z κ (53, 1642) Q0 443 [(0, vo ad119 12 (some x0))] [vo ad119 1367 (some j19), vo ad119 12 (some x0)] ad119 σ119
  refine z_pR (K2 := 1367) I0 F C lpf_X12_177 (by decide) rfl (Or.inl hp112) hN19 dX12_init_443 ?_
  show Z κ (53, 1642) Q0 446 _ _ _ (sP σ119 6367 x0 0 (some j19))
  refine z_aload_n C 0 dX12_init_446 rfl ?_
  refine z_iconst C dX12_init_447 ?_
  refine z_newarr (atype := .int) (t0 := 0) C ar_1368 rfl lac_int (fun _ => rfl) (by decide) rfl (by decide) (fun q => noT F q) (csOK_le hcs (by decide) (by decide)) dX12_init_448 (fun ad123 hA23 => ?_)
  rw [voA (K2 := 12) (r := some x0) hA23 (by decide)]
  have hGc : Grw σ0 ad0 (sP σ119 6367 x0 0 (some j19)) ad119 := hG19
  have hG23 := hGc.nwA hA23
  have hN23 : gN (sP σ119 6367 x0 0 (some j19)) 1368 < gN (nwA (sP σ119 6367 x0 0 (some j19)) 1368) 1368 := nwA_lt
  generalize e23 : nwA (sP σ119 6367 x0 0 (some j19)) 1368 = σ123 at hG23 hN23 ⊢
  have h := lt_elim h σ123 e23
  generalize e23j : gN (sP σ119 6367 x0 0 (some j19)) 1368 = j23 at hN23 ⊢
  have h := lt_elim h j23 e23j
  have hp113 : x0 < gN σ123 12 := (grN e23 hp112 (by decide))
  show Z κ (54, 1646) Q0 450 [(0, vo ad123 12 (some x0))] [vo ad123 1368 (some j23), vo ad123 12 (some x0)] ad123 σ123
  refine z_pR (K2 := 1368) I0 F C lpf_X12_180 (by decide) rfl (Or.inl hp113) hN23 dX12_init_450 ?_
  show Z κ (54, 1646) Q0 453 _ _ _ (sP σ123 6368 x0 0 (some j23))
  refine z_aload_n C 0 dX12_init_453 rfl ?_
  refine z_bipush C dX12_init_454 (by decide) ?_
  refine z_newarr (atype := .int) (t0 := 0) C ar_1370 rfl lac_int (fun _ => rfl) (by decide) rfl (by decide) (fun q => noT F q) (csOK_le hcs (by decide) (by decide)) dX12_init_456 (fun ad127 hA27 => ?_)
  rw [voA (K2 := 12) (r := some x0) hA27 (by decide)]
  have hGc : Grw σ0 ad0 (sP σ123 6368 x0 0 (some j23)) ad123 := hG23
  have hG27 := hGc.nwA hA27
  have hN27 : gN (sP σ123 6368 x0 0 (some j23)) 1370 < gN (nwA (sP σ123 6368 x0 0 (some j23)) 1370) 1370 := nwA_lt
  generalize e27 : nwA (sP σ123 6368 x0 0 (some j23)) 1370 = σ127 at hG27 hN27 ⊢
  have h := lt_elim h σ127 e27
  generalize e27j : gN (sP σ123 6368 x0 0 (some j23)) 1370 = j27 at hN27 ⊢
  have h := lt_elim h j27 e27j
  have hp114 : x0 < gN σ127 12 := (grN e27 hp113 (by decide))
  show Z κ (55, 1654) Q0 458 [(0, vo ad127 12 (some x0))] [vo ad127 1370 (some j27), vo ad127 12 (some x0)] ad127 σ127
  refine z_pR (K2 := 1370) I0 F C lpf_X12_183 (by decide) rfl (Or.inl hp114) hN27 dX12_init_458 ?_
  show Z κ (55, 1654) Q0 461 _ _ _ (sP σ127 6370 x0 0 (some j27))
  refine z_aload_n C 0 dX12_init_461 rfl ?_
  refine z_bipush C dX12_init_462 (by decide) ?_
  refine z_newarr (atype := .int) (t0 := 0) C ar_1371 rfl lac_int (fun _ => rfl) (by decide) rfl (by decide) (fun q => noT F q) (csOK_le hcs (by decide) (by decide)) dX12_init_464 (fun ad131 hA31 => ?_)
  rw [voA (K2 := 12) (r := some x0) hA31 (by decide)]
  have hGc : Grw σ0 ad0 (sP σ127 6370 x0 0 (some j27)) ad127 := hG27
  have hG31 := hGc.nwA hA31
  have hN31 : gN (sP σ127 6370 x0 0 (some j27)) 1371 < gN (nwA (sP σ127 6370 x0 0 (some j27)) 1371) 1371 := nwA_lt
  generalize e31 : nwA (sP σ127 6370 x0 0 (some j27)) 1371 = σ131 at hG31 hN31 ⊢
  have h := lt_elim h σ131 e31
  generalize e31j : gN (sP σ127 6370 x0 0 (some j27)) 1371 = j31 at hN31 ⊢
  have h := lt_elim h j31 e31j
  have hp115 : x0 < gN σ131 12 := (grN e31 hp114 (by decide))
  show Z κ (56, 1662) Q0 466 [(0, vo ad131 12 (some x0))] [vo ad131 1371 (some j31), vo ad131 12 (some x0)] ad131 σ131
  refine z_pR (K2 := 1371) I0 F C lpf_X12_186 (by decide) rfl (Or.inl hp115) hN31 dX12_init_466 ?_
  show Z κ (56, 1662) Q0 469 _ _ _ (sP σ131 6371 x0 0 (some j31))
  have hGc : Grw σ0 ad0 (sP σ131 6371 x0 0 (some j31)) ad131 := hG31
  exact tail ad131 (sP σ131 6371 x0 0 (some j31)) hp115 hGc h
set_option maxRecDepth 20000 in
set_option maxHeartbeats 8000000 in
theorem sgX12_init_7 (x0 : Nat) {κ : Cxt} {Q0 : State → Prop} {Xp : Unit × St → Prop} {ad0 : Nat → Nat → Nat} {σ0 : St} (C : Cx κ RX12 cX12_init 2 none 1) (F : isF κ) (I0 : isInit κ) (hcs : csOK κ (73, 4189)) (tail : ∀ (ad : Nat → Nat → Nat) (σ : St), x0 < gN σ 12 → Grw σ0 ad0 σ ad → wpO (fX12_init_s8 x0 σ) Xp → Z κ (64, 3326) Q0 536 [(0, vo ad 12 (some x0))] [] ad σ) : ∀ (ads : Nat → Nat → Nat) (σs : St), x0 < gN σs 12 → Grw σ0 ad0 σs ads → wpO (fX12_init_s7 x0 σs) Xp → Z κ (56, 1662) Q0 469 [(0, vo ads 12 (some x0))] [] ads σs := by
  intro ads σs hx0 hGs h
  unfold fX12_init_s7 at h
  show Z κ (56, 1662) Q0 469 [(0, vo ads 12 (some x0))] [] ads σs
  refine z_aload_n C 0 dX12_init_469 rfl ?_
  refine z_bipush C dX12_init_470 (by decide) ?_
  refine z_newarr (atype := .int) (t0 := 0) C ar_1372 rfl lac_int (fun _ => rfl) (by decide) rfl (by decide) (fun q => noT F q) (csOK_le hcs (by decide) (by decide)) dX12_init_472 (fun ad103 hA3 => ?_)
  rw [voA (K2 := 12) (r := some x0) hA3 (by decide)]
  have hGc : Grw σ0 ad0 σs ads := hGs
  have hG3 := hGc.nwA hA3
  have hN3 : gN σs 1372 < gN (nwA σs 1372) 1372 := nwA_lt
  generalize e3 : nwA σs 1372 = σ103 at hG3 hN3 ⊢
  have h := lt_elim h σ103 e3
  generalize e3j : gN σs 1372 = j3 at hN3 ⊢
  have h := lt_elim h j3 e3j
  have hp116 : x0 < gN σ103 12 := (grN e3 hx0 (by decide))
  show Z κ (57, 1670) Q0 474 [(0, vo ad103 12 (some x0))] [vo ad103 1372 (some j3), vo ad103 12 (some x0)] ad103 σ103
  refine z_pR (K2 := 1372) I0 F C lpf_X12_189 (by decide) rfl (Or.inl hp116) hN3 dX12_init_474 ?_
  show Z κ (57, 1670) Q0 477 _ _ _ (sP σ103 6372 x0 0 (some j3))
  refine z_aload_n C 0 dX12_init_477 rfl ?_
  refine z_sipush C dX12_init_478 (by decide) ?_
  refine z_newarr (atype := .boolean) (t0 := 1) C ar_1373 rfl lac_boolean (fun _ => rfl) (by decide) rfl (by decide) (fun q => noT F q) (csOK_le hcs (by decide) (by decide)) dX12_init_481 (fun ad107 hA7 => ?_)
  rw [voA (K2 := 12) (r := some x0) hA7 (by decide)]
  have hGc : Grw σ0 ad0 (sP σ103 6372 x0 0 (some j3)) ad103 := hG3
  have hG7 := hGc.nwA hA7
  have hN7 : gN (sP σ103 6372 x0 0 (some j3)) 1373 < gN (nwA (sP σ103 6372 x0 0 (some j3)) 1373) 1373 := nwA_lt
  generalize e7 : nwA (sP σ103 6372 x0 0 (some j3)) 1373 = σ107 at hG7 hN7 ⊢
  have h := lt_elim h σ107 e7
  generalize e7j : gN (sP σ103 6372 x0 0 (some j3)) 1373 = j7 at hN7 ⊢
  have h := lt_elim h j7 e7j
  have hp117 : x0 < gN σ107 12 := (grN e7 hp116 (by decide))
  show Z κ (58, 2694) Q0 483 [(0, vo ad107 12 (some x0))] [vo ad107 1373 (some j7), vo ad107 12 (some x0)] ad107 σ107
  refine z_pR (K2 := 1373) I0 F C lpf_X12_192 (by decide) rfl (Or.inl hp117) hN7 dX12_init_483 ?_
  show Z κ (58, 2694) Q0 486 _ _ _ (sP σ107 6373 x0 0 (some j7))
  refine z_aload_n C 0 dX12_init_486 rfl ?_
  refine z_sipush C dX12_init_487 (by decide) ?_
  refine z_newarr (atype := .boolean) (t0 := 1) C ar_1374 rfl lac_boolean (fun _ => rfl) (by decide) rfl (by decide) (fun q => noT F q) (csOK_le hcs (by decide) (by decide)) dX12_init_490 (fun ad111 hA11 => ?_)
  rw [voA (K2 := 12) (r := some x0) hA11 (by decide)]
  have hGc : Grw σ0 ad0 (sP σ107 6373 x0 0 (some j7)) ad107 := hG7
  have hG11 := hGc.nwA hA11
  have hN11 : gN (sP σ107 6373 x0 0 (some j7)) 1374 < gN (nwA (sP σ107 6373 x0 0 (some j7)) 1374) 1374 := nwA_lt
  generalize e11 : nwA (sP σ107 6373 x0 0 (some j7)) 1374 = σ111 at hG11 hN11 ⊢
  have h := lt_elim h σ111 e11
  generalize e11j : gN (sP σ107 6373 x0 0 (some j7)) 1374 = j11 at hN11 ⊢
  have h := lt_elim h j11 e11j
  have hp118 : x0 < gN σ111 12 := (grN e11 hp117 (by decide))
  show Z κ (59, 2950) Q0 492 [(0, vo ad111 12 (some x0))] [vo ad111 1374 (some j11), vo ad111 12 (some x0)] ad111 σ111
  refine z_pR (K2 := 1374) I0 F C lpf_X12_195 (by decide) rfl (Or.inl hp118) hN11 dX12_init_492 ?_
  show Z κ (59, 2950) Q0 495 _ _ _ (sP σ111 6374 x0 0 (some j11))
  refine z_aload_n C 0 dX12_init_495 rfl ?_
  refine z_sipush C dX12_init_496 (by decide) ?_
  refine z_newarr (atype := .boolean) (t0 := 1) C ar_1375 rfl lac_boolean (fun _ => rfl) (by decide) rfl (by decide) (fun q => noT F q) (csOK_le hcs (by decide) (by decide)) dX12_init_499 (fun ad115 hA15 => ?_)
  rw [voA (K2 := 12) (r := some x0) hA15 (by decide)]
  have hGc : Grw σ0 ad0 (sP σ111 6374 x0 0 (some j11)) ad111 := hG11
  have hG15 := hGc.nwA hA15
  have hN15 : gN (sP σ111 6374 x0 0 (some j11)) 1375 < gN (nwA (sP σ111 6374 x0 0 (some j11)) 1375) 1375 := nwA_lt
  generalize e15 : nwA (sP σ111 6374 x0 0 (some j11)) 1375 = σ115 at hG15 hN15 ⊢
  have h := lt_elim h σ115 e15
  generalize e15j : gN (sP σ111 6374 x0 0 (some j11)) 1375 = j15 at hN15 ⊢
  have h := lt_elim h j15 e15j
  have hp119 : x0 < gN σ115 12 := (grN e15 hp118 (by decide))
  show Z κ (60, 3206) Q0 501 [(0, vo ad115 12 (some x0))] [vo ad115 1375 (some j15), vo ad115 12 (some x0)] ad115 σ115
  refine z_pR (K2 := 1375) I0 F C lpf_X12_198 (by decide) rfl (Or.inl hp119) hN15 dX12_init_501 ?_
  show Z κ (60, 3206) Q0 504 _ _ _ (sP σ115 6375 x0 0 (some j15))
  refine z_aload_n C 0 dX12_init_504 rfl ?_
  refine z_bipush C dX12_init_505 (by decide) ?_
  refine z_newarr (atype := .int) (t0 := 0) C ar_1376 rfl lac_int (fun _ => rfl) (by decide) rfl (by decide) (fun q => noT F q) (csOK_le hcs (by decide) (by decide)) dX12_init_507 (fun ad119 hA19 => ?_)
  rw [voA (K2 := 12) (r := some x0) hA19 (by decide)]
  have hGc : Grw σ0 ad0 (sP σ115 6375 x0 0 (some j15)) ad115 := hG15
  have hG19 := hGc.nwA hA19
  have hN19 : gN (sP σ115 6375 x0 0 (some j15)) 1376 < gN (nwA (sP σ115 6375 x0 0 (some j15)) 1376) 1376 := nwA_lt
  generalize e19 : nwA (sP σ115 6375 x0 0 (some j15)) 1376 = σ119 at hG19 hN19 ⊢
  have h := lt_elim h σ119 e19
  generalize e19j : gN (sP σ115 6375 x0 0 (some j15)) 1376 = j19 at hN19 ⊢
  have h := lt_elim h j19 e19j
  have hp120 : x0 < gN σ119 12 := (grN e19 hp119 (by decide))
  show Z κ (61, 3214) Q0 509 [(0, vo ad119 12 (some x0))] [vo ad119 1376 (some j19), vo ad119 12 (some x0)] ad119 σ119
  refine z_pR (K2 := 1376) I0 F C lpf_X12_201 (by decide) rfl (Or.inl hp120) hN19 dX12_init_509 ?_
  show Z κ (61, 3214) Q0 512 _ _ _ (sP σ119 6376 x0 0 (some j19))
  refine z_aload_n C 0 dX12_init_512 rfl ?_
  refine z_bipush C dX12_init_513 (by decide) ?_
  refine z_newarr (atype := .boolean) (t0 := 1) C ar_1377 rfl lac_boolean (fun _ => rfl) (by decide) rfl (by decide) (fun q => noT F q) (csOK_le hcs (by decide) (by decide)) dX12_init_515 (fun ad123 hA23 => ?_)
  rw [voA (K2 := 12) (r := some x0) hA23 (by decide)]
  have hGc : Grw σ0 ad0 (sP σ119 6376 x0 0 (some j19)) ad119 := hG19
  have hG23 := hGc.nwA hA23
  have hN23 : gN (sP σ119 6376 x0 0 (some j19)) 1377 < gN (nwA (sP σ119 6376 x0 0 (some j19)) 1377) 1377 := nwA_lt
  generalize e23 : nwA (sP σ119 6376 x0 0 (some j19)) 1377 = σ123 at hG23 hN23 ⊢
  have h := lt_elim h σ123 e23
  generalize e23j : gN (sP σ119 6376 x0 0 (some j19)) 1377 = j23 at hN23 ⊢
  have h := lt_elim h j23 e23j
  have hp121 : x0 < gN σ123 12 := (grN e23 hp120 (by decide))
  show Z κ (62, 3310) Q0 517 [(0, vo ad123 12 (some x0))] [vo ad123 1377 (some j23), vo ad123 12 (some x0)] ad123 σ123
  refine z_pR (K2 := 1377) I0 F C lpf_X12_204 (by decide) rfl (Or.inl hp121) hN23 dX12_init_517 ?_
  show Z κ (62, 3310) Q0 520 _ _ _ (sP σ123 6377 x0 0 (some j23))
  refine z_aload_n C 0 dX12_init_520 rfl ?_
  refine z_bipush C dX12_init_521 (by decide) ?_
  refine z_newarr (atype := .int) (t0 := 0) C ar_1379 rfl lac_int (fun _ => rfl) (by decide) rfl (by decide) (fun q => noT F q) (csOK_le hcs (by decide) (by decide)) dX12_init_523 (fun ad127 hA27 => ?_)
  rw [voA (K2 := 12) (r := some x0) hA27 (by decide)]
  have hGc : Grw σ0 ad0 (sP σ123 6377 x0 0 (some j23)) ad123 := hG23
  have hG27 := hGc.nwA hA27
  have hN27 : gN (sP σ123 6377 x0 0 (some j23)) 1379 < gN (nwA (sP σ123 6377 x0 0 (some j23)) 1379) 1379 := nwA_lt
  generalize e27 : nwA (sP σ123 6377 x0 0 (some j23)) 1379 = σ127 at hG27 hN27 ⊢
  have h := lt_elim h σ127 e27
  generalize e27j : gN (sP σ123 6377 x0 0 (some j23)) 1379 = j27 at hN27 ⊢
  have h := lt_elim h j27 e27j
  have hp122 : x0 < gN σ127 12 := (grN e27 hp121 (by decide))
  show Z κ (63, 3318) Q0 525 [(0, vo ad127 12 (some x0))] [vo ad127 1379 (some j27), vo ad127 12 (some x0)] ad127 σ127
  refine z_pR (K2 := 1379) I0 F C lpf_X12_207 (by decide) rfl (Or.inl hp122) hN27 dX12_init_525 ?_
  show Z κ (63, 3318) Q0 528 _ _ _ (sP σ127 6379 x0 0 (some j27))
  refine z_aload_n C 0 dX12_init_528 rfl ?_
  refine z_bipush C dX12_init_529 (by decide) ?_
  refine z_newarr (atype := .int) (t0 := 0) C ar_1380 rfl lac_int (fun _ => rfl) (by decide) rfl (by decide) (fun q => noT F q) (csOK_le hcs (by decide) (by decide)) dX12_init_531 (fun ad131 hA31 => ?_)
  rw [voA (K2 := 12) (r := some x0) hA31 (by decide)]
  have hGc : Grw σ0 ad0 (sP σ127 6379 x0 0 (some j27)) ad127 := hG27
  have hG31 := hGc.nwA hA31
  have hN31 : gN (sP σ127 6379 x0 0 (some j27)) 1380 < gN (nwA (sP σ127 6379 x0 0 (some j27)) 1380) 1380 := nwA_lt
  generalize e31 : nwA (sP σ127 6379 x0 0 (some j27)) 1380 = σ131 at hG31 hN31 ⊢
  have h := lt_elim h σ131 e31
  generalize e31j : gN (sP σ127 6379 x0 0 (some j27)) 1380 = j31 at hN31 ⊢
  have h := lt_elim h j31 e31j
  have hp123 : x0 < gN σ131 12 := (grN e31 hp122 (by decide))
  show Z κ (64, 3326) Q0 533 [(0, vo ad131 12 (some x0))] [vo ad131 1380 (some j31), vo ad131 12 (some x0)] ad131 σ131
  refine z_pR (K2 := 1380) I0 F C lpf_X12_210 (by decide) rfl (Or.inl hp123) hN31 dX12_init_533 ?_
  show Z κ (64, 3326) Q0 536 _ _ _ (sP σ131 6380 x0 0 (some j31))
  have hGc : Grw σ0 ad0 (sP σ131 6380 x0 0 (some j31)) ad131 := hG31
  exact tail ad131 (sP σ131 6380 x0 0 (some j31)) hp123 hGc h
set_option maxRecDepth 20000 in
set_option maxHeartbeats 8000000 in
theorem sgX12_init_8 (x0 : Nat) {κ : Cxt} {Q0 : State → Prop} {Xp : Unit × St → Prop} {ad0 : Nat → Nat → Nat} {σ0 : St} (C : Cx κ RX12 cX12_init 2 none 1) (F : isF κ) (I0 : isInit κ) (hcs : csOK κ (73, 4189)) (tail : ∀ (ad : Nat → Nat → Nat) (σ : St), x0 < gN σ 12 → Grw σ0 ad0 σ ad → wpO (fX12_init_s9 x0 σ) Xp → Z κ (72, 4181) Q0 609 [(0, vo ad 12 (some x0))] [] ad σ) : ∀ (ads : Nat → Nat → Nat) (σs : St), x0 < gN σs 12 → Grw σ0 ad0 σs ads → wpO (fX12_init_s8 x0 σs) Xp → Z κ (64, 3326) Q0 536 [(0, vo ads 12 (some x0))] [] ads σs := by
  intro ads σs hx0 hGs h
  unfold fX12_init_s8 at h
  show Z κ (64, 3326) Q0 536 [(0, vo ads 12 (some x0))] [] ads σs
  refine z_aload_n C 0 dX12_init_536 rfl ?_
  refine z_bipush C dX12_init_537 (by decide) ?_
  refine z_newarr (atype := .int) (t0 := 0) C ar_1381 rfl lac_int (fun _ => rfl) (by decide) rfl (by decide) (fun q => noT F q) (csOK_le hcs (by decide) (by decide)) dX12_init_539 (fun ad103 hA3 => ?_)
  rw [voA (K2 := 12) (r := some x0) hA3 (by decide)]
  have hGc : Grw σ0 ad0 σs ads := hGs
  have hG3 := hGc.nwA hA3
  have hN3 : gN σs 1381 < gN (nwA σs 1381) 1381 := nwA_lt
  generalize e3 : nwA σs 1381 = σ103 at hG3 hN3 ⊢
  have h := lt_elim h σ103 e3
  generalize e3j : gN σs 1381 = j3 at hN3 ⊢
  have h := lt_elim h j3 e3j
  have hp124 : x0 < gN σ103 12 := (grN e3 hx0 (by decide))
  show Z κ (65, 3334) Q0 541 [(0, vo ad103 12 (some x0))] [vo ad103 1381 (some j3), vo ad103 12 (some x0)] ad103 σ103
  refine z_pR (K2 := 1381) I0 F C lpf_X12_213 (by decide) rfl (Or.inl hp124) hN3 dX12_init_541 ?_
  show Z κ (65, 3334) Q0 544 _ _ _ (sP σ103 6381 x0 0 (some j3))
  refine z_aload_n C 0 dX12_init_544 rfl ?_
  refine z_bipush C dX12_init_545 (by decide) ?_
  refine z_newarr (atype := .int) (t0 := 0) C ar_1382 rfl lac_int (fun _ => rfl) (by decide) rfl (by decide) (fun q => noT F q) (csOK_le hcs (by decide) (by decide)) dX12_init_547 (fun ad107 hA7 => ?_)
  rw [voA (K2 := 12) (r := some x0) hA7 (by decide)]
  have hGc : Grw σ0 ad0 (sP σ103 6381 x0 0 (some j3)) ad103 := hG3
  have hG7 := hGc.nwA hA7
  have hN7 : gN (sP σ103 6381 x0 0 (some j3)) 1382 < gN (nwA (sP σ103 6381 x0 0 (some j3)) 1382) 1382 := nwA_lt
  generalize e7 : nwA (sP σ103 6381 x0 0 (some j3)) 1382 = σ107 at hG7 hN7 ⊢
  have h := lt_elim h σ107 e7
  generalize e7j : gN (sP σ103 6381 x0 0 (some j3)) 1382 = j7 at hN7 ⊢
  have h := lt_elim h j7 e7j
  have hp125 : x0 < gN σ107 12 := (grN e7 hp124 (by decide))
  show Z κ (66, 3343) Q0 549 [(0, vo ad107 12 (some x0))] [vo ad107 1382 (some j7), vo ad107 12 (some x0)] ad107 σ107
  refine z_pR (K2 := 1382) I0 F C lpf_X12_216 (by decide) rfl (Or.inl hp125) hN7 dX12_init_549 ?_
  show Z κ (66, 3343) Q0 552 _ _ _ (sP σ107 6382 x0 0 (some j7))
  refine z_aload_n C 0 dX12_init_552 rfl ?_
  refine z_iconst C dX12_init_553 ?_
  refine z_pF I0 C lpf_X12_219 (Or.inl hp125) (by decide) dX12_init_554 ?_
  refine z_aload_n C 0 dX12_init_557 rfl ?_
  refine z_sipush C dX12_init_558 (by decide) ?_
  refine z_newarr (atype := .int) (t0 := 0) C ar_1385 rfl lac_int (fun _ => rfl) (by decide) rfl (by decide) (fun q => noT F q) (csOK_le hcs (by decide) (by decide)) dX12_init_561 (fun ad114 hA14 => ?_)
  rw [voA (K2 := 12) (r := some x0) hA14 (by decide)]
  have hGc : Grw σ0 ad0 (sI (sP σ107 6382 x0 0 (some j7)) 1383 x0 0 1) ad107 := hG7
  have hG14 := hGc.nwA hA14
  have hN14 : gN (sI (sP σ107 6382 x0 0 (some j7)) 1383 x0 0 1) 1385 < gN (nwA (sI (sP σ107 6382 x0 0 (some j7)) 1383 x0 0 1) 1385) 1385 := nwA_lt
  generalize e14 : nwA (sI (sP σ107 6382 x0 0 (some j7)) 1383 x0 0 1) 1385 = σ114 at hG14 hN14 ⊢
  have h := lt_elim h σ114 e14
  generalize e14j : gN (sI (sP σ107 6382 x0 0 (some j7)) 1383 x0 0 1) 1385 = j14 at hN14 ⊢
  have h := lt_elim h j14 e14j
  have hp126 : x0 < gN σ114 12 := (grN e14 hp125 (by decide))
  show Z κ (67, 3543) Q0 563 [(0, vo ad114 12 (some x0))] [vo ad114 1385 (some j14), vo ad114 12 (some x0)] ad114 σ114
  refine z_pR (K2 := 1385) I0 F C lpf_X12_222 (by decide) rfl (Or.inl hp126) hN14 dX12_init_563 ?_
  show Z κ (67, 3543) Q0 566 _ _ _ (sP σ114 6385 x0 0 (some j14))
  refine z_aload_n C 0 dX12_init_566 rfl ?_
  refine z_sipush C dX12_init_567 (by decide) ?_
  refine z_newarr (atype := .int) (t0 := 0) C ar_1386 rfl lac_int (fun _ => rfl) (by decide) rfl (by decide) (fun q => noT F q) (csOK_le hcs (by decide) (by decide)) dX12_init_570 (fun ad118 hA18 => ?_)
  rw [voA (K2 := 12) (r := some x0) hA18 (by decide)]
  have hGc : Grw σ0 ad0 (sP σ114 6385 x0 0 (some j14)) ad114 := hG14
  have hG18 := hGc.nwA hA18
  have hN18 : gN (sP σ114 6385 x0 0 (some j14)) 1386 < gN (nwA (sP σ114 6385 x0 0 (some j14)) 1386) 1386 := nwA_lt
  generalize e18 : nwA (sP σ114 6385 x0 0 (some j14)) 1386 = σ118 at hG18 hN18 ⊢
  have h := lt_elim h σ118 e18
  generalize e18j : gN (sP σ114 6385 x0 0 (some j14)) 1386 = j18 at hN18 ⊢
  have h := lt_elim h j18 e18j
  have hp127 : x0 < gN σ118 12 := (grN e18 hp126 (by decide))
  show Z κ (68, 3743) Q0 572 [(0, vo ad118 12 (some x0))] [vo ad118 1386 (some j18), vo ad118 12 (some x0)] ad118 σ118
  refine z_pR (K2 := 1386) I0 F C lpf_X12_225 (by decide) rfl (Or.inl hp127) hN18 dX12_init_572 ?_
  show Z κ (68, 3743) Q0 575 _ _ _ (sP σ118 6386 x0 0 (some j18))
  refine z_aload_n C 0 dX12_init_575 rfl ?_
  refine z_sipush C dX12_init_576 (by decide) ?_
  refine z_newarr (atype := .int) (t0 := 0) C ar_1387 rfl lac_int (fun _ => rfl) (by decide) rfl (by decide) (fun q => noT F q) (csOK_le hcs (by decide) (by decide)) dX12_init_579 (fun ad122 hA22 => ?_)
  rw [voA (K2 := 12) (r := some x0) hA22 (by decide)]
  have hGc : Grw σ0 ad0 (sP σ118 6386 x0 0 (some j18)) ad118 := hG18
  have hG22 := hGc.nwA hA22
  have hN22 : gN (sP σ118 6386 x0 0 (some j18)) 1387 < gN (nwA (sP σ118 6386 x0 0 (some j18)) 1387) 1387 := nwA_lt
  generalize e22 : nwA (sP σ118 6386 x0 0 (some j18)) 1387 = σ122 at hG22 hN22 ⊢
  have h := lt_elim h σ122 e22
  generalize e22j : gN (sP σ118 6386 x0 0 (some j18)) 1387 = j22 at hN22 ⊢
  have h := lt_elim h j22 e22j
  have hp128 : x0 < gN σ122 12 := (grN e22 hp127 (by decide))
  show Z κ (69, 3943) Q0 581 [(0, vo ad122 12 (some x0))] [vo ad122 1387 (some j22), vo ad122 12 (some x0)] ad122 σ122
  refine z_pR (K2 := 1387) I0 F C lpf_X12_228 (by decide) rfl (Or.inl hp128) hN22 dX12_init_581 ?_
  show Z κ (69, 3943) Q0 584 _ _ _ (sP σ122 6387 x0 0 (some j22))
  refine z_aload_n C 0 dX12_init_584 rfl ?_
  refine z_sipush C dX12_init_585 (by decide) ?_
  refine z_newarr (atype := .int) (t0 := 0) C ar_1388 rfl lac_int (fun _ => rfl) (by decide) rfl (by decide) (fun q => noT F q) (csOK_le hcs (by decide) (by decide)) dX12_init_588 (fun ad126 hA26 => ?_)
  rw [voA (K2 := 12) (r := some x0) hA26 (by decide)]
  have hGc : Grw σ0 ad0 (sP σ122 6387 x0 0 (some j22)) ad122 := hG22
  have hG26 := hGc.nwA hA26
  have hN26 : gN (sP σ122 6387 x0 0 (some j22)) 1388 < gN (nwA (sP σ122 6387 x0 0 (some j22)) 1388) 1388 := nwA_lt
  generalize e26 : nwA (sP σ122 6387 x0 0 (some j22)) 1388 = σ126 at hG26 hN26 ⊢
  have h := lt_elim h σ126 e26
  generalize e26j : gN (sP σ122 6387 x0 0 (some j22)) 1388 = j26 at hN26 ⊢
  have h := lt_elim h j26 e26j
  have hp129 : x0 < gN σ126 12 := (grN e26 hp128 (by decide))
  show Z κ (70, 4143) Q0 590 [(0, vo ad126 12 (some x0))] [vo ad126 1388 (some j26), vo ad126 12 (some x0)] ad126 σ126
  refine z_pR (K2 := 1388) I0 F C lpf_X12_231 (by decide) rfl (Or.inl hp129) hN26 dX12_init_590 ?_
  show Z κ (70, 4143) Q0 593 _ _ _ (sP σ126 6388 x0 0 (some j26))
  refine z_aload_n C 0 dX12_init_593 rfl ?_
  refine z_bipush C dX12_init_594 (by decide) ?_
  refine z_newarr (atype := .int) (t0 := 0) C ar_1389 rfl lac_int (fun _ => rfl) (by decide) rfl (by decide) (fun q => noT F q) (csOK_le hcs (by decide) (by decide)) dX12_init_596 (fun ad130 hA30 => ?_)
  rw [voA (K2 := 12) (r := some x0) hA30 (by decide)]
  have hGc : Grw σ0 ad0 (sP σ126 6388 x0 0 (some j26)) ad126 := hG26
  have hG30 := hGc.nwA hA30
  have hN30 : gN (sP σ126 6388 x0 0 (some j26)) 1389 < gN (nwA (sP σ126 6388 x0 0 (some j26)) 1389) 1389 := nwA_lt
  generalize e30 : nwA (sP σ126 6388 x0 0 (some j26)) 1389 = σ130 at hG30 hN30 ⊢
  have h := lt_elim h σ130 e30
  generalize e30j : gN (sP σ126 6388 x0 0 (some j26)) 1389 = j30 at hN30 ⊢
  have h := lt_elim h j30 e30j
  have hp130 : x0 < gN σ130 12 := (grN e30 hp129 (by decide))
  show Z κ (71, 4162) Q0 598 [(0, vo ad130 12 (some x0))] [vo ad130 1389 (some j30), vo ad130 12 (some x0)] ad130 σ130
  refine z_pR (K2 := 1389) I0 F C lpf_X12_234 (by decide) rfl (Or.inl hp130) hN30 dX12_init_598 ?_
  show Z κ (71, 4162) Q0 601 _ _ _ (sP σ130 6389 x0 0 (some j30))
  refine z_aload_n C 0 dX12_init_601 rfl ?_
  refine z_bipush C dX12_init_602 (by decide) ?_
  refine z_newarr (atype := .int) (t0 := 0) C ar_1390 rfl lac_int (fun _ => rfl) (by decide) rfl (by decide) (fun q => noT F q) (csOK_le hcs (by decide) (by decide)) dX12_init_604 (fun ad134 hA34 => ?_)
  rw [voA (K2 := 12) (r := some x0) hA34 (by decide)]
  have hGc : Grw σ0 ad0 (sP σ130 6389 x0 0 (some j30)) ad130 := hG30
  have hG34 := hGc.nwA hA34
  have hN34 : gN (sP σ130 6389 x0 0 (some j30)) 1390 < gN (nwA (sP σ130 6389 x0 0 (some j30)) 1390) 1390 := nwA_lt
  generalize e34 : nwA (sP σ130 6389 x0 0 (some j30)) 1390 = σ134 at hG34 hN34 ⊢
  have h := lt_elim h σ134 e34
  generalize e34j : gN (sP σ130 6389 x0 0 (some j30)) 1390 = j34 at hN34 ⊢
  have h := lt_elim h j34 e34j
  have hp131 : x0 < gN σ134 12 := (grN e34 hp130 (by decide))
  show Z κ (72, 4181) Q0 606 [(0, vo ad134 12 (some x0))] [vo ad134 1390 (some j34), vo ad134 12 (some x0)] ad134 σ134
  refine z_pR (K2 := 1390) I0 F C lpf_X12_237 (by decide) rfl (Or.inl hp131) hN34 dX12_init_606 ?_
  show Z κ (72, 4181) Q0 609 _ _ _ (sP σ134 6390 x0 0 (some j34))
  have hGc : Grw σ0 ad0 (sP σ134 6390 x0 0 (some j34)) ad134 := hG34
  exact tail ad134 (sP σ134 6390 x0 0 (some j34)) hp131 hGc h
set_option maxRecDepth 20000 in
set_option maxHeartbeats 8000000 in
theorem sgX12_init_9 (x0 : Nat) {κ : Cxt} {Q0 : State → Prop} {Xp : Unit × St → Prop} {ad0 : Nat → Nat → Nat} {σ0 : St} (C : Cx κ RX12 cX12_init 2 none 1) (F : isF κ) (I0 : isInit κ) (hcs : csOK κ (73, 4189)) (tail : ∀ (ad : Nat → Nat → Nat) (σ : St), x0 < gN σ 12 → Grw σ0 ad0 σ ad → wpO (fX12_init_t x0 σ) Xp → Z κ (73, 4189) Q0 617 [(0, vo ad 12 (some x0))] [] ad σ) : ∀ (ads : Nat → Nat → Nat) (σs : St), x0 < gN σs 12 → Grw σ0 ad0 σs ads → wpO (fX12_init_s9 x0 σs) Xp → Z κ (72, 4181) Q0 609 [(0, vo ads 12 (some x0))] [] ads σs := by
  intro ads σs hx0 hGs h
  unfold fX12_init_s9 at h
  show Z κ (72, 4181) Q0 609 [(0, vo ads 12 (some x0))] [] ads σs
  refine z_aload_n C 0 dX12_init_609 rfl ?_
  refine z_bipush C dX12_init_610 (by decide) ?_
  refine z_newarr (atype := .int) (t0 := 0) C ar_1391 rfl lac_int (fun _ => rfl) (by decide) rfl (by decide) (fun q => noT F q) (csOK_le hcs (by decide) (by decide)) dX12_init_612 (fun ad103 hA3 => ?_)
  rw [voA (K2 := 12) (r := some x0) hA3 (by decide)]
  have hGc : Grw σ0 ad0 σs ads := hGs
  have hG3 := hGc.nwA hA3
  have hN3 : gN σs 1391 < gN (nwA σs 1391) 1391 := nwA_lt
  generalize e3 : nwA σs 1391 = σ103 at hG3 hN3 ⊢
  have h := lt_elim h σ103 e3
  generalize e3j : gN σs 1391 = j3 at hN3 ⊢
  have h := lt_elim h j3 e3j
  have hp132 : x0 < gN σ103 12 := (grN e3 hx0 (by decide))
  show Z κ (73, 4189) Q0 614 [(0, vo ad103 12 (some x0))] [vo ad103 1391 (some j3), vo ad103 12 (some x0)] ad103 σ103
  refine z_pR (K2 := 1391) I0 F C lpf_X12_240 (by decide) rfl (Or.inl hp132) hN3 dX12_init_614 ?_
  show Z κ (73, 4189) Q0 617 _ _ _ (sP σ103 6391 x0 0 (some j3))
  have hGc : Grw σ0 ad0 (sP σ103 6391 x0 0 (some j3)) ad103 := hG3
  exact tail ad103 (sP σ103 6391 x0 0 (some j3)) hp132 hGc h
set_option maxRecDepth 20000 in
set_option maxHeartbeats 8000000 in
theorem ct_X12_init (x0 : Nat) : CtA false yX12_init cX12_init 2 none 1 73 4189 (fun ad => [vo ad 12 (some x0)]) (fX12_init x0) enV okV (fun σ => x0 < gN σ 12) := by
  refine CtA.of (by decide) (fun ad => Nat.le_of_ble_eq_true rfl) ?_
  intro κ ad0 σ0 X C _ F I0 hcs hx0 h
  have F : isF κ := F rfl
  have I0 : isInit κ := I0 rfl
  have C : Cx κ RX12 cX12_init 2 none 1 := C
  generalize hQ : QmA κ false 73 4189 ad0 σ0 enV okV X = Q0
  have tail : ∀ (ad : Nat → Nat → Nat) (σ : St), x0 < gN σ 12 → Grw σ0 ad0 σ ad → wpO (fX12_init_t x0 σ) (fun q => X q.1 q.2) → Z κ (73, 4189) Q0 617 [(0, vo ad 12 (some x0))] [] ad σ := by
    intro ad σ hx0 hG h
    unfold fX12_init_t at h
    have J692 : ∀ (x0 : Nat) (σ1 : St), x0 < gN σ 12 → σ1.2.2.2 = σ.2.2.2 → wpO (fX12_init_j692 x0 σ1) (fun q => X q.1 q.2) → Z κ (73, 4189) Q0 692 [(0, vo ad 12 (some x0))] [] ad σ1 := by
      intro x0 σ1 hx0 eN1 h
      unfold fX12_init_j692 at h
      refine z_rng (fun hI1 hJ2 => ?_)
      refine z_aload_n C 0 dX12_init_692 rfl ?_
      refine z_gPd C li_X12_108 (Or.inl (nNl eN1 hx0)) dX12_init_693 (fun r3 hr4 => ?_)
      have h := lt_elim h r3 hr4
      obtain ⟨j5, hr6, h⟩ := mop_none h
      subst hr6
      obtain ⟨hj7, h⟩ := wpO_ck.mp h
      refine z_iconst C dX12_init_696 ?_
      refine z_iconst C dX12_init_697 ?_
      refine z_iastore C ar_1336 (Or.inl (nNl eN1 (toN eN1 hj7))) (by decide) (by decide) (by decide) dX12_init_698 ?_
      refine z_aload_n C 0 dX12_init_699 rfl ?_
      refine z_gPd C li_X12_108 (Or.inl (nNl eN1 hx0)) dX12_init_700 (fun r8 hr9 => ?_)
      have h := lt_elim h r8 (Eq.trans (Eq.symm (pnI rfl)) hr9)
      obtain ⟨j10, hr11, h⟩ := mop_none h
      subst hr11
      obtain ⟨hj12, h⟩ := wpO_ck.mp h
      refine z_iconst C dX12_init_703 ?_
      refine z_iconst C dX12_init_704 ?_
      refine z_iastore C ar_1336 (Or.inl (nNl eN1 (toN eN1 hj12))) (by decide) (by decide) (by decide) dX12_init_705 ?_
      refine z_aload_n C 0 dX12_init_706 rfl ?_
      refine z_gPd C li_X12_108 (Or.inl (nNl eN1 hx0)) dX12_init_707 (fun r13 hr14 => ?_)
      have h := lt_elim h r13 (Eq.trans (Eq.symm (pnI (pnI rfl))) hr14)
      obtain ⟨j15, hr16, h⟩ := mop_none h
      subst hr16
      obtain ⟨hj17, h⟩ := wpO_ck.mp h
      refine z_iconst C dX12_init_710 ?_
      refine z_iconst C dX12_init_711 ?_
      refine z_iastore C ar_1336 (Or.inl (nNl eN1 (toN eN1 hj17))) (by decide) (by decide) (by decide) dX12_init_712 ?_
      have h := wpO_some.mp h
      rw [← hQ]
      exact z_returnA C dX12_init_713 (hG.eN eN1) h (fun q => by cases q)
    have J672 : ∀ (x0 : Nat) (x1 : Int) (σ1 : St), x0 < gN σ 12 → inr x1 → σ1.2.2.2 = σ.2.2.2 → wpO (fX12_init_j672 x0 x1 σ1) (fun q => X q.1 q.2) → Z κ (73, 4189) Q0 672 [(0, vo ad 12 (some x0)), (1, vi x1)] [] ad σ1 := by
      intro x0 x1 σ1 hx0 hx1 eN1 h
      unfold fX12_init_j672 at h
      have step : ∀ (P672 : (Int × St) → Prop) (Q672 : St → Prop), (∀ (x1 : Int) (σ1 : St), P672 ((x1, σ1)) → inr x1 → σ1.2.2.2 = σ.2.2.2 → Z κ (73, 4189) Q0 672 [(0, vo ad 12 (some x0)), (1, vi x1)] [] ad σ1) → (∀ (σ1 : St), Q672 (σ1) → σ1.2.2.2 = σ.2.2.2 → Z κ (73, 4189) Q0 692 [(0, vo ad 12 (some x0))] [] ad σ1) → ∀ (x1 : Int) (σ1 : St), inr x1 → σ1.2.2.2 = σ.2.2.2 → wpO (fX12_init_l672 x0 x1 σ1) (onS P672 Q672) → Z κ (73, 4189) Q0 672 [(0, vo ad 12 (some x0)), (1, vi x1)] [] ad σ1 := by
        intro P672 Q672 hP672 hE672_692 x1 σ1 hx1 eN1 h
        unfold fX12_init_l672 at h
        refine z_rng (fun hI18 hJ19 => ?_)
        refine z_iload_n C 1 dX12_init_672 rfl ?_
        refine z_bipush C dX12_init_673 (by decide) ?_
        refine z_icmp_ge C 692 hx1 (by decide) dX12_init_675 (by decide) (fun q20 => ?_) (fun q20 => ?_)
        · have h := (wpO_ite.mp h).1 q20
          refine z_sub [0] rfl ?_
          have h := wpO_some.mp h
          exact hE672_692 σ1 h eN1
        · have h := (wpO_ite.mp h).2 q20
          refine z_aload_n C 0 dX12_init_678 rfl ?_
          refine z_gPd C li_X12_216 (Or.inl (nNl eN1 hx0)) dX12_init_679 (fun r21 hr22 => ?_)
          have h := lt_elim h r21 hr22
          obtain ⟨j23, hr24, h⟩ := mop_none h
          subst hr24
          obtain ⟨hj25, h⟩ := wpO_ck.mp h
          refine z_iload_n C 1 dX12_init_682 rfl ?_
          refine z_bipush C dX12_init_683 (by decide) ?_
          obtain ⟨hb26, h⟩ := wpO_ck.mp h
          refine z_iastore C ar_1382 (Or.inl (nNl eN1 (toN eN1 hj25))) hx1 hb26 (by decide) dX12_init_685 ?_
          obtain ⟨hk27, h⟩ := wpO_ck.mp h
          refine z_iinc (lv2 := [(1, vi (x1 + 1)), (0, vo ad 12 (some x0))]) C 1 dX12_init_686 rfl (by decide) rfl ?_
          refine z_goto C 672 dX12_init_689 (by decide) ?_
          refine z_sub [1, 0] rfl ?_
          have h := wpO_some.mp h
          exact hP672 (x1 + 1) (sI σ1 1382 j23 x1.toNat 100) h hk27 eN1
      exact wh_ind (P := fun s : (Int × St) => inr s.1 → s.2.2.2.2 = σ.2.2.2 → Z κ (73, 4189) Q0 672 [(0, vo ad 12 (some x0)), (1, vi s.1)] [] ad s.2) (fun s hs g0 g1 => step _ _ (fun _ _ hp => hp) (fun σ1 hq eN1 => J692 x0 σ1 hx0 eN1 hq) s.1 s.2 g0 g1 hs) ((x1, σ1)) (wpO_bnk.mp h) hx1 eN1
    have J670 : ∀ (x0 : Nat) (σ1 : St), x0 < gN σ 12 → σ1.2.2.2 = σ.2.2.2 → wpO (fX12_init_j670 x0 σ1) (fun q => X q.1 q.2) → Z κ (73, 4189) Q0 670 [(0, vo ad 12 (some x0))] [] ad σ1 := by
      intro x0 σ1 hx0 eN1 h
      unfold fX12_init_j670 at h
      refine z_rng (fun hI28 hJ29 => ?_)
      refine z_iconst C dX12_init_670 ?_
      refine z_istore_n (lv2 := [(1, vi 0), (0, vo ad 12 (some x0))]) C dX12_init_671 (by decide) rfl ?_
      refine z_sub [1, 0] rfl ?_
      exact J672 x0 0 σ1 hx0 (by decide) eN1 h
    have J651 : ∀ (x0 : Nat) (x1 : Int) (σ1 : St), x0 < gN σ 12 → inr x1 → σ1.2.2.2 = σ.2.2.2 → wpO (fX12_init_j651 x0 x1 σ1) (fun q => X q.1 q.2) → Z κ (73, 4189) Q0 651 [(0, vo ad 12 (some x0)), (1, vi x1)] [] ad σ1 := by
      intro x0 x1 σ1 hx0 hx1 eN1 h
      unfold fX12_init_j651 at h
      have step : ∀ (P651 : (Int × St) → Prop) (Q651 : St → Prop), (∀ (x1 : Int) (σ1 : St), P651 ((x1, σ1)) → inr x1 → σ1.2.2.2 = σ.2.2.2 → Z κ (73, 4189) Q0 651 [(0, vo ad 12 (some x0)), (1, vi x1)] [] ad σ1) → (∀ (σ1 : St), Q651 (σ1) → σ1.2.2.2 = σ.2.2.2 → Z κ (73, 4189) Q0 670 [(0, vo ad 12 (some x0))] [] ad σ1) → ∀ (x1 : Int) (σ1 : St), inr x1 → σ1.2.2.2 = σ.2.2.2 → wpO (fX12_init_l651 x0 x1 σ1) (onS P651 Q651) → Z κ (73, 4189) Q0 651 [(0, vo ad 12 (some x0)), (1, vi x1)] [] ad σ1 := by
        intro P651 Q651 hP651 hE651_670 x1 σ1 hx1 eN1 h
        unfold fX12_init_l651 at h
        refine z_rng (fun hI30 hJ31 => ?_)
        refine z_iload_n C 1 dX12_init_651 rfl ?_
        refine z_iconst C dX12_init_652 ?_
        refine z_icmp_ge C 670 hx1 (by decide) dX12_init_653 (by decide) (fun q32 => ?_) (fun q32 => ?_)
        · have h := (wpO_ite.mp h).1 q32
          refine z_sub [0] rfl ?_
          have h := wpO_some.mp h
          exact hE651_670 σ1 h eN1
        · have h := (wpO_ite.mp h).2 q32
          refine z_aload_n C 0 dX12_init_656 rfl ?_
          refine z_gPd C li_X12_177 (Or.inl (nNl eN1 hx0)) dX12_init_657 (fun r33 hr34 => ?_)
          have h := lt_elim h r33 hr34
          obtain ⟨j35, hr36, h⟩ := mop_none h
          subst hr36
          obtain ⟨hj37, h⟩ := wpO_ck.mp h
          refine z_iload_n C 1 dX12_init_660 rfl ?_
          refine z_bipush C dX12_init_661 (by decide) ?_
          obtain ⟨hb38, h⟩ := wpO_ck.mp h
          refine z_iastore C ar_1367 (Or.inl (nNl eN1 (toN eN1 hj37))) hx1 hb38 (by decide) dX12_init_663 ?_
          obtain ⟨hk39, h⟩ := wpO_ck.mp h
          refine z_iinc (lv2 := [(1, vi (x1 + 1)), (0, vo ad 12 (some x0))]) C 1 dX12_init_664 rfl (by decide) rfl ?_
          refine z_goto C 651 dX12_init_667 (by decide) ?_
          refine z_sub [1, 0] rfl ?_
          have h := wpO_some.mp h
          exact hP651 (x1 + 1) (sI σ1 1367 j35 x1.toNat ((-9))) h hk39 eN1
      exact wh_ind (P := fun s : (Int × St) => inr s.1 → s.2.2.2.2 = σ.2.2.2 → Z κ (73, 4189) Q0 651 [(0, vo ad 12 (some x0)), (1, vi s.1)] [] ad s.2) (fun s hs g0 g1 => step _ _ (fun _ _ hp => hp) (fun σ1 hq eN1 => J670 x0 σ1 hx0 eN1 hq) s.1 s.2 g0 g1 hs) ((x1, σ1)) (wpO_bnk.mp h) hx1 eN1
    have J649 : ∀ (x0 : Nat) (σ1 : St), x0 < gN σ 12 → σ1.2.2.2 = σ.2.2.2 → wpO (fX12_init_j649 x0 σ1) (fun q => X q.1 q.2) → Z κ (73, 4189) Q0 649 [(0, vo ad 12 (some x0))] [] ad σ1 := by
      intro x0 σ1 hx0 eN1 h
      unfold fX12_init_j649 at h
      refine z_rng (fun hI40 hJ41 => ?_)
      refine z_iconst C dX12_init_649 ?_
      refine z_istore_n (lv2 := [(1, vi 0), (0, vo ad 12 (some x0))]) C dX12_init_650 (by decide) rfl ?_
      refine z_sub [1, 0] rfl ?_
      exact J651 x0 0 σ1 hx0 (by decide) eN1 h
    have J619 : ∀ (x0 : Nat) (x1 : Int) (σ1 : St), x0 < gN σ 12 → inr x1 → σ1.2.2.2 = σ.2.2.2 → wpO (fX12_init_j619 x0 x1 σ1) (fun q => X q.1 q.2) → Z κ (73, 4189) Q0 619 [(0, vo ad 12 (some x0)), (1, vi x1)] [] ad σ1 := by
      intro x0 x1 σ1 hx0 hx1 eN1 h
      unfold fX12_init_j619 at h
      have step : ∀ (P619 : (Int × St) → Prop) (Q619 : St → Prop), (∀ (x1 : Int) (σ1 : St), P619 ((x1, σ1)) → inr x1 → σ1.2.2.2 = σ.2.2.2 → Z κ (73, 4189) Q0 619 [(0, vo ad 12 (some x0)), (1, vi x1)] [] ad σ1) → (∀ (σ1 : St), Q619 (σ1) → σ1.2.2.2 = σ.2.2.2 → Z κ (73, 4189) Q0 649 [(0, vo ad 12 (some x0))] [] ad σ1) → ∀ (x1 : Int) (σ1 : St), inr x1 → σ1.2.2.2 = σ.2.2.2 → wpO (fX12_init_l619 x0 x1 σ1) (onS P619 Q619) → Z κ (73, 4189) Q0 619 [(0, vo ad 12 (some x0)), (1, vi x1)] [] ad σ1 := by
        intro P619 Q619 hP619 hE619_649 x1 σ1 hx1 eN1 h
        unfold fX12_init_l619 at h
        refine z_rng (fun hI42 hJ43 => ?_)
        refine z_iload_n C 1 dX12_init_619 rfl ?_
        refine z_bipush C dX12_init_620 (by decide) ?_
        refine z_icmp_ge C 649 hx1 (by decide) dX12_init_622 (by decide) (fun q44 => ?_) (fun q44 => ?_)
        · have h := (wpO_ite.mp h).1 q44
          refine z_sub [0] rfl ?_
          have h := wpO_some.mp h
          exact hE619_649 σ1 h eN1
        · have h := (wpO_ite.mp h).2 q44
          refine z_aload_n C 0 dX12_init_625 rfl ?_
          refine z_gPd C li_X12_71 (Or.inl (nNl eN1 hx0)) dX12_init_626 (fun r45 hr46 => ?_)
          have h := lt_elim h r45 hr46
          obtain ⟨j47, hr48, h⟩ := mop_none h
          subst hr48
          obtain ⟨hj49, h⟩ := wpO_ck.mp h
          refine z_iload_n C 1 dX12_init_629 rfl ?_
          refine z_sipush C dX12_init_630 (by decide) ?_
          obtain ⟨hb50, h⟩ := wpO_ck.mp h
          refine z_iastore C ar_1323 (Or.inl (nNl eN1 (toN eN1 hj49))) hx1 hb50 (by decide) dX12_init_633 ?_
          refine z_aload_n C 0 dX12_init_634 rfl ?_
          refine z_gPd C li_X12_77 (Or.inl (nNl eN1 hx0)) dX12_init_635 (fun r51 hr52 => ?_)
          have h := lt_elim h r51 (Eq.trans (Eq.symm (pnI rfl)) hr52)
          obtain ⟨j53, hr54, h⟩ := mop_none h
          subst hr54
          obtain ⟨hj55, h⟩ := wpO_ck.mp h
          refine z_iload_n C 1 dX12_init_638 rfl ?_
          refine z_sipush C dX12_init_639 (by decide) ?_
          obtain ⟨hb56, h⟩ := wpO_ck.mp h
          refine z_iastore C ar_1325 (Or.inl (nNl eN1 (toN eN1 hj55))) hx1 hb56 (by decide) dX12_init_642 ?_
          obtain ⟨hk57, h⟩ := wpO_ck.mp h
          refine z_iinc (lv2 := [(1, vi (x1 + 1)), (0, vo ad 12 (some x0))]) C 1 dX12_init_643 rfl (by decide) rfl ?_
          refine z_goto C 619 dX12_init_646 (by decide) ?_
          refine z_sub [1, 0] rfl ?_
          have h := wpO_some.mp h
          exact hP619 (x1 + 1) (sI (sI σ1 1323 j47 x1.toNat 255) 1325 j53 x1.toNat 364) h hk57 eN1
      exact wh_ind (P := fun s : (Int × St) => inr s.1 → s.2.2.2.2 = σ.2.2.2 → Z κ (73, 4189) Q0 619 [(0, vo ad 12 (some x0)), (1, vi s.1)] [] ad s.2) (fun s hs g0 g1 => step _ _ (fun _ _ hp => hp) (fun σ1 hq eN1 => J649 x0 σ1 hx0 eN1 hq) s.1 s.2 g0 g1 hs) ((x1, σ1)) (wpO_bnk.mp h) hx1 eN1
    refine z_rng (fun hI58 hJ59 => ?_)
    refine z_iconst C dX12_init_617 ?_
    refine z_istore_n (lv2 := [(1, vi 0), (0, vo ad 12 (some x0))]) C dX12_init_618 (by decide) rfl ?_
    refine z_sub [1, 0] rfl ?_
    exact J619 x0 0 σ hx0 (by decide) rfl h
  unfold fX12_init at h
  show Z κ (0, 0) Q0 0 [(0, vo ad0 12 (some x0))] [] ad0 σ0
  exact (sgX12_init_0 x0 C F I0 hcs (sgX12_init_1 x0 C F I0 hcs (sgX12_init_2 x0 C F I0 hcs (sgX12_init_3 x0 C F I0 hcs (sgX12_init_4 x0 C F I0 hcs (sgX12_init_5 x0 C F I0 hcs (sgX12_init_6 x0 C F I0 hcs (sgX12_init_7 x0 C F I0 hcs (sgX12_init_8 x0 C F I0 hcs (sgX12_init_9 x0 C F I0 hcs tail)))))))))) ad0 σ0 hx0 Grw.rf h
