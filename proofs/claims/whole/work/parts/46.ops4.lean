theorem RS.upd {σ σ2 : St} (h : RS σ) (hx : Ex [808, 809, 810, 811, 812, 1318, 1319, 1320, 1321, 1322] σ σ2) (hn : ∀ i, i < gN σ 7 → RX (gI σ 1200 0 0) (gI σ2 808 i 0) (gI σ2 1318 0 i) (gI σ 807 i 0) ∧ RX (gI σ 1200 0 0) (gI σ2 809 i 0) (gI σ2 1319 0 i) (gI σ 807 i 0) ∧ RX (gI σ 1200 0 0) (gI σ2 810 i 0) (gI σ2 1320 0 i) (gI σ 807 i 0) ∧ gI σ2 1321 0 i = gI σ2 811 i 0 ∧ gI σ2 1322 0 i = gI σ2 812 i 0 ∧ (-9 ≤ gI σ2 811 i 0 ∧ gI σ2 811 i 0 ≤ 1000000)) : RS σ2 := by
  obtain ⟨s1, s2, s3, s4⟩ := h
  unfold RS RS1
  simp only [hx.i (c := 800) (by decide), hx.i (c := 801) (by decide), hx.i (c := 802) (by decide), hx.i (c := 803) (by decide), hx.i (c := 804) (by decide), hx.i (c := 805) (by decide), hx.i (c := 806) (by decide), hx.i (c := 807) (by decide), hx.i (c := 1200) (by decide), hx.i (c := 1204) (by decide), hx.i (c := 1310) (by decide), hx.i (c := 1311) (by decide), hx.i (c := 1312) (by decide), hx.i (c := 1313) (by decide), hx.i (c := 1314) (by decide), hx.i (c := 1315) (by decide), hx.i (c := 1316) (by decide), hx.i (c := 1317) (by decide), hx.p (c := 1203) (by decide), hx.n 7]
  refine ⟨s1, s2, s3, fun i hi => ?_⟩
  obtain ⟨q1, q2, q3, q4, q5, q6, q7, q8, q9, r1, r2, r3, r4, r5, r6, r7, -⟩ := s4 i hi
  exact ⟨q1, q2, q3, q4, q5, q6, q7, q8, q9, r1, r2, r3, r4, r5, r6, r7, hn i hi⟩
theorem op_8 : OP8 RR := by
  intro a1 ha1 σ hSF hR
  obtain ⟨hT, hW, hS, hF, hY, hA, hL, hG, hE, hC, hH, hQ⟩ := id hR
  obtain ⟨t1, t2, t3⟩ := id hT
  by_cases p : 0 ≤ a1 ∧ a1 < (gN σ 7 : Int)
  · obtain ⟨e1, e2, e3, e4, hs⟩ := shP hS p
    obtain ⟨q1, q2, q3, q4, q5, q6, q7, q8, q9, r1, r2, r3, r4, r5, r6, r7, x1, x2, x3, x4, x5, x6⟩ := id hs
    by_cases c0 : wv σ a1.toNat (gI σ 1200 0 0) = 2
    · by_cases c1 : gI σ 811 a1.toNat 0 ≤ gI σ 1200 0 0
      · refine opW (r := gI σ 1200 0 0 - gI σ 811 a1.toNat 0) (σ1 := sI σ 809 a1.toNat 0 (gI σ 1200 0 0)) (σ2 := sI (sI σ 809 a1.toNat 0 (gI σ 1200 0 0)) 1319 0 a1.toNat (gI σ 1200 0 0)) ?_ ?_ ?_
        · unfold fX11_come
          rw [e1, bnk_some, mop_s, ck_n e3, wv_c, bnk_some, if_pos c0, if_pos c1, ck_i (by omega) (by omega)]
        · have hx : Ex [809] σ (sI σ 809 a1.toNat 0 (gI σ 1200 0 0)) := Ex.rf.sI (by decide)
          have hs2 : fX12_whereOf a1 (gI σ 1200 0 0) (sI σ 809 a1.toNat 0 (gI σ 1200 0 0)) = fX12_whereOf a1 (gI σ 1200 0 0) σ := by
            unfold fX12_whereOf
            simp only [hx.i (c := 1317) (by decide), hx.i (c := 1318) (by decide), hx.i (c := 1319) (by decide), hx.i (c := 1320) (by decide)]
          have hi2 : fX12_isShot a1 (sI σ 809 a1.toNat 0 (gI σ 1200 0 0)) = fX12_isShot a1 σ := by
            unfold fX12_isShot
            rw [hx.i (c := 1310) (by decide)]
          unfold fX12_come
          rw [hi2, e2, bnk_some, if_neg (by decide), hx.i (c := 1300) (by decide), t1, hs2, wv_m t3 hs e4 t3, bnk_some, if_pos c0, ck_x e4.1 e4.2, hx.i (c := 1321) (by decide), x4, if_pos c1, ck_x e4.1 e4.2, ck_x e4.1 e4.2, ck_i (by omega) (by omega)]
        · have hx : Ex [809, 1319] σ (sI (sI σ 809 a1.toNat 0 (gI σ 1200 0 0)) 1319 0 a1.toNat (gI σ 1200 0 0)) := (Ex.rf.sI (by decide)).sI (by decide)
          refine ⟨hT.ex hx (dj_use (by decide)), hW.ex hx (dj_use (by decide)), ?_, hF.ex hx (dj_use (by decide)), hY.ex hx (dj_use (by decide)), hA.ex hx (dj_use (by decide)), hL.ex hx (dj_use (by decide)), hG.ex hx (dj_use (by decide)), hE.ex hx (dj_use (by decide)), hC.ex hx (dj_use (by decide)), hH.ex hx (dj_use (by decide)), hQ.ex hx (dj_use (by decide))⟩
          refine hS.upd (hx.mono (by decide)) (fun i hi => ?_)
          obtain ⟨q1, q2, q3, q4, q5, q6, q7, q8, q9, r1, r2, r3, r4, r5, r6, r7, x1, x2, x3, x4, x5, x6⟩ := hS.2.2.2 i hi
          rw [hx.i (c := 808) (by decide), hx.i (c := 1318) (by decide), hx.i (c := 810) (by decide), hx.i (c := 1320) (by decide), hx.i (c := 811) (by decide), hx.i (c := 1321) (by decide), hx.i (c := 812) (by decide), hx.i (c := 1322) (by decide)]
          refine ⟨x1, ?_, x3, x4, x5, x6⟩
          by_cases q : i = a1.toNat
          · subst q
            rw [gs, ii (by omega), gs]
            exact Or.inr ⟨rfl, r7.2, Int.le_refl _⟩
          · rw [ii (by omega), ii (by omega), ii (by omega), ii (by omega)]
            exact x2
      · refine opW (r := -3) (σ1 := σ) (σ2 := σ) ?_ ?_ hR
        · unfold fX11_come
          rw [e1, bnk_some, mop_s, ck_n e3, wv_c, bnk_some, if_pos c0, if_neg c1]
        · unfold fX12_come
          rw [e2, bnk_some, if_neg (by decide), t1, wv_m t3 hs e4 t3, bnk_some, if_pos c0, ck_x e4.1 e4.2, x4, if_neg c1]
    · refine opW (r := -3) (σ1 := σ) (σ2 := σ) ?_ ?_ hR
      · unfold fX11_come
        rw [e1, bnk_some, mop_s, ck_n e3, wv_c, bnk_some, if_neg c0]
      · unfold fX12_come
        rw [e2, bnk_some, if_neg (by decide), t1, wv_m t3 hs e4 t3, bnk_some, if_neg c0]
  · obtain ⟨e1, e2⟩ := shN hS p
    refine opW (r := -1) (σ1 := σ) (σ2 := σ) ?_ ?_ hR
    · unfold fX11_come; rw [e1]; rfl
    · unfold fX12_come; rw [e2]; rfl
theorem op_9 : OP9 RR := by
  intro a1 ha1 σ hSF hR
  obtain ⟨hT, hW, hS, hF, hY, hA, hL, hG, hE, hC, hH, hQ⟩ := id hR
  obtain ⟨t1, t2, t3⟩ := id hT
  by_cases p : 0 ≤ a1 ∧ a1 < (gN σ 7 : Int)
  · obtain ⟨e1, e2, e3, e4, hs⟩ := shP hS p
    obtain ⟨q1, q2, q3, q4, q5, q6, q7, q8, q9, r1, r2, r3, r4, r5, r6, r7, x1, x2, x3, x4, x5, x6⟩ := id hs
    by_cases c0 : wv σ a1.toNat (gI σ 1200 0 0) = 4
    · refine opW (r := -3) (σ1 := σ) (σ2 := σ) ?_ ?_ hR
      · unfold fX11_lose
        rw [e1, bnk_some, mop_s, ck_n e3, wv_c, bnk_some, if_pos c0]
      · unfold fX12_lose
        rw [e2, bnk_some, if_neg (by decide), t1, wv_m t3 hs e4 t3, bnk_some, if_pos c0]
    · refine opW (r := wv σ a1.toNat (gI σ 1200 0 0)) (σ1 := sI σ 810 a1.toNat 0 (gI σ 1200 0 0)) (σ2 := sI (sI σ 810 a1.toNat 0 (gI σ 1200 0 0)) 1320 0 a1.toNat (gI σ 1200 0 0)) ?_ ?_ ?_
      · unfold fX11_lose
        rw [e1, bnk_some, mop_s, ck_n e3, wv_c, bnk_some, if_neg c0]
      · have hx : Ex [810] σ (sI σ 810 a1.toNat 0 (gI σ 1200 0 0)) := Ex.rf.sI (by decide)
        have hs2 : fX12_whereOf a1 (gI σ 1200 0 0) (sI σ 810 a1.toNat 0 (gI σ 1200 0 0)) = fX12_whereOf a1 (gI σ 1200 0 0) σ := by
          unfold fX12_whereOf
          simp only [hx.i (c := 1317) (by decide), hx.i (c := 1318) (by decide), hx.i (c := 1319) (by decide), hx.i (c := 1320) (by decide)]
        have hi2 : fX12_isShot a1 (sI σ 810 a1.toNat 0 (gI σ 1200 0 0)) = fX12_isShot a1 σ := by
          unfold fX12_isShot
          rw [hx.i (c := 1310) (by decide)]
        unfold fX12_lose
        rw [hi2, e2, bnk_some, if_neg (by decide), hx.i (c := 1300) (by decide), t1, hs2, wv_m t3 hs e4 t3, bnk_some, if_neg c0, ck_x e4.1 e4.2]
      · have hx : Ex [810, 1320] σ (sI (sI σ 810 a1.toNat 0 (gI σ 1200 0 0)) 1320 0 a1.toNat (gI σ 1200 0 0)) := (Ex.rf.sI (by decide)).sI (by decide)
        refine ⟨hT.ex hx (dj_use (by decide)), hW.ex hx (dj_use (by decide)), ?_, hF.ex hx (dj_use (by decide)), hY.ex hx (dj_use (by decide)), hA.ex hx (dj_use (by decide)), hL.ex hx (dj_use (by decide)), hG.ex hx (dj_use (by decide)), hE.ex hx (dj_use (by decide)), hC.ex hx (dj_use (by decide)), hH.ex hx (dj_use (by decide)), hQ.ex hx (dj_use (by decide))⟩
        refine hS.upd (hx.mono (by decide)) (fun i hi => ?_)
        obtain ⟨q1, q2, q3, q4, q5, q6, q7, q8, q9, r1, r2, r3, r4, r5, r6, r7, x1, x2, x3, x4, x5, x6⟩ := hS.2.2.2 i hi
        rw [hx.i (c := 808) (by decide), hx.i (c := 1318) (by decide), hx.i (c := 809) (by decide), hx.i (c := 1319) (by decide), hx.i (c := 811) (by decide), hx.i (c := 1321) (by decide), hx.i (c := 812) (by decide), hx.i (c := 1322) (by decide)]
        refine ⟨x1, x2, ?_, x4, x5, x6⟩
        by_cases q : i = a1.toNat
        · subst q
          rw [gs, ii (by omega), gs]
          exact Or.inr ⟨rfl, r7.2, Int.le_refl _⟩
        · rw [ii (by omega), ii (by omega), ii (by omega), ii (by omega)]
          exact x3
  · obtain ⟨e1, e2⟩ := shN hS p
    refine opW (r := -1) (σ1 := σ) (σ2 := σ) ?_ ?_ hR
    · unfold fX11_lose; rw [e1]; rfl
    · unfold fX12_lose; rw [e2]; rfl
theorem RL_.upd {σ σ2 : St} (h : RL_ σ) (hx : Ex [701, 1339] σ σ2) (hn : ∀ i, i < gN σ 6 → RX 416 (gI σ2 701 i 0) (gI σ2 1339 0 i) 0) : RL_ σ2 := by
  obtain ⟨s1, s2, s3, s4, s5⟩ := h
  unfold RL_ RL1
  simp only [hx.i (c := 700) (by decide), hx.i (c := 702) (by decide), hx.i (c := 703) (by decide), hx.i (c := 1210) (by decide), hx.i (c := 1337) (by decide), hx.i (c := 1338) (by decide), hx.i (c := 1340) (by decide), hx.i (c := 1341) (by decide), hx.p (c := 1209) (by decide), hx.n 6]
  refine ⟨s1, s2, s3, fun i hi => ?_, s5⟩
  obtain ⟨q1, q2, q3, q4, q5⟩ := s4 i hi
  exact ⟨q1, q2, q3, hn i hi, q5⟩
theorem op_27 : OP27 RR := by
  intro a1 a2 ha1 ha2 σ hSF hR
  obtain ⟨hT, hW, hS, hF, hY, hA, hL, hG, hE, hC, hH, hQ⟩ := id hR
  by_cases p : 0 ≤ a1 ∧ a1 < (gN σ 6 : Int)
  · obtain ⟨e1, e2, e3, e4, q1, q2, q3, q4, q5⟩ := ruP hL p
    by_cases c0 : 0 ≤ a2 ∧ a2 ≤ 416
    · by_cases c1 : gI σ 701 a1.toNat 0 = 1000000
      · have c2 : gI σ 1339 0 a1.toNat = -9 := by unfold RX at q4; omega
        refine opW (r := 1) (σ1 := sI σ 701 a1.toNat 0 a2) (σ2 := sI (sI σ 701 a1.toNat 0 a2) 1339 0 a1.toNat a2) ?_ ?_ ?_
        · unfold fX11_strike
          rw [e1, bnk_some, mop_s, ck_n e3, c_isDay_eq, bnkI, if_pos c0, if_pos c1]
        · have hx : Ex [701] σ (sI σ 701 a1.toNat 0 a2) := Ex.rf.sI (by decide)
          have hi2 : fX12_isRule a1 (sI σ 701 a1.toNat 0 a2) = fX12_isRule a1 σ := by
            unfold fX12_isRule
            rw [hx.i (c := 1337) (by decide)]
          unfold fX12_strike
          rw [hi2, e2, bnk_some, if_neg (by decide), m_isDay_eq, bnkI, if_pos c0, ck_x e4.1 e4.2, hx.i (c := 1339) (by decide), if_pos c2, ck_x e4.1 e4.2]
        · have hx : Ex [701, 1339] σ (sI (sI σ 701 a1.toNat 0 a2) 1339 0 a1.toNat a2) := (Ex.rf.sI (by decide)).sI (by decide)
          refine ⟨hT.ex hx (dj_use (by decide)), hW.ex hx (dj_use (by decide)), hS.ex hx (dj_use (by decide)), hF.ex hx (dj_use (by decide)), hY.ex hx (dj_use (by decide)), hA.ex hx (dj_use (by decide)), ?_, hG.ex hx (dj_use (by decide)), hE.ex hx (dj_use (by decide)), hC.ex hx (dj_use (by decide)), hH.ex hx (dj_use (by decide)), hQ.ex hx (dj_use (by decide))⟩
          refine hL.upd hx (fun i hi => ?_)
          by_cases q : i = a1.toNat
          · subst q
            rw [gs, ii (by omega), gs]
            exact Or.inr ⟨rfl, c0.1, c0.2⟩
          · rw [ii (by omega), ii (by omega), ii (by omega), ii (by omega)]
            exact (hL.2.2.2.1 i hi).2.2.2.1
      · have c2 : ¬ gI σ 1339 0 a1.toNat = -9 := by unfold RX at q4; omega
        refine opW (r := -3) (σ1 := σ) (σ2 := σ) ?_ ?_ hR
        · unfold fX11_strike
          rw [e1, bnk_some, mop_s, ck_n e3, c_isDay_eq, bnkI, if_pos c0, if_neg c1]
        · unfold fX12_strike
          rw [e2, bnk_some, if_neg (by decide), m_isDay_eq, bnkI, if_pos c0, ck_x e4.1 e4.2, if_neg c2]
    · refine opW (r := -2) (σ1 := σ) (σ2 := σ) ?_ ?_ hR
      · unfold fX11_strike
        rw [e1, bnk_some, mop_s, ck_n e3, c_isDay_eq, bnkI, if_neg c0]
      · unfold fX12_strike
        rw [e2, bnk_some, if_neg (by decide), m_isDay_eq, bnkI, if_neg c0]
  · obtain ⟨e1, e2⟩ := ruN hL p
    refine opW (r := -1) (σ1 := σ) (σ2 := σ) ?_ ?_ hR
    · unfold fX11_strike; rw [e1]; rfl
    · unfold fX12_strike; rw [e2]; rfl
theorem RY.upd {σ σ2 : St} (h : RY σ) (hx : Ex [906, 907, 1333, 1334] σ σ2) (hn : ∀ i, i < gN σ 8 → gI σ2 1333 0 i = gI σ2 906 i 0 ∧ gI σ2 1334 0 i = gI σ2 907 i 0 ∧ (gI σ2 906 i 0 = 0 ∨ gI σ2 906 i 0 = 1) ∧ (gI σ2 907 i 0 = 0 ∨ gI σ2 907 i 0 = 1)) (hm : ∀ i, gN σ 8 ≤ i → gI σ2 1333 0 i = 0 ∧ gI σ2 1334 0 i = 0) : RY σ2 := by
  obtain ⟨s1, s2, s3, s4, s5⟩ := h
  unfold RY RY1
  simp only [hx.i (c := 900) (by decide), hx.i (c := 901) (by decide), hx.i (c := 902) (by decide), hx.i (c := 903) (by decide), hx.i (c := 905) (by decide), hx.i (c := 1206) (by decide), hx.i (c := 1326) (by decide), hx.i (c := 1327) (by decide), hx.i (c := 1328) (by decide), hx.i (c := 1329) (by decide), hx.i (c := 1330) (by decide), hx.i (c := 1331) (by decide), hx.i (c := 1332) (by decide), hx.p (c := 904) (by decide), hx.p (c := 1205) (by decide), hx.n 7, hx.n 8]
  refine ⟨s1, s2, s3, fun i hi => ?_, fun i hi => ⟨(s5 i hi).1, hm i hi⟩⟩
  obtain ⟨q1, q2, q3, q4, q5, q6, q7, q8, r1, r2, r3, r4, r5, r6, r7, r8⟩ := s4 i hi
  obtain ⟨n1, n2, n3, n4⟩ := hn i hi
  exact ⟨q1, q2, q3, q4, q5, q6, n1, n2, r1, r2, r3, r4, r5, n3, n4, r8⟩
theorem asN_eq {x : Int} (h : x = 0 ∨ x = 1) : fX11_asNumber x = some x := by
  unfold fX11_asNumber
  rcases h with h | h
  · rw [h]; rfl
  · rw [h]; rfl
theorem op_18 : OP18 RR := by
  intro a1 a2 ha1 ha2 σ hSF hR
  obtain ⟨hT, hW, hS, hF, hY, hA, hL, hG, hE, hC, hH, hQ⟩ := id hR
  by_cases p : 0 ≤ a1 ∧ a1 < (gN σ 8 : Int)
  · obtain ⟨e1, e2, e3, e4, q1, q2, q3, q4, q5, q6, q7, q8, r1, r2, r3, r4, r5, r6, r7, r8⟩ := stP hY p
    refine opW (r := gI σ 906 a1.toNat 0) (σ1 := sI σ 906 a1.toNat 0 a2) (σ2 := sI (sI σ 906 a1.toNat 0 a2) 1333 0 a1.toNat a2) ?_ ?_ ?_
    · unfold fX11_say
      rw [e1, bnk_some, mop_s, ck_n e3, ck_b r6, asN_eq r6]; rfl
    · have hx : Ex [906] σ (sI σ 906 a1.toNat 0 a2) := Ex.rf.sI (by decide)
      have hi2 : fX12_isStory a1 (sI σ 906 a1.toNat 0 a2) = fX12_isStory a1 σ := by
        unfold fX12_isStory
        rw [hx.i (c := 1326) (by decide)]
      unfold fX12_say fX12_say_j24
      rw [hi2, e2, bnk_some, if_neg (by decide), ck_x e4.1 e4.2, hx.i (c := 1333) (by decide), q7]
      simp only [ck_x e4.1 e4.2, ck_b ha2]
      rcases r6 with z | z <;> rw [z] <;> rfl
    · have hx : Ex [906, 1333] σ (sI (sI σ 906 a1.toNat 0 a2) 1333 0 a1.toNat a2) := (Ex.rf.sI (by decide)).sI (by decide)
      refine ⟨hT.ex hx (dj_use (by decide)), hW.ex hx (dj_use (by decide)), hS.ex hx (dj_use (by decide)), hF.ex hx (dj_use (by decide)), ?_, hA.ex hx (dj_use (by decide)), hL.ex hx (dj_use (by decide)), hG.ex hx (dj_use (by decide)), hE.ex hx (dj_use (by decide)), hC.ex hx (dj_use (by decide)), hH.ex hx (dj_use (by decide)), hQ.ex hx (dj_use (by decide))⟩
      refine hY.upd (hx.mono (by decide)) (fun i hi => ?_) (fun i hi => ?_)
      · obtain ⟨q1, q2, q3, q4, q5, q6, q7, q8, r1, r2, r3, r4, r5, r6, r7, r8⟩ := hY.2.2.2.1 i hi
        rw [hx.i (c := 907) (by decide), hx.i (c := 1334) (by decide)]
        by_cases q : i = a1.toNat
        · subst q
          rw [gs, ii (by omega), gs]
          exact ⟨rfl, q8, ha2, r7⟩
        · rw [ii (by omega), ii (by omega), ii (by omega), ii (by omega)]
          exact ⟨q7, q8, r6, r7⟩
      · obtain ⟨z1, z2, z3⟩ := hY.2.2.2.2 i hi
        rw [hx.i (c := 1334) (by decide), ii (by omega), ii (by omega)]
        exact ⟨z2, z3⟩
  · obtain ⟨e1, e2⟩ := stN hY p
    refine opW (r := -1) (σ1 := σ) (σ2 := σ) ?_ ?_ hR
    · unfold fX11_say; rw [e1]; rfl
    · unfold fX12_say; rw [e2]; rfl
theorem op_19 : OP19 RR := by
  intro a1 a2 ha1 ha2 σ hSF hR
  obtain ⟨hT, hW, hS, hF, hY, hA, hL, hG, hE, hC, hH, hQ⟩ := id hR
  by_cases p : 0 ≤ a1 ∧ a1 < (gN σ 8 : Int)
  · obtain ⟨e1, e2, e3, e4, q1, q2, q3, q4, q5, q6, q7, q8, r1, r2, r3, r4, r5, r6, r7, r8⟩ := stP hY p
    refine opW (r := gI σ 907 a1.toNat 0) (σ1 := sI σ 907 a1.toNat 0 a2) (σ2 := sI (sI σ 907 a1.toNat 0 a2) 1334 0 a1.toNat a2) ?_ ?_ ?_
    · unfold fX11_must
      rw [e1, bnk_some, mop_s, ck_n e3, ck_b r7, asN_eq r7]; rfl
    · have hx : Ex [907] σ (sI σ 907 a1.toNat 0 a2) := Ex.rf.sI (by decide)
      have hi2 : fX12_isStory a1 (sI σ 907 a1.toNat 0 a2) = fX12_isStory a1 σ := by
        unfold fX12_isStory
        rw [hx.i (c := 1326) (by decide)]
      unfold fX12_must fX12_must_j24
      rw [hi2, e2, bnk_some, if_neg (by decide), ck_x e4.1 e4.2, hx.i (c := 1334) (by decide), q8]
      simp only [ck_x e4.1 e4.2, ck_b ha2]
      rcases r7 with z | z <;> rw [z] <;> rfl
    · have hx : Ex [907, 1334] σ (sI (sI σ 907 a1.toNat 0 a2) 1334 0 a1.toNat a2) := (Ex.rf.sI (by decide)).sI (by decide)
      refine ⟨hT.ex hx (dj_use (by decide)), hW.ex hx (dj_use (by decide)), hS.ex hx (dj_use (by decide)), hF.ex hx (dj_use (by decide)), ?_, hA.ex hx (dj_use (by decide)), hL.ex hx (dj_use (by decide)), hG.ex hx (dj_use (by decide)), hE.ex hx (dj_use (by decide)), hC.ex hx (dj_use (by decide)), hH.ex hx (dj_use (by decide)), hQ.ex hx (dj_use (by decide))⟩
      refine hY.upd (hx.mono (by decide)) (fun i hi => ?_) (fun i hi => ?_)
      · obtain ⟨q1, q2, q3, q4, q5, q6, q7, q8, r1, r2, r3, r4, r5, r6, r7, r8⟩ := hY.2.2.2.1 i hi
        rw [hx.i (c := 906) (by decide), hx.i (c := 1333) (by decide)]
        by_cases q : i = a1.toNat
        · subst q
          rw [gs, ii (by omega), gs]
          exact ⟨q7, rfl, r6, ha2⟩
        · rw [ii (by omega), ii (by omega), ii (by omega), ii (by omega)]
          exact ⟨q7, q8, r6, r7⟩
      · obtain ⟨z1, z2, z3⟩ := hY.2.2.2.2 i hi
        rw [hx.i (c := 1333) (by decide), ii (by omega), ii (by omega)]
        exact ⟨z2, z3⟩
  · obtain ⟨e1, e2⟩ := stN hY p
    refine opW (r := -1) (σ1 := σ) (σ2 := σ) ?_ ?_ hR
    · unfold fX11_must; rw [e1]; rfl
    · unfold fX12_must; rw [e2]; rfl
theorem RW.upd {σ σ2 : St} (h : RW σ) (hx : Ex [1106, 1308] σ σ2) (hn : ∀ i, i < gN σ 10 → gI σ2 1308 0 i = gI σ2 1106 i 0 ∧ (gI σ2 1106 i 0 = 0 ∨ gI σ2 1106 i 0 = 1)) (hm : ∀ i, gN σ 10 ≤ i → gI σ2 1308 0 i = 0) : RW σ2 := by
  obtain ⟨s1, s2, s3, s4, s5⟩ := h
  unfold RW RW1
  simp only [hx.i (c := 1001) (by decide), hx.i (c := 1100) (by decide), hx.i (c := 1101) (by decide), hx.i (c := 1102) (by decide), hx.i (c := 1103) (by decide), hx.i (c := 1104) (by decide), hx.i (c := 1105) (by decide), hx.i (c := 1301) (by decide), hx.i (c := 1302) (by decide), hx.i (c := 1303) (by decide), hx.i (c := 1304) (by decide), hx.i (c := 1305) (by decide), hx.i (c := 1306) (by decide), hx.i (c := 1307) (by decide), hx.p (c := 1000) (by decide), hx.n 10]
  refine ⟨s1, s2, s3, fun i hi => ?_, hm⟩
  obtain ⟨q1, q2, q3, q4, q5, q6, q7, q8, r1, r2, r3, r4, r5, r6, r7⟩ := s4 i hi
  exact ⟨q1, q2, q3, q4, q5, q6, q7, (hn i hi).1, r1, r2, r3, r4, r5, r6, (hn i hi).2⟩
theorem op_2 : OP2 RR := by
  intro a1 ha1 σ hSF hR
  obtain ⟨hT, hW, hS, hF, hY, hA, hL, hG, hE, hC, hH, hQ⟩ := id hR
  obtain ⟨w1, w2, w3, w4, w5⟩ := id hW
  by_cases p : 0 ≤ a1 ∧ a1 < (gN σ 10 : Int)
  · obtain ⟨q1, q2, q3, q4, q5, q6, q7, q8, r1, r2, r3, r4, r5, r6, r7⟩ := w4 a1.toNat (by omega)
    have e1 : fX9_numbered a1 σ = some (some a1.toNat) := by
      unfold fX9_numbered
      rw [w2, ck_i (by omega) (by omega), within_eq, bnkI, if_pos (by omega), ck_x (by omega) (by omega), q1]; rfl
    by_cases c0 : gI σ 1106 a1.toNat 0 = 0
    · refine opW (r := 1) (σ1 := sI σ 1106 a1.toNat 0 1) (σ2 := sI (sI σ 1106 a1.toNat 0 1) 1308 0 a1.toNat 1) ?_ ?_ ?_
      · unfold fX11_shut
        rw [e1, bnk_some, mop_s, ck_n (by omega), if_pos c0]
      · unfold fX12_shut
        have hx : Ex [1106] σ (sI σ 1106 a1.toNat 0 1) := Ex.rf.sI (by decide)
        rw [hx.i (c := 1301) (by decide), hx.i (c := 1308) (by decide), w1, ck_i (by omega) (by omega), in_eq, bnkI, if_pos (by omega), ck_x (by omega) (by omega), q8, if_pos c0, ck_x (by omega) (by omega)]
      · have hx : Ex [1106, 1308] σ (sI (sI σ 1106 a1.toNat 0 1) 1308 0 a1.toNat 1) := (Ex.rf.sI (by decide)).sI (by decide)
        refine ⟨hT.ex hx (dj_use (by decide)), ?_, hS.ex hx (dj_use (by decide)), hF.ex hx (dj_use (by decide)), hY.ex hx (dj_use (by decide)), hA.ex hx (dj_use (by decide)), hL.ex hx (dj_use (by decide)), hG.ex hx (dj_use (by decide)), hE.ex hx (dj_use (by decide)), hC.ex hx (dj_use (by decide)), hH.ex hx (dj_use (by decide)), hQ.ex hx (dj_use (by decide))⟩
        refine hW.upd hx (fun i hi => ?_) (fun i hi => ?_)
        · by_cases q : i = a1.toNat
          · subst q
            rw [gs, ii (by omega), gs]
            exact ⟨rfl, Or.inr rfl⟩
          · rw [ii (by omega), ii (by omega), ii (by omega), ii (by omega)]
            obtain ⟨q1, q2, q3, q4, q5, q6, q7, q8, r1, r2, r3, r4, r5, r6, r7⟩ := w4 i hi
            exact ⟨q8, r7⟩
        · rw [ii (by omega), ii (by omega)]
          exact w5 i hi
    · refine opW (r := -3) (σ1 := σ) (σ2 := σ) ?_ ?_ hR
      · unfold fX11_shut
        rw [e1, bnk_some, mop_s, ck_n (by omega), if_neg c0]
      · unfold fX12_shut
        rw [w1, ck_i (by omega) (by omega), in_eq, bnkI, if_pos (by omega), ck_x (by omega) (by omega), q8, if_neg c0]
  · refine opW (r := -1) (σ1 := σ) (σ2 := σ) ?_ ?_ hR
    · unfold fX11_shut fX9_numbered
      rw [w2, ck_i (by omega) (by omega), within_eq, bnkI, if_neg (by omega)]; rfl
    · unfold fX12_shut
      rw [w1, ck_i (by omega) (by omega), in_eq, bnkI, if_neg (by omega)]
