theorem b2i_ite {α : Type} {P : Prop} [Decidable P] {A B : α} : (if b2i P = 0 then A else B) = if P then B else A := by
  by_cases h : P
  · rw [if_pos h, if_neg (by rw [b2i_pos h]; decide)]
  · rw [if_neg h, if_pos (b2i_neg h)]
theorem ck_i {α : Type} {x : Int} {k : Option α} (h1 : -2147483648 ≤ x) (h2 : x ≤ 2147483647) : ck (inr x) k = k := if_pos ⟨h1, h2⟩
theorem ck_x {α : Type} {x n : Int} {k : Option α} (h1 : 0 ≤ x) (h2 : x < n) : ck (0 ≤ x ∧ x < n) k = k := if_pos ⟨h1, h2⟩
theorem ck_n {α : Type} {x n : Nat} {k : Option α} (h1 : x < n) : ck (x < n) k = k := if_pos h1
theorem ck_b {α : Type} {x : Int} {k : Option α} (h1 : x = 0 ∨ x = 1) : ck (x = 0 ∨ x = 1) k = k := if_pos h1

theorem op_12 : OP12 RR := by
  intro a1 a2 a3 a4 ha1 ha2 ha3 ha4 σ hSF hR
  obtain ⟨hT, hW, hS, hF, hY, hA, hL, hG, hE, hC, hH, hQ⟩ := hR
  by_cases p1 : 0 ≤ a1 ∧ a1 ≤ 7
  · skip
    by_cases p2 : 0 ≤ a2 ∧ a2 ≤ 255
    · skip
      by_cases p3 : 0 ≤ a3 ∧ a3 ≤ 364
      · skip
        by_cases p4 : 0 ≤ a4 ∧ a4 ≤ 364
        · skip
          refine opW (r := 1) (σ1 := sI (sI (sI σ 200 0 a1.toNat (a2)) 201 0 a1.toNat (a3)) 202 0 a1.toNat (a4)) (σ2 := sI (sI (sI (sI (sI (sI σ 200 0 a1.toNat (a2)) 201 0 a1.toNat (a3)) 202 0 a1.toNat (a4)) 1323 0 a1.toNat (a2)) 1324 0 a1.toNat (a3)) 1325 0 a1.toNat (a4)) (by simp (disch := omega) only [fX11_fact, fX1_learn, within_eq, c_isHour_eq, c_isDay_eq, c_isDayOfYear_eq, c_isPlace_eq, c_isLand_eq, c_isSubject_eq, c_isMarkSet_eq, c_isKind_eq, c_isWeek_eq, in_eq, m_isHour_eq, m_isDay_eq, m_isPlace_eq, m_isLand_eq, b2i_ite, bnk_some, bnd_some, lt_def, mop_s, mop_n, ck_i, ck_x, ck_n, ck_b, gs, if_pos p1, if_pos p2, if_pos p3, if_pos p4]) (by simp (disch := omega) only [fX12_fact, within_eq, c_isHour_eq, c_isDay_eq, c_isDayOfYear_eq, c_isPlace_eq, c_isLand_eq, c_isSubject_eq, c_isMarkSet_eq, c_isKind_eq, c_isWeek_eq, in_eq, m_isHour_eq, m_isDay_eq, m_isPlace_eq, m_isLand_eq, b2i_ite, bnk_some, bnd_some, lt_def, mop_s, mop_n, ck_i, ck_x, ck_n, ck_b, gs, if_pos p1, if_pos p2, if_pos p3, if_pos p4]) ?_
          have hx : Ex [200, 201, 202, 1323, 1324, 1325] σ (sI (sI (sI (sI (sI (sI σ 200 0 a1.toNat (a2)) 201 0 a1.toNat (a3)) 202 0 a1.toNat (a4)) 1323 0 a1.toNat (a2)) 1324 0 a1.toNat (a3)) 1325 0 a1.toNat (a4)) := ((((((Ex.rf.sI (by decide)).sI (by decide)).sI (by decide)).sI (by decide)).sI (by decide)).sI (by decide))
          generalize hs2 : sI (sI (sI (sI (sI (sI σ 200 0 a1.toNat (a2)) 201 0 a1.toNat (a3)) 202 0 a1.toNat (a4)) 1323 0 a1.toNat (a2)) 1324 0 a1.toNat (a3)) 1325 0 a1.toNat (a4) = σ2 at hx
          refine ⟨hT.ex hx (dj_use (by decide)), hW.ex hx (dj_use (by decide)), hS.ex hx (dj_use (by decide)), ?_, hY.ex hx (dj_use (by decide)), hA.ex hx (dj_use (by decide)), hL.ex hx (dj_use (by decide)), hG.ex hx (dj_use (by decide)), hE.ex hx (dj_use (by decide)), hC.ex hx (dj_use (by decide)), hH.ex hx (dj_use (by decide)), hQ.ex hx (dj_use (by decide))⟩
          · intro i hi
            have := hF i hi
            by_cases q : i = a1.toNat
            · subst q; rw [← hs2]; simp [gI_sI]; omega
            · rw [← hs2]; simp only [gI_sI]; simp [q]; exact this
        · skip
          refine opW (r := -2) (σ1 := σ) (σ2 := σ) (by simp (disch := omega) only [fX11_fact, fX1_learn, within_eq, c_isHour_eq, c_isDay_eq, c_isDayOfYear_eq, c_isPlace_eq, c_isLand_eq, c_isSubject_eq, c_isMarkSet_eq, c_isKind_eq, c_isWeek_eq, in_eq, m_isHour_eq, m_isDay_eq, m_isPlace_eq, m_isLand_eq, b2i_ite, bnk_some, bnd_some, lt_def, mop_s, mop_n, ck_i, ck_x, ck_n, ck_b, gs, if_pos p1, if_pos p2, if_pos p3, if_neg p4]) (by simp (disch := omega) only [fX12_fact, within_eq, c_isHour_eq, c_isDay_eq, c_isDayOfYear_eq, c_isPlace_eq, c_isLand_eq, c_isSubject_eq, c_isMarkSet_eq, c_isKind_eq, c_isWeek_eq, in_eq, m_isHour_eq, m_isDay_eq, m_isPlace_eq, m_isLand_eq, b2i_ite, bnk_some, bnd_some, lt_def, mop_s, mop_n, ck_i, ck_x, ck_n, ck_b, gs, if_pos p1, if_pos p2, if_pos p3, if_neg p4]) ?_
          exact ⟨hT, hW, hS, hF, hY, hA, hL, hG, hE, hC, hH, hQ⟩
      · skip
        refine opW (r := -2) (σ1 := σ) (σ2 := σ) (by simp (disch := omega) only [fX11_fact, fX1_learn, within_eq, c_isHour_eq, c_isDay_eq, c_isDayOfYear_eq, c_isPlace_eq, c_isLand_eq, c_isSubject_eq, c_isMarkSet_eq, c_isKind_eq, c_isWeek_eq, in_eq, m_isHour_eq, m_isDay_eq, m_isPlace_eq, m_isLand_eq, b2i_ite, bnk_some, bnd_some, lt_def, mop_s, mop_n, ck_i, ck_x, ck_n, ck_b, gs, if_pos p1, if_pos p2, if_neg p3]) (by simp (disch := omega) only [fX12_fact, within_eq, c_isHour_eq, c_isDay_eq, c_isDayOfYear_eq, c_isPlace_eq, c_isLand_eq, c_isSubject_eq, c_isMarkSet_eq, c_isKind_eq, c_isWeek_eq, in_eq, m_isHour_eq, m_isDay_eq, m_isPlace_eq, m_isLand_eq, b2i_ite, bnk_some, bnd_some, lt_def, mop_s, mop_n, ck_i, ck_x, ck_n, ck_b, gs, if_pos p1, if_pos p2, if_neg p3]) ?_
        exact ⟨hT, hW, hS, hF, hY, hA, hL, hG, hE, hC, hH, hQ⟩
    · skip
      refine opW (r := -2) (σ1 := σ) (σ2 := σ) (by simp (disch := omega) only [fX11_fact, fX1_learn, within_eq, c_isHour_eq, c_isDay_eq, c_isDayOfYear_eq, c_isPlace_eq, c_isLand_eq, c_isSubject_eq, c_isMarkSet_eq, c_isKind_eq, c_isWeek_eq, in_eq, m_isHour_eq, m_isDay_eq, m_isPlace_eq, m_isLand_eq, b2i_ite, bnk_some, bnd_some, lt_def, mop_s, mop_n, ck_i, ck_x, ck_n, ck_b, gs, if_pos p1, if_neg p2]) (by simp (disch := omega) only [fX12_fact, within_eq, c_isHour_eq, c_isDay_eq, c_isDayOfYear_eq, c_isPlace_eq, c_isLand_eq, c_isSubject_eq, c_isMarkSet_eq, c_isKind_eq, c_isWeek_eq, in_eq, m_isHour_eq, m_isDay_eq, m_isPlace_eq, m_isLand_eq, b2i_ite, bnk_some, bnd_some, lt_def, mop_s, mop_n, ck_i, ck_x, ck_n, ck_b, gs, if_pos p1, if_neg p2]) ?_
      exact ⟨hT, hW, hS, hF, hY, hA, hL, hG, hE, hC, hH, hQ⟩
  · skip
    refine opW (r := -1) (σ1 := σ) (σ2 := σ) (by simp (disch := omega) only [fX11_fact, fX1_learn, within_eq, c_isHour_eq, c_isDay_eq, c_isDayOfYear_eq, c_isPlace_eq, c_isLand_eq, c_isSubject_eq, c_isMarkSet_eq, c_isKind_eq, c_isWeek_eq, in_eq, m_isHour_eq, m_isDay_eq, m_isPlace_eq, m_isLand_eq, b2i_ite, bnk_some, bnd_some, lt_def, mop_s, mop_n, ck_i, ck_x, ck_n, ck_b, gs, if_neg p1]) (by simp (disch := omega) only [fX12_fact, within_eq, c_isHour_eq, c_isDay_eq, c_isDayOfYear_eq, c_isPlace_eq, c_isLand_eq, c_isSubject_eq, c_isMarkSet_eq, c_isKind_eq, c_isWeek_eq, in_eq, m_isHour_eq, m_isDay_eq, m_isPlace_eq, m_isLand_eq, b2i_ite, bnk_some, bnd_some, lt_def, mop_s, mop_n, ck_i, ck_x, ck_n, ck_b, gs, if_neg p1]) ?_
    exact ⟨hT, hW, hS, hF, hY, hA, hL, hG, hE, hC, hH, hQ⟩
theorem op_23 : OP23 RR := by
  intro a1 a2 ha1 ha2 σ hSF hR
  obtain ⟨hT, hW, hS, hF, hY, hA, hL, hG, hE, hC, hH, hQ⟩ := hR
  obtain ⟨y1, y2, y3⟩ := id hA
  by_cases p1 : 0 ≤ a1 ∧ a1 ≤ 2
  · skip
    by_cases p2 : 0 ≤ a2 ∧ a2 ≤ 99
    · skip
      refine opW (r := gI σ 1208 0 a1.toNat) (σ1 := sI σ 1208 0 a1.toNat (a2)) (σ2 := sI (sI σ 1208 0 a1.toNat (a2)) 1336 0 a1.toNat (a2)) (by simp (disch := omega) only [fX11_rate, within_eq, c_isHour_eq, c_isDay_eq, c_isDayOfYear_eq, c_isPlace_eq, c_isLand_eq, c_isSubject_eq, c_isMarkSet_eq, c_isKind_eq, c_isWeek_eq, in_eq, m_isHour_eq, m_isDay_eq, m_isPlace_eq, m_isLand_eq, b2i_ite, bnk_some, bnd_some, lt_def, mop_s, mop_n, ck_i, ck_x, ck_n, ck_b, gs, if_pos p1, if_pos p2]) (by simp (disch := omega) only [fX12_rate, within_eq, c_isHour_eq, c_isDay_eq, c_isDayOfYear_eq, c_isPlace_eq, c_isLand_eq, c_isSubject_eq, c_isMarkSet_eq, c_isKind_eq, c_isWeek_eq, in_eq, m_isHour_eq, m_isDay_eq, m_isPlace_eq, m_isLand_eq, b2i_ite, bnk_some, bnd_some, lt_def, mop_s, mop_n, ck_i, ck_x, ck_n, ck_b, gs, if_pos p1, if_pos p2, ii, (y3 a1.toNat (by omega)).1]) ?_
      have hx : Ex [1208, 1336] σ (sI (sI σ 1208 0 a1.toNat (a2)) 1336 0 a1.toNat (a2)) := ((Ex.rf.sI (by decide)).sI (by decide))
      generalize hs2 : sI (sI σ 1208 0 a1.toNat (a2)) 1336 0 a1.toNat (a2) = σ2 at hx
      refine ⟨hT.ex hx (dj_use (by decide)), hW.ex hx (dj_use (by decide)), hS.ex hx (dj_use (by decide)), hF.ex hx (dj_use (by decide)), hY.ex hx (dj_use (by decide)), ?_, hL.ex hx (dj_use (by decide)), hG.ex hx (dj_use (by decide)), hE.ex hx (dj_use (by decide)), hC.ex hx (dj_use (by decide)), hH.ex hx (dj_use (by decide)), hQ.ex hx (dj_use (by decide))⟩
      · rw [← hs2]
        refine ⟨by simp [gI_sI]; exact y1, by simp [gI_sI]; exact y2, fun i hi => ?_⟩
        have := y3 i hi
        by_cases q : i = a1.toNat
        · subst q; simp [gI_sI]; omega
        · simp only [gI_sI]; simp [q]; exact this
    · skip
      refine opW (r := -2) (σ1 := σ) (σ2 := σ) (by simp (disch := omega) only [fX11_rate, within_eq, c_isHour_eq, c_isDay_eq, c_isDayOfYear_eq, c_isPlace_eq, c_isLand_eq, c_isSubject_eq, c_isMarkSet_eq, c_isKind_eq, c_isWeek_eq, in_eq, m_isHour_eq, m_isDay_eq, m_isPlace_eq, m_isLand_eq, b2i_ite, bnk_some, bnd_some, lt_def, mop_s, mop_n, ck_i, ck_x, ck_n, ck_b, gs, if_pos p1, if_neg p2]) (by simp (disch := omega) only [fX12_rate, within_eq, c_isHour_eq, c_isDay_eq, c_isDayOfYear_eq, c_isPlace_eq, c_isLand_eq, c_isSubject_eq, c_isMarkSet_eq, c_isKind_eq, c_isWeek_eq, in_eq, m_isHour_eq, m_isDay_eq, m_isPlace_eq, m_isLand_eq, b2i_ite, bnk_some, bnd_some, lt_def, mop_s, mop_n, ck_i, ck_x, ck_n, ck_b, gs, if_pos p1, if_neg p2]) ?_
      exact ⟨hT, hW, hS, hF, hY, hA, hL, hG, hE, hC, hH, hQ⟩
  · skip
    refine opW (r := -2) (σ1 := σ) (σ2 := σ) (by simp (disch := omega) only [fX11_rate, within_eq, c_isHour_eq, c_isDay_eq, c_isDayOfYear_eq, c_isPlace_eq, c_isLand_eq, c_isSubject_eq, c_isMarkSet_eq, c_isKind_eq, c_isWeek_eq, in_eq, m_isHour_eq, m_isDay_eq, m_isPlace_eq, m_isLand_eq, b2i_ite, bnk_some, bnd_some, lt_def, mop_s, mop_n, ck_i, ck_x, ck_n, ck_b, gs, if_neg p1]) (by simp (disch := omega) only [fX12_rate, within_eq, c_isHour_eq, c_isDay_eq, c_isDayOfYear_eq, c_isPlace_eq, c_isLand_eq, c_isSubject_eq, c_isMarkSet_eq, c_isKind_eq, c_isWeek_eq, in_eq, m_isHour_eq, m_isDay_eq, m_isPlace_eq, m_isLand_eq, b2i_ite, bnk_some, bnd_some, lt_def, mop_s, mop_n, ck_i, ck_x, ck_n, ck_b, gs, if_neg p1]) ?_
    exact ⟨hT, hW, hS, hF, hY, hA, hL, hG, hE, hC, hH, hQ⟩
theorem op_40 : OP40 RR := by
  intro a1 a2 a3 ha1 ha2 ha3 σ hSF hR
  obtain ⟨hT, hW, hS, hF, hY, hA, hL, hG, hE, hC, hH, hQ⟩ := hR
  obtain ⟨y1, y2⟩ := id hC
  by_cases p1 : 0 ≤ a1 ∧ a1 ≤ 3
  · skip
    by_cases p2 : 0 ≤ a2 ∧ a2 ≤ 7
    · skip
      by_cases p3 : 0 ≤ a3 ∧ a3 ≤ 9999
      · skip
        refine opW (r := 1) (σ1 := sI (sI σ 100 0 a1.toNat (a2)) 101 0 a1.toNat (a3)) (σ2 := sI (sI (sI (sI σ 100 0 a1.toNat (a2)) 101 0 a1.toNat (a3)) 1367 0 a1.toNat (a2)) 1368 0 a1.toNat (a3)) (by simp (disch := omega) only [fX11_man, fX0_station, within_eq, c_isHour_eq, c_isDay_eq, c_isDayOfYear_eq, c_isPlace_eq, c_isLand_eq, c_isSubject_eq, c_isMarkSet_eq, c_isKind_eq, c_isWeek_eq, in_eq, m_isHour_eq, m_isDay_eq, m_isPlace_eq, m_isLand_eq, b2i_ite, bnk_some, bnd_some, lt_def, mop_s, mop_n, ck_i, ck_x, ck_n, ck_b, gs, if_pos p1, if_pos p2, if_pos p3]) (by simp (disch := omega) only [fX12_man, within_eq, c_isHour_eq, c_isDay_eq, c_isDayOfYear_eq, c_isPlace_eq, c_isLand_eq, c_isSubject_eq, c_isMarkSet_eq, c_isKind_eq, c_isWeek_eq, in_eq, m_isHour_eq, m_isDay_eq, m_isPlace_eq, m_isLand_eq, b2i_ite, bnk_some, bnd_some, lt_def, mop_s, mop_n, ck_i, ck_x, ck_n, ck_b, gs, if_pos p1, if_pos p2, if_pos p3]) ?_
        have hx : Ex [100, 101, 1367, 1368] σ (sI (sI (sI (sI σ 100 0 a1.toNat (a2)) 101 0 a1.toNat (a3)) 1367 0 a1.toNat (a2)) 1368 0 a1.toNat (a3)) := ((((Ex.rf.sI (by decide)).sI (by decide)).sI (by decide)).sI (by decide))
        generalize hs2 : sI (sI (sI (sI σ 100 0 a1.toNat (a2)) 101 0 a1.toNat (a3)) 1367 0 a1.toNat (a2)) 1368 0 a1.toNat (a3) = σ2 at hx
        refine ⟨hT.ex hx (dj_use (by decide)), hW.ex hx (dj_use (by decide)), hS.ex hx (dj_use (by decide)), hF.ex hx (dj_use (by decide)), hY.ex hx (dj_use (by decide)), hA.ex hx (dj_use (by decide)), hL.ex hx (dj_use (by decide)), hG.ex hx (dj_use (by decide)), hE.ex hx (dj_use (by decide)), ?_, hH.ex hx (dj_use (by decide)), hQ.ex hx (dj_use (by decide))⟩
        · have e : ∀ c, c ∉ [100, 101, 1367, 1368] → ∀ j e, gI σ2 c j e = gI σ c j e := fun c hc j e => hx.i hc j e
          refine ⟨fun i hi => ?_, ?_⟩
          · have := y1 i hi
            by_cases q : i = a1.toNat
            · subst q; rw [← hs2]; simp [gI_sI]; omega
            · rw [← hs2]; simp only [gI_sI]; simp [q]; exact this
          · simp only [e 1369 (by decide), e 102 (by decide), e 1370 (by decide), e 1371 (by decide), e 1372 (by decide), e 103 (by decide), e 104 (by decide), e 105 (by decide), e 106 (by decide)]; exact y2
      · skip
        refine opW (r := -2) (σ1 := σ) (σ2 := σ) (by simp (disch := omega) only [fX11_man, fX0_station, within_eq, c_isHour_eq, c_isDay_eq, c_isDayOfYear_eq, c_isPlace_eq, c_isLand_eq, c_isSubject_eq, c_isMarkSet_eq, c_isKind_eq, c_isWeek_eq, in_eq, m_isHour_eq, m_isDay_eq, m_isPlace_eq, m_isLand_eq, b2i_ite, bnk_some, bnd_some, lt_def, mop_s, mop_n, ck_i, ck_x, ck_n, ck_b, gs, if_pos p1, if_pos p2, if_neg p3]) (by simp (disch := omega) only [fX12_man, within_eq, c_isHour_eq, c_isDay_eq, c_isDayOfYear_eq, c_isPlace_eq, c_isLand_eq, c_isSubject_eq, c_isMarkSet_eq, c_isKind_eq, c_isWeek_eq, in_eq, m_isHour_eq, m_isDay_eq, m_isPlace_eq, m_isLand_eq, b2i_ite, bnk_some, bnd_some, lt_def, mop_s, mop_n, ck_i, ck_x, ck_n, ck_b, gs, if_pos p1, if_pos p2, if_neg p3]) ?_
        exact ⟨hT, hW, hS, hF, hY, hA, hL, hG, hE, hC, hH, hQ⟩
    · skip
      refine opW (r := -1) (σ1 := σ) (σ2 := σ) (by simp (disch := omega) only [fX11_man, fX0_station, within_eq, c_isHour_eq, c_isDay_eq, c_isDayOfYear_eq, c_isPlace_eq, c_isLand_eq, c_isSubject_eq, c_isMarkSet_eq, c_isKind_eq, c_isWeek_eq, in_eq, m_isHour_eq, m_isDay_eq, m_isPlace_eq, m_isLand_eq, b2i_ite, bnk_some, bnd_some, lt_def, mop_s, mop_n, ck_i, ck_x, ck_n, ck_b, gs, if_pos p1, if_neg p2]) (by simp (disch := omega) only [fX12_man, within_eq, c_isHour_eq, c_isDay_eq, c_isDayOfYear_eq, c_isPlace_eq, c_isLand_eq, c_isSubject_eq, c_isMarkSet_eq, c_isKind_eq, c_isWeek_eq, in_eq, m_isHour_eq, m_isDay_eq, m_isPlace_eq, m_isLand_eq, b2i_ite, bnk_some, bnd_some, lt_def, mop_s, mop_n, ck_i, ck_x, ck_n, ck_b, gs, if_pos p1, if_neg p2]) ?_
      exact ⟨hT, hW, hS, hF, hY, hA, hL, hG, hE, hC, hH, hQ⟩
  · skip
    refine opW (r := -1) (σ1 := σ) (σ2 := σ) (by simp (disch := omega) only [fX11_man, fX0_station, within_eq, c_isHour_eq, c_isDay_eq, c_isDayOfYear_eq, c_isPlace_eq, c_isLand_eq, c_isSubject_eq, c_isMarkSet_eq, c_isKind_eq, c_isWeek_eq, in_eq, m_isHour_eq, m_isDay_eq, m_isPlace_eq, m_isLand_eq, b2i_ite, bnk_some, bnd_some, lt_def, mop_s, mop_n, ck_i, ck_x, ck_n, ck_b, gs, if_neg p1]) (by simp (disch := omega) only [fX12_man, within_eq, c_isHour_eq, c_isDay_eq, c_isDayOfYear_eq, c_isPlace_eq, c_isLand_eq, c_isSubject_eq, c_isMarkSet_eq, c_isKind_eq, c_isWeek_eq, in_eq, m_isHour_eq, m_isDay_eq, m_isPlace_eq, m_isLand_eq, b2i_ite, bnk_some, bnd_some, lt_def, mop_s, mop_n, ck_i, ck_x, ck_n, ck_b, gs, if_neg p1]) ?_
    exact ⟨hT, hW, hS, hF, hY, hA, hL, hG, hE, hC, hH, hQ⟩
theorem op_46 : OP46 RR := by
  intro a1 ha1 σ hSF hR
  obtain ⟨hT, hW, hS, hF, hY, hA, hL, hG, hE, hC, hH, hQ⟩ := hR
  obtain ⟨y1, y2, y3, y4, y5, y6, y7⟩ := id hH
  by_cases p1 : 0 ≤ a1 ∧ a1 ≤ 8
  · skip
    refine opW (r := gI σ 305 0 0) (σ1 := sI (sI σ 305 0 0 (a1)) 308 0 0 (0)) (σ2 := sI (sI (sI σ 305 0 0 (a1)) 308 0 0 (0)) 1383 0 0 (a1)) (by simp (disch := omega) only [fX11_prints, fX2_changePrints, within_eq, c_isHour_eq, c_isDay_eq, c_isDayOfYear_eq, c_isPlace_eq, c_isLand_eq, c_isSubject_eq, c_isMarkSet_eq, c_isKind_eq, c_isWeek_eq, in_eq, m_isHour_eq, m_isDay_eq, m_isPlace_eq, m_isLand_eq, b2i_ite, bnk_some, bnd_some, lt_def, mop_s, mop_n, ck_i, ck_x, ck_n, ck_b, gs, if_pos p1]) (by simp (disch := omega) only [fX12_prints, within_eq, c_isHour_eq, c_isDay_eq, c_isDayOfYear_eq, c_isPlace_eq, c_isLand_eq, c_isSubject_eq, c_isMarkSet_eq, c_isKind_eq, c_isWeek_eq, in_eq, m_isHour_eq, m_isDay_eq, m_isPlace_eq, m_isLand_eq, b2i_ite, bnk_some, bnd_some, lt_def, mop_s, mop_n, ck_i, ck_x, ck_n, ck_b, gs, if_pos p1, ii, y5]) ?_
    have hx : Ex [305, 308, 1383] σ (sI (sI (sI σ 305 0 0 (a1)) 308 0 0 (0)) 1383 0 0 (a1)) := (((Ex.rf.sI (by decide)).sI (by decide)).sI (by decide))
    generalize hs2 : sI (sI (sI σ 305 0 0 (a1)) 308 0 0 (0)) 1383 0 0 (a1) = σ2 at hx
    refine ⟨hT.ex hx (dj_use (by decide)), hW.ex hx (dj_use (by decide)), hS.ex hx (dj_use (by decide)), hF.ex hx (dj_use (by decide)), hY.ex hx (dj_use (by decide)), hA.ex hx (dj_use (by decide)), hL.ex hx (dj_use (by decide)), hG.ex hx (dj_use (by decide)), hE.ex hx (dj_use (by decide)), hC.ex hx (dj_use (by decide)), ?_, ?_⟩
    · have e : ∀ c, c ∉ [305, 308, 1383] → ∀ j e, gI σ2 c j e = gI σ c j e := fun c hc j e => hx.i hc j e
      have e1 : gI σ2 305 0 0 = a1 := by rw [← hs2]; simp [gI_sI]
      have e2 : gI σ2 1383 0 0 = a1 := by rw [← hs2]; simp [gI_sI]
      have e3 : gI σ2 308 0 0 = 0 := by rw [← hs2]; simp [gI_sI]
      refine ⟨by rw [e 1378 (by decide), e 300 (by decide)]; exact y1, by rw [e 300 (by decide)]; exact y2, ?_, ?_, by rw [e1, e2], by rw [e1]; exact p1, Or.inl e3⟩
      · simp only [e 300 (by decide), e 301 (by decide), e 302 (by decide), e 303 (by decide), e 1379 (by decide), e 1380 (by decide), e 1381 (by decide)]; exact y3
      · simp only [e 304 (by decide), e 1382 (by decide)]; exact y4
    · intro q
      have e3 : gI σ2 308 0 0 = 0 := by rw [← hs2]; simp [gI_sI]
      rw [e3] at q; exact absurd q (by decide)
  · skip
    refine opW (r := -2) (σ1 := σ) (σ2 := σ) (by simp (disch := omega) only [fX11_prints, fX2_changePrints, within_eq, c_isHour_eq, c_isDay_eq, c_isDayOfYear_eq, c_isPlace_eq, c_isLand_eq, c_isSubject_eq, c_isMarkSet_eq, c_isKind_eq, c_isWeek_eq, in_eq, m_isHour_eq, m_isDay_eq, m_isPlace_eq, m_isLand_eq, b2i_ite, bnk_some, bnd_some, lt_def, mop_s, mop_n, ck_i, ck_x, ck_n, ck_b, gs, if_neg p1]) (by simp (disch := omega) only [fX12_prints, within_eq, c_isHour_eq, c_isDay_eq, c_isDayOfYear_eq, c_isPlace_eq, c_isLand_eq, c_isSubject_eq, c_isMarkSet_eq, c_isKind_eq, c_isWeek_eq, in_eq, m_isHour_eq, m_isDay_eq, m_isPlace_eq, m_isLand_eq, b2i_ite, bnk_some, bnd_some, lt_def, mop_s, mop_n, ck_i, ck_x, ck_n, ck_b, gs, if_neg p1]) ?_
    exact ⟨hT, hW, hS, hF, hY, hA, hL, hG, hE, hC, hH, hQ⟩
theorem op_45 : OP45 RR := by
  intro a1 a2 ha1 ha2 σ hSF hR
  obtain ⟨hT, hW, hS, hF, hY, hA, hL, hG, hE, hC, hH, hQ⟩ := hR
  obtain ⟨y1, y2, y3, y4, y5, y6, y7⟩ := id hH
  by_cases p1 : 0 ≤ a1 ∧ a1 ≤ 8
  · skip
    by_cases p2 : 0 ≤ a2 ∧ a2 ≤ 100
    · skip
      refine opW (r := gI σ 304 0 a1.toNat) (σ1 := sI (sI σ 304 0 a1.toNat (a2)) 308 0 0 (0)) (σ2 := sI (sI (sI σ 304 0 a1.toNat (a2)) 308 0 0 (0)) 1382 0 a1.toNat (a2)) (by simp (disch := omega) only [fX11_part, fX2_changePart, within_eq, c_isHour_eq, c_isDay_eq, c_isDayOfYear_eq, c_isPlace_eq, c_isLand_eq, c_isSubject_eq, c_isMarkSet_eq, c_isKind_eq, c_isWeek_eq, in_eq, m_isHour_eq, m_isDay_eq, m_isPlace_eq, m_isLand_eq, b2i_ite, bnk_some, bnd_some, lt_def, mop_s, mop_n, ck_i, ck_x, ck_n, ck_b, gs, if_pos p1, if_pos p2]) (by simp (disch := omega) only [fX12_part, within_eq, c_isHour_eq, c_isDay_eq, c_isDayOfYear_eq, c_isPlace_eq, c_isLand_eq, c_isSubject_eq, c_isMarkSet_eq, c_isKind_eq, c_isWeek_eq, in_eq, m_isHour_eq, m_isDay_eq, m_isPlace_eq, m_isLand_eq, b2i_ite, bnk_some, bnd_some, lt_def, mop_s, mop_n, ck_i, ck_x, ck_n, ck_b, gs, if_pos p1, if_pos p2, ii, (y4 a1.toNat (by omega)).1]) ?_
      have hx : Ex [304, 308, 1382] σ (sI (sI (sI σ 304 0 a1.toNat (a2)) 308 0 0 (0)) 1382 0 a1.toNat (a2)) := (((Ex.rf.sI (by decide)).sI (by decide)).sI (by decide))
      generalize hs2 : sI (sI (sI σ 304 0 a1.toNat (a2)) 308 0 0 (0)) 1382 0 a1.toNat (a2) = σ2 at hx
      refine ⟨hT.ex hx (dj_use (by decide)), hW.ex hx (dj_use (by decide)), hS.ex hx (dj_use (by decide)), hF.ex hx (dj_use (by decide)), hY.ex hx (dj_use (by decide)), hA.ex hx (dj_use (by decide)), hL.ex hx (dj_use (by decide)), hG.ex hx (dj_use (by decide)), hE.ex hx (dj_use (by decide)), hC.ex hx (dj_use (by decide)), ?_, ?_⟩
      · have e : ∀ c, c ∉ [304, 308, 1382] → ∀ j e, gI σ2 c j e = gI σ c j e := fun c hc j e => hx.i hc j e
        have e3 : gI σ2 308 0 0 = 0 := by rw [← hs2]; simp [gI_sI]
        refine ⟨by rw [e 1378 (by decide), e 300 (by decide)]; exact y1, by rw [e 300 (by decide)]; exact y2, ?_, fun i hi => ?_, by rw [e 1383 (by decide), e 305 (by decide)]; exact y5, by rw [e 305 (by decide)]; exact y6, Or.inl e3⟩
        · simp only [e 300 (by decide), e 301 (by decide), e 302 (by decide), e 303 (by decide), e 1379 (by decide), e 1380 (by decide), e 1381 (by decide)]; exact y3
        · have := y4 i hi
          by_cases q : i = a1.toNat
          · subst q; rw [← hs2]; simp [gI_sI]; omega
          · rw [← hs2]; simp only [gI_sI]; simp [q]; exact this
      · intro q
        have e3 : gI σ2 308 0 0 = 0 := by rw [← hs2]; simp [gI_sI]
        rw [e3] at q; exact absurd q (by decide)
    · skip
      refine opW (r := -2) (σ1 := σ) (σ2 := σ) (by simp (disch := omega) only [fX11_part, fX2_changePart, within_eq, c_isHour_eq, c_isDay_eq, c_isDayOfYear_eq, c_isPlace_eq, c_isLand_eq, c_isSubject_eq, c_isMarkSet_eq, c_isKind_eq, c_isWeek_eq, in_eq, m_isHour_eq, m_isDay_eq, m_isPlace_eq, m_isLand_eq, b2i_ite, bnk_some, bnd_some, lt_def, mop_s, mop_n, ck_i, ck_x, ck_n, ck_b, gs, if_pos p1, if_neg p2]) (by simp (disch := omega) only [fX12_part, within_eq, c_isHour_eq, c_isDay_eq, c_isDayOfYear_eq, c_isPlace_eq, c_isLand_eq, c_isSubject_eq, c_isMarkSet_eq, c_isKind_eq, c_isWeek_eq, in_eq, m_isHour_eq, m_isDay_eq, m_isPlace_eq, m_isLand_eq, b2i_ite, bnk_some, bnd_some, lt_def, mop_s, mop_n, ck_i, ck_x, ck_n, ck_b, gs, if_pos p1, if_neg p2]) ?_
      exact ⟨hT, hW, hS, hF, hY, hA, hL, hG, hE, hC, hH, hQ⟩
  · skip
    refine opW (r := -2) (σ1 := σ) (σ2 := σ) (by simp (disch := omega) only [fX11_part, fX2_changePart, within_eq, c_isHour_eq, c_isDay_eq, c_isDayOfYear_eq, c_isPlace_eq, c_isLand_eq, c_isSubject_eq, c_isMarkSet_eq, c_isKind_eq, c_isWeek_eq, in_eq, m_isHour_eq, m_isDay_eq, m_isPlace_eq, m_isLand_eq, b2i_ite, bnk_some, bnd_some, lt_def, mop_s, mop_n, ck_i, ck_x, ck_n, ck_b, gs, if_neg p1]) (by simp (disch := omega) only [fX12_part, within_eq, c_isHour_eq, c_isDay_eq, c_isDayOfYear_eq, c_isPlace_eq, c_isLand_eq, c_isSubject_eq, c_isMarkSet_eq, c_isKind_eq, c_isWeek_eq, in_eq, m_isHour_eq, m_isDay_eq, m_isPlace_eq, m_isLand_eq, b2i_ite, bnk_some, bnd_some, lt_def, mop_s, mop_n, ck_i, ck_x, ck_n, ck_b, gs, if_neg p1]) ?_
    exact ⟨hT, hW, hS, hF, hY, hA, hL, hG, hE, hC, hH, hQ⟩
