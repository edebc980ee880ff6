theorem ft8 : ∀ k t, (ftl 8)[k]? = some t → t ≤ 1 ∨ (t = 2 ∧ k = 4) := by
  intro k t h
  have h2 : k < 8 := (List.getElem?_eq_some_iff.mp h).1
  match k, h2 with
  | 0, _ => left; cases h; decide
  | 1, _ => left; cases h; decide
  | 2, _ => left; cases h; decide
  | 3, _ => left; cases h; decide
  | 4, _ => right; cases h; decide
  | 5, _ => left; cases h; decide
  | 6, _ => left; cases h; decide
  | 7, _ => left; cases h; decide
theorem ft6 : ∀ k t, (ftl 6)[k]? = some t → t ≤ 1 ∨ (t = 2 ∧ k = 2) := by
  intro k t h
  have h2 : k < 4 := (List.getElem?_eq_some_iff.mp h).1
  match k, h2 with
  | 0, _ => left; cases h; decide
  | 1, _ => left; cases h; decide
  | 2, _ => right; cases h; decide
  | 3, _ => left; cases h; decide
theorem op_15 : OP15 RR := by
  intro a1 a2 a3 a4 ha1 ha2 ha3 ha4 σ hSF hR
  obtain ⟨hT, hW, hS, hF, hY, hA, hL, hG, hE, hC, hH, hQ⟩ := id hR
  obtain ⟨y1, y2, y3, y4, y5⟩ := id hY
  by_cases p1 : 0 ≤ a2 ∧ a2 ≤ 7
  · skip
    by_cases p2 : 0 ≤ a1 ∧ a1 ≤ 15
    · skip
      by_cases p3 : 0 ≤ a3 ∧ a3 ≤ 9999
      · skip
        by_cases p4 : 0 ≤ a4 ∧ a4 ≤ 999
        · skip
          by_cases pf : gN σ 8 < 8
          · skip
            have hSF3 : SF (sI (sI (sI (sI (sP (nwA (nwO (σ) 8) 904) 5904 (gN σ 8) 0 (some (gN (nwO σ 8) 904))) 900 (gN σ 8) 0 a1) 901 (gN σ 8) 0 a2) 902 (gN σ 8) 0 a3) 903 (gN σ 8) 0 a4) := by have z := hSF.nwa (K := 8) (k0 := 4) rfl ft8 (by decide) (by decide) hSF.2.2.2.2 (Or.inr ⟨rfl, rfl⟩); exact z
            have h904 : gN σ 904 = gN σ 8 := hSF.2.2.2.2
            have e1 : gI (sI (sI (sI (sI (sP (nwA (nwO (σ) 8) 904) 5904 (gN σ 8) 0 (some (gN (nwO σ 8) 904))) 900 (gN σ 8) 0 a1) 901 (gN σ 8) 0 a2) 902 (gN σ 8) 0 a3) 903 (gN σ 8) 0 a4) 1206 0 0 = (gN σ 8 : Int) := by simp only [gI_sI, gI_sP, gI_nwA, gI_nwO]; simp; exact y2
            have e2 : gI (sI (sP (sI (sI (sI (sI (sP (nwA (nwO (σ) 8) 904) 5904 (gN σ 8) 0 (some (gN (nwO σ 8) 904))) 900 (gN σ 8) 0 a1) 901 (gN σ 8) 0 a2) 902 (gN σ 8) 0 a3) 903 (gN σ 8) 0 a4) 1205 0 (gN σ 8) (some (gN σ 8))) 1206 0 0 ((gN σ 8 : Int) + 1)) 1326 0 0 = (gN σ 8 : Int) := by simp only [gI_sI, gI_sP, gI_nwA, gI_nwO]; simp; exact y1
            refine opW (r := (gN σ 8 : Int)) (σ1 := sI (sP (sI (sI (sI (sI (sP (nwA (nwO (σ) 8) 904) 5904 (gN σ 8) 0 (some (gN (nwO σ 8) 904))) 900 (gN σ 8) 0 a1) 901 (gN σ 8) 0 a2) 902 (gN σ 8) 0 a3) 903 (gN σ 8) 0 a4) 1205 0 (gN σ 8) (some (gN σ 8))) 1206 0 0 ((gN σ 8 : Int) + 1)) (σ2 := sI (sI (sI (sI (sI (sI (sP (sI (sI (sI (sI (sP (nwA (nwO (σ) 8) 904) 5904 (gN σ 8) 0 (some (gN (nwO σ 8) 904))) 900 (gN σ 8) 0 a1) 901 (gN σ 8) 0 a2) 902 (gN σ 8) 0 a3) 903 (gN σ 8) 0 a4) 1205 0 (gN σ 8) (some (gN σ 8))) 1206 0 0 ((gN σ 8 : Int) + 1)) 1327 0 (gN σ 8) a1) 1328 0 (gN σ 8) a2) 1329 0 (gN σ 8) a3) 1330 0 (gN σ 8) a4) 1326 0 0 ((gN σ 8 : Int) + 1)) ?_ ?_ ?_
            · unfold fX11_story
              rw [c_isPlace_eq, bnkI, if_pos (by omega), c_isSubject_eq, bnkI, if_pos (by omega), c_isHour_eq, bnkI, if_pos (by omega), within_eq, bnkI, if_pos (by omega), y2, if_pos (by omega), lt_def, lt_def]
              unfold fX8_init fX8_init_s0 fX8_init_t
              rw [lt_def, lt_def, bnd_some, ckp_pos hSF3]
              unfold fX11_story_t
              rw [e1, ck_x (by omega) (by omega), ck_i (by omega) (by omega), ck_i (by omega) (by omega), Int.add_sub_cancel, Int.toNat_natCast]
            · unfold fX12_story
              rw [m_isPlace_eq, bnkI, if_pos (by omega), in_eq, bnkI, if_pos (by omega), m_isHour_eq, bnkI, if_pos (by omega), in_eq, bnkI, if_pos (by omega), e2, if_neg (by omega)]
              rw [ck_x (by omega) (by omega), ck_x (by omega) (by omega), ck_x (by omega) (by omega), ck_x (by omega) (by omega), ck_i (by omega) (by omega), ck_i (by omega) (by omega), Int.add_sub_cancel, Int.toNat_natCast]
            · have hx : ExC (kc 8 ++ [904, 1205, 1206, 1326, 1327, 1328, 1329, 1330]) σ (sI (sI (sI (sI (sI (sI (sP (sI (sI (sI (sI (sP (nwA (nwO (σ) 8) 904) 5904 (gN σ 8) 0 (some (gN (nwO σ 8) 904))) 900 (gN σ 8) 0 a1) 901 (gN σ 8) 0 a2) 902 (gN σ 8) 0 a3) 903 (gN σ 8) 0 a4) 1205 0 (gN σ 8) (some (gN σ 8))) 1206 0 0 ((gN σ 8 : Int) + 1)) 1327 0 (gN σ 8) a1) 1328 0 (gN σ 8) a2) 1329 0 (gN σ 8) a3) 1330 0 (gN σ 8) a4) 1326 0 0 ((gN σ 8 : Int) + 1)) := ((((((((((((((ExC.rf (S := (kc 8 ++ [904, 1205, 1206, 1326, 1327, 1328, 1329, 1330])) (σ := σ)).nwO (fun c hc => List.mem_append.mpr (Or.inl (kc_mem hc)))).nwA (by decide)).sP (by decide)).sI (by decide)).sI (by decide)).sI (by decide)).sI (by decide)).sP (by decide)).sI (by decide)).sI (by decide)).sI (by decide)).sI (by decide)).sI (by decide)).sI (by decide)
              have hn8 : gN (sI (sI (sI (sI (sI (sI (sP (sI (sI (sI (sI (sP (nwA (nwO (σ) 8) 904) 5904 (gN σ 8) 0 (some (gN (nwO σ 8) 904))) 900 (gN σ 8) 0 a1) 901 (gN σ 8) 0 a2) 902 (gN σ 8) 0 a3) 903 (gN σ 8) 0 a4) 1205 0 (gN σ 8) (some (gN σ 8))) 1206 0 0 ((gN σ 8 : Int) + 1)) 1327 0 (gN σ 8) a1) 1328 0 (gN σ 8) a2) 1329 0 (gN σ 8) a3) 1330 0 (gN σ 8) a4) 1326 0 0 ((gN σ 8 : Int) + 1)) 8 = gN σ 8 + 1 := rfl
              have hn7 : gN (sI (sI (sI (sI (sI (sI (sP (sI (sI (sI (sI (sP (nwA (nwO (σ) 8) 904) 5904 (gN σ 8) 0 (some (gN (nwO σ 8) 904))) 900 (gN σ 8) 0 a1) 901 (gN σ 8) 0 a2) 902 (gN σ 8) 0 a3) 903 (gN σ 8) 0 a4) 1205 0 (gN σ 8) (some (gN σ 8))) 1206 0 0 ((gN σ 8 : Int) + 1)) 1327 0 (gN σ 8) a1) 1328 0 (gN σ 8) a2) 1329 0 (gN σ 8) a3) 1330 0 (gN σ 8) a4) 1326 0 0 ((gN σ 8 : Int) + 1)) 7 = gN σ 7 := rfl
              have hn10 : gN (sI (sI (sI (sI (sI (sI (sP (sI (sI (sI (sI (sP (nwA (nwO (σ) 8) 904) 5904 (gN σ 8) 0 (some (gN (nwO σ 8) 904))) 900 (gN σ 8) 0 a1) 901 (gN σ 8) 0 a2) 902 (gN σ 8) 0 a3) 903 (gN σ 8) 0 a4) 1205 0 (gN σ 8) (some (gN σ 8))) 1206 0 0 ((gN σ 8 : Int) + 1)) 1327 0 (gN σ 8) a1) 1328 0 (gN σ 8) a2) 1329 0 (gN σ 8) a3) 1330 0 (gN σ 8) a4) 1326 0 0 ((gN σ 8 : Int) + 1)) 10 = gN σ 10 := rfl
              have hn6 : gN (sI (sI (sI (sI (sI (sI (sP (sI (sI (sI (sI (sP (nwA (nwO (σ) 8) 904) 5904 (gN σ 8) 0 (some (gN (nwO σ 8) 904))) 900 (gN σ 8) 0 a1) 901 (gN σ 8) 0 a2) 902 (gN σ 8) 0 a3) 903 (gN σ 8) 0 a4) 1205 0 (gN σ 8) (some (gN σ 8))) 1206 0 0 ((gN σ 8 : Int) + 1)) 1327 0 (gN σ 8) a1) 1328 0 (gN σ 8) a2) 1329 0 (gN σ 8) a3) 1330 0 (gN σ 8) a4) 1326 0 0 ((gN σ 8 : Int) + 1)) 6 = gN σ 6 := rfl
              have hn5 : gN (sI (sI (sI (sI (sI (sI (sP (sI (sI (sI (sI (sP (nwA (nwO (σ) 8) 904) 5904 (gN σ 8) 0 (some (gN (nwO σ 8) 904))) 900 (gN σ 8) 0 a1) 901 (gN σ 8) 0 a2) 902 (gN σ 8) 0 a3) 903 (gN σ 8) 0 a4) 1205 0 (gN σ 8) (some (gN σ 8))) 1206 0 0 ((gN σ 8 : Int) + 1)) 1327 0 (gN σ 8) a1) 1328 0 (gN σ 8) a2) 1329 0 (gN σ 8) a3) 1330 0 (gN σ 8) a4) 1326 0 0 ((gN σ 8 : Int) + 1)) 5 = gN σ 5 := rfl
              refine ⟨hT.exc hx (dj_use (by decide +kernel)), hW.exc hx (dj_use (by decide +kernel)) hn10, hS.exc hx (dj_use (by decide +kernel)) hn7, hF.exc hx (dj_use (by decide +kernel)), ?_, hA.exc hx (dj_use (by decide +kernel)), hL.exc hx (dj_use (by decide +kernel)) hn6, hG.exc hx (dj_use (by decide +kernel)) hn5, hE.exc hx (dj_use (by decide +kernel)), hC.exc hx (dj_use (by decide +kernel)), hH.exc hx (dj_use (by decide +kernel)), hQ.exc hx (dj_use (by decide +kernel))⟩
              refine ⟨?_, ?_, by rw [hn8]; omega, fun i hi => ?_, fun i hi => ?_⟩
              · rw [hn8]; simp only [gI_sI]; simp
              · rw [hn8]; simp only [gI_sI]; simp
              · rw [hn8] at hi
                unfold RY1
                by_cases q : i = gN σ 8
                · subst q
                  obtain ⟨u1, u2, u3⟩ := y5 (gN σ 8) (Nat.le_refl _)
                  simp only [gP_sI, gP_sP, gI_sI, gI_sP, gI_nwA, gI_nwO, gP_nwA, gP_nwO]
                  simp [show la 905 = none from rfl, show la 906 = none from rfl, show la 907 = none from rfl]
                  refine ⟨u1, u2, u3, by omega, by omega, by omega, by omega, fun e he => ?_⟩
                  omega
                · have := y4 i (by omega)
                  unfold RY1 at this
                  rw [hn7]
                  simp only [gP_sI, gP_sP, gI_sI, gI_sP, gI_nwA, gI_nwO, gP_nwA, gP_nwO, gN_nwO]
                  simp [q, h904]
                  simpa using this
              · rw [hn8] at hi
                have := y5 i (by omega)
                simp only [gP_sI, gP_sP, gI_sI, gI_sP, gI_nwA, gI_nwO, gP_nwO]
                simp
                exact this
          · refine opW (r := -4) (σ1 := σ) (σ2 := σ) ?_ ?_ hR
            · unfold fX11_story
              rw [c_isPlace_eq, bnkI, if_pos (by omega), c_isSubject_eq, bnkI, if_pos (by omega), c_isHour_eq, bnkI, if_pos (by omega), within_eq, bnkI, if_pos (by omega), y2, if_neg (by omega)]
            · unfold fX12_story
              rw [m_isPlace_eq, bnkI, if_pos (by omega), in_eq, bnkI, if_pos (by omega), m_isHour_eq, bnkI, if_pos (by omega), in_eq, bnkI, if_pos (by omega), y1, if_pos (by omega)]
        · refine opW (r := -2) (σ1 := σ) (σ2 := σ) ?_ ?_ hR
          · unfold fX11_story
            rw [c_isPlace_eq, bnkI, if_pos (by omega), c_isSubject_eq, bnkI, if_pos (by omega), c_isHour_eq, bnkI, if_pos (by omega), within_eq, bnkI, if_neg (by omega)]
          · unfold fX12_story
            rw [m_isPlace_eq, bnkI, if_pos (by omega), in_eq, bnkI, if_pos (by omega), m_isHour_eq, bnkI, if_pos (by omega), in_eq, bnkI, if_neg (by omega)]
      · refine opW (r := -2) (σ1 := σ) (σ2 := σ) ?_ ?_ hR
        · unfold fX11_story
          rw [c_isPlace_eq, bnkI, if_pos (by omega), c_isSubject_eq, bnkI, if_pos (by omega), c_isHour_eq, bnkI, if_neg (by omega)]
        · unfold fX12_story
          rw [m_isPlace_eq, bnkI, if_pos (by omega), in_eq, bnkI, if_pos (by omega), m_isHour_eq, bnkI, if_neg (by omega)]
    · refine opW (r := -2) (σ1 := σ) (σ2 := σ) ?_ ?_ hR
      · unfold fX11_story
        rw [c_isPlace_eq, bnkI, if_pos (by omega), c_isSubject_eq, bnkI, if_neg (by omega)]
      · unfold fX12_story
        rw [m_isPlace_eq, bnkI, if_pos (by omega), in_eq, bnkI, if_neg (by omega)]
  · refine opW (r := -1) (σ1 := σ) (σ2 := σ) ?_ ?_ hR
    · unfold fX11_story
      rw [c_isPlace_eq, bnkI, if_neg (by omega)]
    · unfold fX12_story
      rw [m_isPlace_eq, bnkI, if_neg (by omega)]
theorem op_24 : OP24 RR := by
  intro a1 ha1 σ hSF hR
  obtain ⟨hT, hW, hS, hF, hY, hA, hL, hG, hE, hC, hH, hQ⟩ := id hR
  obtain ⟨y1, y2, y3, y4, y5⟩ := id hL
  by_cases p1 : 0 ≤ a1 ∧ a1 ≤ 416
  · skip
    by_cases pf : gN σ 6 < 6
    · skip
      have hSF3 : SF (sI (sP (nwA (sI (nwO (σ) 6) 701 (gN σ 6) 0 1000000) 702) 5702 (gN σ 6) 0 (some (gN (sI (nwO σ 6) 701 (gN σ 6) 0 1000000) 702))) 700 (gN σ 6) 0 a1) := by have z := hSF.nwa (K := 6) (k0 := 2) rfl ft6 (by decide) (by decide) hSF.2.2.2.1 (Or.inl ⟨rfl, rfl⟩); exact z
      have h702 : gN σ 702 = gN σ 6 := hSF.2.2.2.1
      have e1 : gI (sI (sP (nwA (sI (nwO (σ) 6) 701 (gN σ 6) 0 1000000) 702) 5702 (gN σ 6) 0 (some (gN (sI (nwO σ 6) 701 (gN σ 6) 0 1000000) 702))) 700 (gN σ 6) 0 a1) 1210 0 0 = (gN σ 6 : Int) := by simp only [gI_sI, gI_sP, gI_nwA, gI_nwO]; simp; exact y2
      have e2 : gI (sI (sP (sI (sP (nwA (sI (nwO (σ) 6) 701 (gN σ 6) 0 1000000) 702) 5702 (gN σ 6) 0 (some (gN (sI (nwO σ 6) 701 (gN σ 6) 0 1000000) 702))) 700 (gN σ 6) 0 a1) 1209 0 (gN σ 6) (some (gN σ 6))) 1210 0 0 ((gN σ 6 : Int) + 1)) 1337 0 0 = (gN σ 6 : Int) := by simp only [gI_sI, gI_sP, gI_nwA, gI_nwO]; simp; exact y1
      refine opW (r := (gN σ 6 : Int)) (σ1 := sI (sP (sI (sP (nwA (sI (nwO (σ) 6) 701 (gN σ 6) 0 1000000) 702) 5702 (gN σ 6) 0 (some (gN (sI (nwO σ 6) 701 (gN σ 6) 0 1000000) 702))) 700 (gN σ 6) 0 a1) 1209 0 (gN σ 6) (some (gN σ 6))) 1210 0 0 ((gN σ 6 : Int) + 1)) (σ2 := sI (sI (sI (sI (sP (sI (sP (nwA (sI (nwO (σ) 6) 701 (gN σ 6) 0 1000000) 702) 5702 (gN σ 6) 0 (some (gN (sI (nwO σ 6) 701 (gN σ 6) 0 1000000) 702))) 700 (gN σ 6) 0 a1) 1209 0 (gN σ 6) (some (gN σ 6))) 1210 0 0 ((gN σ 6 : Int) + 1)) 1338 0 (gN σ 6) a1) 1339 0 (gN σ 6) (-9)) 1337 0 0 ((gN σ 6 : Int) + 1)) ?_ ?_ ?_
      · unfold fX11_rule
        rw [c_isDay_eq, bnkI, if_pos (by omega), y2, if_pos (by omega), lt_def, lt_def]
        unfold fX6_init fX6_init_s0 fX6_init_t
        rw [lt_def, lt_def, bnd_some, ckp_pos hSF3]
        unfold fX11_rule_t
        rw [e1, ck_x (by omega) (by omega), ck_i (by omega) (by omega), ck_i (by omega) (by omega), Int.add_sub_cancel, Int.toNat_natCast]
      · unfold fX12_rule
        rw [m_isDay_eq, bnkI, if_pos (by omega), e2, if_neg (by omega)]
        rw [ck_x (by omega) (by omega), ck_x (by omega) (by omega), ck_i (by omega) (by omega), ck_i (by omega) (by omega), Int.add_sub_cancel, Int.toNat_natCast]
      · have hx : ExC (kc 6 ++ [702, 1209, 1210, 1337, 1338, 1339]) σ (sI (sI (sI (sI (sP (sI (sP (nwA (sI (nwO (σ) 6) 701 (gN σ 6) 0 1000000) 702) 5702 (gN σ 6) 0 (some (gN (sI (nwO σ 6) 701 (gN σ 6) 0 1000000) 702))) 700 (gN σ 6) 0 a1) 1209 0 (gN σ 6) (some (gN σ 6))) 1210 0 0 ((gN σ 6 : Int) + 1)) 1338 0 (gN σ 6) a1) 1339 0 (gN σ 6) (-9)) 1337 0 0 ((gN σ 6 : Int) + 1)) := ((((((((((ExC.rf (S := (kc 6 ++ [702, 1209, 1210, 1337, 1338, 1339])) (σ := σ)).nwO (fun c hc => List.mem_append.mpr (Or.inl (kc_mem hc)))).sI (by decide)).nwA (by decide)).sP (by decide)).sI (by decide)).sP (by decide)).sI (by decide)).sI (by decide)).sI (by decide)).sI (by decide)
        have hn6 : gN (sI (sI (sI (sI (sP (sI (sP (nwA (sI (nwO (σ) 6) 701 (gN σ 6) 0 1000000) 702) 5702 (gN σ 6) 0 (some (gN (sI (nwO σ 6) 701 (gN σ 6) 0 1000000) 702))) 700 (gN σ 6) 0 a1) 1209 0 (gN σ 6) (some (gN σ 6))) 1210 0 0 ((gN σ 6 : Int) + 1)) 1338 0 (gN σ 6) a1) 1339 0 (gN σ 6) (-9)) 1337 0 0 ((gN σ 6 : Int) + 1)) 6 = gN σ 6 + 1 := rfl
        have hn7 : gN (sI (sI (sI (sI (sP (sI (sP (nwA (sI (nwO (σ) 6) 701 (gN σ 6) 0 1000000) 702) 5702 (gN σ 6) 0 (some (gN (sI (nwO σ 6) 701 (gN σ 6) 0 1000000) 702))) 700 (gN σ 6) 0 a1) 1209 0 (gN σ 6) (some (gN σ 6))) 1210 0 0 ((gN σ 6 : Int) + 1)) 1338 0 (gN σ 6) a1) 1339 0 (gN σ 6) (-9)) 1337 0 0 ((gN σ 6 : Int) + 1)) 7 = gN σ 7 := rfl
        have hn10 : gN (sI (sI (sI (sI (sP (sI (sP (nwA (sI (nwO (σ) 6) 701 (gN σ 6) 0 1000000) 702) 5702 (gN σ 6) 0 (some (gN (sI (nwO σ 6) 701 (gN σ 6) 0 1000000) 702))) 700 (gN σ 6) 0 a1) 1209 0 (gN σ 6) (some (gN σ 6))) 1210 0 0 ((gN σ 6 : Int) + 1)) 1338 0 (gN σ 6) a1) 1339 0 (gN σ 6) (-9)) 1337 0 0 ((gN σ 6 : Int) + 1)) 10 = gN σ 10 := rfl
        have hn8 : gN (sI (sI (sI (sI (sP (sI (sP (nwA (sI (nwO (σ) 6) 701 (gN σ 6) 0 1000000) 702) 5702 (gN σ 6) 0 (some (gN (sI (nwO σ 6) 701 (gN σ 6) 0 1000000) 702))) 700 (gN σ 6) 0 a1) 1209 0 (gN σ 6) (some (gN σ 6))) 1210 0 0 ((gN σ 6 : Int) + 1)) 1338 0 (gN σ 6) a1) 1339 0 (gN σ 6) (-9)) 1337 0 0 ((gN σ 6 : Int) + 1)) 8 = gN σ 8 := rfl
        have hn5 : gN (sI (sI (sI (sI (sP (sI (sP (nwA (sI (nwO (σ) 6) 701 (gN σ 6) 0 1000000) 702) 5702 (gN σ 6) 0 (some (gN (sI (nwO σ 6) 701 (gN σ 6) 0 1000000) 702))) 700 (gN σ 6) 0 a1) 1209 0 (gN σ 6) (some (gN σ 6))) 1210 0 0 ((gN σ 6 : Int) + 1)) 1338 0 (gN σ 6) a1) 1339 0 (gN σ 6) (-9)) 1337 0 0 ((gN σ 6 : Int) + 1)) 5 = gN σ 5 := rfl
        have hm7 : gN σ 7 ≤ gN (sI (sI (sI (sI (sP (sI (sP (nwA (sI (nwO (σ) 6) 701 (gN σ 6) 0 1000000) 702) 5702 (gN σ 6) 0 (some (gN (sI (nwO σ 6) 701 (gN σ 6) 0 1000000) 702))) 700 (gN σ 6) 0 a1) 1209 0 (gN σ 6) (some (gN σ 6))) 1210 0 0 ((gN σ 6 : Int) + 1)) 1338 0 (gN σ 6) a1) 1339 0 (gN σ 6) (-9)) 1337 0 0 ((gN σ 6 : Int) + 1)) 7 := Nat.le_refl _
        refine ⟨hT.exc hx (dj_use (by decide +kernel)), hW.exc hx (dj_use (by decide +kernel)) hn10, hS.exc hx (dj_use (by decide +kernel)) hn7, hF.exc hx (dj_use (by decide +kernel)), hY.exc hx (dj_use (by decide +kernel)) hn8 hm7, hA.exc hx (dj_use (by decide +kernel)), ?_, hG.exc hx (dj_use (by decide +kernel)) hn5, hE.exc hx (dj_use (by decide +kernel)), hC.exc hx (dj_use (by decide +kernel)), hH.exc hx (dj_use (by decide +kernel)), hQ.exc hx (dj_use (by decide +kernel))⟩
        refine ⟨?_, ?_, by rw [hn6]; omega, fun i hi => ?_, fun i hi => ?_⟩
        · rw [hn6]; simp only [gI_sI]; simp
        · rw [hn6]; simp only [gI_sI]; simp
        · rw [hn6] at hi
          unfold RL1 RX
          by_cases q : i = gN σ 6
          · subst q
            have u1 := y5 (gN σ 6) (Nat.le_refl _)
            simp only [gP_sI, gP_sP, gI_sI, gI_sP, gI_nwA, gI_nwO, gP_nwA, gP_nwO]
            simp [show la 703 = none from rfl]
            refine ⟨by omega, u1, fun e he => ?_⟩
            omega
          · have := y4 i (by omega)
            unfold RL1 RX at this
            simp only [gP_sI, gP_sP, gI_sI, gI_sP, gI_nwA, gI_nwO, gP_nwA, gP_nwO, gN_nwO, gN_sI]
            simp [q, h702]
            simpa using this
        · rw [hn6] at hi
          have := y5 i (by omega)
          simp only [gP_sI, gP_sP, gI_sI, gI_sP, gI_nwA, gI_nwO, gP_nwO]
          simp
          exact this
    · refine opW (r := -4) (σ1 := σ) (σ2 := σ) ?_ ?_ hR
      · unfold fX11_rule
        rw [c_isDay_eq, bnkI, if_pos (by omega), y2, if_neg (by omega)]
      · unfold fX12_rule
        rw [m_isDay_eq, bnkI, if_pos (by omega), y1, if_pos (by omega)]
  · refine opW (r := -2) (σ1 := σ) (σ2 := σ) ?_ ?_ hR
    · unfold fX11_rule
      rw [c_isDay_eq, bnkI, if_neg (by omega)]
    · unfold fX12_rule
      rw [m_isDay_eq, bnkI, if_neg (by omega)]
theorem op_30 : OP30 RR := by
  intro a1 a2 a3 a4 a5 ha1 ha2 ha3 ha4 ha5 σ hSF hR
  obtain ⟨hT, hW, hS, hF, hY, hA, hL, hG, hE, hC, hH, hQ⟩ := id hR
  obtain ⟨g1, g2, g3, g4, g5, g6⟩ := id hG
  by_cases p : (0 ≤ a1 ∧ a1 ≤ 15) ∧ (0 ≤ a2 ∧ a2 ≤ 31) ∧ (1 ≤ a5 ∧ a5 ≤ 99) ∧ (0 ≤ a3 ∧ a3 ≤ 416) ∧ (0 ≤ a4 ∧ a4 ≤ 416) ∧ a3 ≤ a4
  · by_cases pf : gN σ 5 < 8
    · have hSF3 : SF (sI (sI (sI (sI (sI (nwO (σ) 5) 600 (gN σ 5) 0 a1) 601 (gN σ 5) 0 a2) 602 (gN σ 5) 0 a3) 603 (gN σ 5) 0 a4) 604 (gN σ 5) 0 a5) := hSF.nw (K := 5) (by decide) (by decide) (by decide)
      have e1 : gI (sI (sI (sI (sI (sI (nwO (σ) 5) 600 (gN σ 5) 0 a1) 601 (gN σ 5) 0 a2) 602 (gN σ 5) 0 a3) 603 (gN σ 5) 0 a4) 604 (gN σ 5) 0 a5) 1214 0 0 = (gN σ 5 : Int) := by simp only [gI_sI, gI_nwO]; simp; exact g2
      have e2 : gI (sI (sP (sI (sI (sI (sI (sI (nwO (σ) 5) 600 (gN σ 5) 0 a1) 601 (gN σ 5) 0 a2) 602 (gN σ 5) 0 a3) 603 (gN σ 5) 0 a4) 604 (gN σ 5) 0 a5) 1213 0 (gN σ 5) (some (gN σ 5))) 1214 0 0 ((gN σ 5 : Int) + 1)) 1349 0 0 = (gN σ 5 : Int) := by simp only [gI_sI, gI_sP, gI_nwO]; simp; exact g1
      refine opW (r := (gN σ 5 : Int)) (σ1 := sI (sP (sI (sI (sI (sI (sI (nwO (σ) 5) 600 (gN σ 5) 0 a1) 601 (gN σ 5) 0 a2) 602 (gN σ 5) 0 a3) 603 (gN σ 5) 0 a4) 604 (gN σ 5) 0 a5) 1213 0 (gN σ 5) (some (gN σ 5))) 1214 0 0 ((gN σ 5 : Int) + 1)) (σ2 := sI (sI (sI (sI (sI (sI (sI (sP (sI (sI (sI (sI (sI (nwO (σ) 5) 600 (gN σ 5) 0 a1) 601 (gN σ 5) 0 a2) 602 (gN σ 5) 0 a3) 603 (gN σ 5) 0 a4) 604 (gN σ 5) 0 a5) 1213 0 (gN σ 5) (some (gN σ 5))) 1214 0 0 ((gN σ 5 : Int) + 1)) 1350 0 (gN σ 5) a1) 1351 0 (gN σ 5) a2) 1352 0 (gN σ 5) a3) 1353 0 (gN σ 5) a4) 1354 0 (gN σ 5) a5) 1349 0 0 ((gN σ 5 : Int) + 1)) ?_ ?_ ?_
      · unfold fX11_right
        rw [c_isSubject_eq, bnkI, if_pos (by omega), within_eq, bnkI, if_pos (by omega), within_eq, bnkI, if_pos (by omega), c_isDay_eq, bnkI, if_pos (by omega), c_isDay_eq, bnkI, if_pos (by omega), if_pos (by omega), g2, if_pos (by omega), lt_def, lt_def]
        unfold fX5_init fX5_init_s0 fX5_init_t
        rw [bnd_some, ckp_pos hSF3]
        unfold fX11_right_t
        rw [e1, ck_x (by omega) (by omega), ck_i (by omega) (by omega), ck_i (by omega) (by omega), Int.add_sub_cancel, Int.toNat_natCast]
      · unfold fX12_right
        rw [in_eq, bnkI, if_pos (by omega), in_eq, bnkI, if_pos (by omega), m_isDay_eq, bnkI, if_pos (by omega), in_eq, bnkI, if_pos (by omega), in_eq, bnkI, if_pos (by omega), e2, if_neg (by omega)]
        rw [ck_x (by omega) (by omega), ck_x (by omega) (by omega), ck_x (by omega) (by omega), ck_x (by omega) (by omega), ck_x (by omega) (by omega), ck_i (by omega) (by omega), ck_i (by omega) (by omega), Int.add_sub_cancel, Int.toNat_natCast]
      · have hx : ExC (kc 5 ++ [1213, 1214, 1349, 1350, 1351, 1352, 1353, 1354]) σ (sI (sI (sI (sI (sI (sI (sI (sP (sI (sI (sI (sI (sI (nwO (σ) 5) 600 (gN σ 5) 0 a1) 601 (gN σ 5) 0 a2) 602 (gN σ 5) 0 a3) 603 (gN σ 5) 0 a4) 604 (gN σ 5) 0 a5) 1213 0 (gN σ 5) (some (gN σ 5))) 1214 0 0 ((gN σ 5 : Int) + 1)) 1350 0 (gN σ 5) a1) 1351 0 (gN σ 5) a2) 1352 0 (gN σ 5) a3) 1353 0 (gN σ 5) a4) 1354 0 (gN σ 5) a5) 1349 0 0 ((gN σ 5 : Int) + 1)) := ((((((((((((((ExC.rf (S := (kc 5 ++ [1213, 1214, 1349, 1350, 1351, 1352, 1353, 1354])) (σ := σ)).nwO (fun c hc => List.mem_append.mpr (Or.inl (kc_mem hc)))).sI (by decide)).sI (by decide)).sI (by decide)).sI (by decide)).sI (by decide)).sP (by decide)).sI (by decide)).sI (by decide)).sI (by decide)).sI (by decide)).sI (by decide)).sI (by decide)).sI (by decide)
        have hn5 : gN (sI (sI (sI (sI (sI (sI (sI (sP (sI (sI (sI (sI (sI (nwO (σ) 5) 600 (gN σ 5) 0 a1) 601 (gN σ 5) 0 a2) 602 (gN σ 5) 0 a3) 603 (gN σ 5) 0 a4) 604 (gN σ 5) 0 a5) 1213 0 (gN σ 5) (some (gN σ 5))) 1214 0 0 ((gN σ 5 : Int) + 1)) 1350 0 (gN σ 5) a1) 1351 0 (gN σ 5) a2) 1352 0 (gN σ 5) a3) 1353 0 (gN σ 5) a4) 1354 0 (gN σ 5) a5) 1349 0 0 ((gN σ 5 : Int) + 1)) 5 = gN σ 5 + 1 := rfl
        have hn7 : gN (sI (sI (sI (sI (sI (sI (sI (sP (sI (sI (sI (sI (sI (nwO (σ) 5) 600 (gN σ 5) 0 a1) 601 (gN σ 5) 0 a2) 602 (gN σ 5) 0 a3) 603 (gN σ 5) 0 a4) 604 (gN σ 5) 0 a5) 1213 0 (gN σ 5) (some (gN σ 5))) 1214 0 0 ((gN σ 5 : Int) + 1)) 1350 0 (gN σ 5) a1) 1351 0 (gN σ 5) a2) 1352 0 (gN σ 5) a3) 1353 0 (gN σ 5) a4) 1354 0 (gN σ 5) a5) 1349 0 0 ((gN σ 5 : Int) + 1)) 7 = gN σ 7 := rfl
        have hn10 : gN (sI (sI (sI (sI (sI (sI (sI (sP (sI (sI (sI (sI (sI (nwO (σ) 5) 600 (gN σ 5) 0 a1) 601 (gN σ 5) 0 a2) 602 (gN σ 5) 0 a3) 603 (gN σ 5) 0 a4) 604 (gN σ 5) 0 a5) 1213 0 (gN σ 5) (some (gN σ 5))) 1214 0 0 ((gN σ 5 : Int) + 1)) 1350 0 (gN σ 5) a1) 1351 0 (gN σ 5) a2) 1352 0 (gN σ 5) a3) 1353 0 (gN σ 5) a4) 1354 0 (gN σ 5) a5) 1349 0 0 ((gN σ 5 : Int) + 1)) 10 = gN σ 10 := rfl
        have hn8 : gN (sI (sI (sI (sI (sI (sI (sI (sP (sI (sI (sI (sI (sI (nwO (σ) 5) 600 (gN σ 5) 0 a1) 601 (gN σ 5) 0 a2) 602 (gN σ 5) 0 a3) 603 (gN σ 5) 0 a4) 604 (gN σ 5) 0 a5) 1213 0 (gN σ 5) (some (gN σ 5))) 1214 0 0 ((gN σ 5 : Int) + 1)) 1350 0 (gN σ 5) a1) 1351 0 (gN σ 5) a2) 1352 0 (gN σ 5) a3) 1353 0 (gN σ 5) a4) 1354 0 (gN σ 5) a5) 1349 0 0 ((gN σ 5 : Int) + 1)) 8 = gN σ 8 := rfl
        have hn6 : gN (sI (sI (sI (sI (sI (sI (sI (sP (sI (sI (sI (sI (sI (nwO (σ) 5) 600 (gN σ 5) 0 a1) 601 (gN σ 5) 0 a2) 602 (gN σ 5) 0 a3) 603 (gN σ 5) 0 a4) 604 (gN σ 5) 0 a5) 1213 0 (gN σ 5) (some (gN σ 5))) 1214 0 0 ((gN σ 5 : Int) + 1)) 1350 0 (gN σ 5) a1) 1351 0 (gN σ 5) a2) 1352 0 (gN σ 5) a3) 1353 0 (gN σ 5) a4) 1354 0 (gN σ 5) a5) 1349 0 0 ((gN σ 5 : Int) + 1)) 6 = gN σ 6 := rfl
        have hm7 : gN σ 7 ≤ gN (sI (sI (sI (sI (sI (sI (sI (sP (sI (sI (sI (sI (sI (nwO (σ) 5) 600 (gN σ 5) 0 a1) 601 (gN σ 5) 0 a2) 602 (gN σ 5) 0 a3) 603 (gN σ 5) 0 a4) 604 (gN σ 5) 0 a5) 1213 0 (gN σ 5) (some (gN σ 5))) 1214 0 0 ((gN σ 5 : Int) + 1)) 1350 0 (gN σ 5) a1) 1351 0 (gN σ 5) a2) 1352 0 (gN σ 5) a3) 1353 0 (gN σ 5) a4) 1354 0 (gN σ 5) a5) 1349 0 0 ((gN σ 5 : Int) + 1)) 7 := Nat.le_refl _
        refine ⟨hT.exc hx (dj_use (by decide +kernel)), hW.exc hx (dj_use (by decide +kernel)) hn10, hS.exc hx (dj_use (by decide +kernel)) hn7, hF.exc hx (dj_use (by decide +kernel)), hY.exc hx (dj_use (by decide +kernel)) hn8 hm7, hA.exc hx (dj_use (by decide +kernel)), hL.exc hx (dj_use (by decide +kernel)) hn6, ?_, hE.exc hx (dj_use (by decide +kernel)), hC.exc hx (dj_use (by decide +kernel)), hH.exc hx (dj_use (by decide +kernel)), hQ.exc hx (dj_use (by decide +kernel))⟩
        refine ⟨?_, ?_, by rw [hn5]; omega, fun i hi => ?_, ?_, ?_⟩
        · rw [hn5]; simp only [gI_sI]; simp
        · rw [hn5]; simp only [gI_sI]; simp
        · rw [hn5] at hi
          unfold RG1
          by_cases q : i = gN σ 5
          · subst q
            simp only [gP_sI, gP_sP, gI_sI, gI_sP, gI_nwO, gP_nwO]
            simp
            omega
          · have := g4 i (by omega)
            unfold RG1 at this
            simp only [gP_sI, gP_sP, gI_sI, gI_sP, gI_nwO, gP_nwO]
            simp [q]
            simpa using this
        · simp only [gI_sI, gI_sP, gI_nwO]
          simp
          exact g5
        · simp only [gI_sI, gI_sP, gI_nwO]
          simp
          exact g6
    · refine opW (r := -4) (σ1 := σ) (σ2 := σ) ?_ ?_ hR
      · unfold fX11_right
        rw [c_isSubject_eq, bnkI, if_pos (by omega), within_eq, bnkI, if_pos (by omega), within_eq, bnkI, if_pos (by omega), c_isDay_eq, bnkI, if_pos (by omega), c_isDay_eq, bnkI, if_pos (by omega), if_pos (by omega), g2, if_neg (by omega)]
      · unfold fX12_right
        rw [in_eq, bnkI, if_pos (by omega), in_eq, bnkI, if_pos (by omega), m_isDay_eq, bnkI, if_pos (by omega), in_eq, bnkI, if_pos (by omega), in_eq, bnkI, if_pos (by omega), g1, if_pos (by omega)]
  · refine opW (r := -2) (σ1 := σ) (σ2 := σ) ?_ ?_ hR
    · unfold fX11_right
      rw [c_isSubject_eq, bnkI]
      split
      · rw [within_eq, bnkI]
        split
        · rw [within_eq, bnkI]
          split
          · rw [c_isDay_eq, bnkI]
            split
            · rw [c_isDay_eq, bnkI]
              split
              · rw [if_neg (by omega)]
              · rfl
            · rfl
          · rfl
        · rfl
      · rfl
    · unfold fX12_right
      rw [in_eq, bnkI]
      split
      · rw [in_eq, bnkI]
        split
        · rw [m_isDay_eq, bnkI]
          split
          · rw [in_eq, bnkI]
            split
            · rw [in_eq, bnkI, if_neg (by omega)]
            · rfl
          · rfl
        · rfl
      · rfl
