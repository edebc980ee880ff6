theorem ExC.rf {S : List Nat} {σ : St} : ExC S σ σ := fun _ _ _ _ => ⟨rfl, rfl, rfl⟩
theorem RT.exc {S : List Nat} {σ σ2 : St} (h : RT σ) (hx : ExC S σ σ2) (hd : ∀ c ∈ cRT, c ∉ S)  : RT σ2 := by have z := h.ex hx.ex hd; exact z
theorem RW.exc {S : List Nat} {σ σ2 : St} (h : RW σ) (hx : ExC S σ σ2) (hd : ∀ c ∈ cRW, c ∉ S) (e : gN σ2 10 = gN σ 10) : RW σ2 := RW.cn (h.ex hx.ex hd) e
theorem RS.exc {S : List Nat} {σ σ2 : St} (h : RS σ) (hx : ExC S σ σ2) (hd : ∀ c ∈ cRS, c ∉ S) (e : gN σ2 7 = gN σ 7) : RS σ2 := RS.cn (h.ex hx.ex hd) e
theorem RF.exc {S : List Nat} {σ σ2 : St} (h : RF σ) (hx : ExC S σ σ2) (hd : ∀ c ∈ cRF, c ∉ S)  : RF σ2 := by have z := h.ex hx.ex hd; exact z
theorem RY.exc {S : List Nat} {σ σ2 : St} (h : RY σ) (hx : ExC S σ σ2) (hd : ∀ c ∈ cRY, c ∉ S) (e : gN σ2 8 = gN σ 8) (e7 : gN σ 7 ≤ gN σ2 7) : RY σ2 := RY.cn (h.ex hx.ex hd) e e7
theorem RA.exc {S : List Nat} {σ σ2 : St} (h : RA σ) (hx : ExC S σ σ2) (hd : ∀ c ∈ cRA, c ∉ S)  : RA σ2 := by have z := h.ex hx.ex hd; exact z
theorem RL_.exc {S : List Nat} {σ σ2 : St} (h : RL_ σ) (hx : ExC S σ σ2) (hd : ∀ c ∈ cRL_, c ∉ S) (e : gN σ2 6 = gN σ 6) : RL_ σ2 := RL_.cn (h.ex hx.ex hd) e
theorem RG.exc {S : List Nat} {σ σ2 : St} (h : RG σ) (hx : ExC S σ σ2) (hd : ∀ c ∈ cRG, c ∉ S) (e : gN σ2 5 = gN σ 5) : RG σ2 := RG.cn (h.ex hx.ex hd) e
theorem RE.exc {S : List Nat} {σ σ2 : St} (h : RE σ) (hx : ExC S σ σ2) (hd : ∀ c ∈ cRE, c ∉ S)  : RE σ2 := by have z := h.ex hx.ex hd; exact z
theorem RC.exc {S : List Nat} {σ σ2 : St} (h : RC σ) (hx : ExC S σ σ2) (hd : ∀ c ∈ cRC, c ∉ S)  : RC σ2 := by have z := h.ex hx.ex hd; exact z
theorem RH.exc {S : List Nat} {σ σ2 : St} (h : RH σ) (hx : ExC S σ σ2) (hd : ∀ c ∈ cRH, c ∉ S)  : RH σ2 := by have z := h.ex hx.ex hd; exact z
theorem RQ.exc {S : List Nat} {σ σ2 : St} (h : RQ σ) (hx : ExC S σ σ2) (hd : ∀ c ∈ cRQ, c ∉ S)  : RQ σ2 := by have z := h.ex hx.ex hd; exact z
theorem op_1 : OP1 RR := by
  intro a1 a2 a3 a4 a5 a6 ha1 ha2 ha3 ha4 ha5 ha6 σ hSF hR
  obtain ⟨hT, hW, hS, hF, hY, hA, hL, hG, hE, hC, hH, hQ⟩ := id hR
  obtain ⟨w1, w2, w3, w4, w5⟩ := id hW
  by_cases p1 : 0 ≤ a1 ∧ a1 ≤ 7
  · skip
    by_cases p2 : 0 ≤ a2 ∧ a2 ≤ 7
    · skip
      by_cases p3 : 0 ≤ a3 ∧ a3 ≤ 9999
      · skip
        by_cases p4 : 1 ≤ a4 ∧ a4 ≤ 500
        · skip
          by_cases p5 : 1 ≤ a5 ∧ a5 ≤ 500
          · skip
            by_cases p6 : 0 ≤ a6 ∧ a6 ≤ 200
            · skip
              by_cases p7 : ¬ a1 = a2
              · skip
                by_cases pf : gN σ 10 < 24
                · skip
                  have hSF3 : SF (sI (sI (sI (sI (sI (sI (nwO (σ) 10) 1100 (gN σ 10) 0 a1) 1101 (gN σ 10) 0 a2) 1102 (gN σ 10) 0 a3) 1103 (gN σ 10) 0 a4) 1104 (gN σ 10) 0 a5) 1105 (gN σ 10) 0 a6) := hSF.nw (K := 10) (by decide) (by decide) (by decide)
                  have e1 : gI (sI (sI (sI (sI (sI (sI (nwO (σ) 10) 1100 (gN σ 10) 0 a1) 1101 (gN σ 10) 0 a2) 1102 (gN σ 10) 0 a3) 1103 (gN σ 10) 0 a4) 1104 (gN σ 10) 0 a5) 1105 (gN σ 10) 0 a6) 1001 0 0 = (gN σ 10 : Int) := by simp only [gI_sI, gI_nwO]; simp; exact w2
                  have e2 : gI (sI (sP (sI (sI (sI (sI (sI (sI (nwO (σ) 10) 1100 (gN σ 10) 0 a1) 1101 (gN σ 10) 0 a2) 1102 (gN σ 10) 0 a3) 1103 (gN σ 10) 0 a4) 1104 (gN σ 10) 0 a5) 1105 (gN σ 10) 0 a6) 1000 0 (gN σ 10) (some (gN σ 10))) 1001 0 0 ((gN σ 10 : Int) + 1)) 1301 0 0 = (gN σ 10 : Int) := by simp only [gI_sI, gI_sP, gI_nwO]; simp; exact w1
                  refine opW (r := (gN σ 10 : Int)) (σ1 := sI (sP (sI (sI (sI (sI (sI (sI (nwO (σ) 10) 1100 (gN σ 10) 0 a1) 1101 (gN σ 10) 0 a2) 1102 (gN σ 10) 0 a3) 1103 (gN σ 10) 0 a4) 1104 (gN σ 10) 0 a5) 1105 (gN σ 10) 0 a6) 1000 0 (gN σ 10) (some (gN σ 10))) 1001 0 0 ((gN σ 10 : Int) + 1)) (σ2 := sI (sI (sI (sI (sI (sI (sI (sI (sP (sI (sI (sI (sI (sI (sI (nwO (σ) 10) 1100 (gN σ 10) 0 a1) 1101 (gN σ 10) 0 a2) 1102 (gN σ 10) 0 a3) 1103 (gN σ 10) 0 a4) 1104 (gN σ 10) 0 a5) 1105 (gN σ 10) 0 a6) 1000 0 (gN σ 10) (some (gN σ 10))) 1001 0 0 ((gN σ 10 : Int) + 1)) 1302 0 (gN σ 10) a1) 1303 0 (gN σ 10) a2) 1304 0 (gN σ 10) a3) 1305 0 (gN σ 10) a4) 1306 0 (gN σ 10) a5) 1307 0 (gN σ 10) a6) 1301 0 0 ((gN σ 10 : Int) + 1)) ?_ ?_ ?_
                  · unfold fX11_way
                    rw [c_isPlace_eq, bnkI, if_pos (by omega), c_isPlace_eq, bnkI, if_pos (by omega), c_isHour_eq, bnkI, if_pos (by omega), within_eq, bnkI, if_pos (by omega), within_eq, bnkI, if_pos (by omega), within_eq, bnkI, if_pos (by omega), if_neg p7]
                    unfold fX9_isFull
                    rw [w2, if_pos (by omega), bnk_some, if_pos rfl, lt_def, lt_def]
                    unfold fX10_init fX10_init_s0 fX10_init_t
                    rw [bnd_some, ckp_pos hSF3]
                    unfold fX11_way_t fX9_add fX9_isFull
                    rw [e1, if_pos (by omega), bnk_some, if_pos rfl, ck_x (by omega) (by omega), ck_i (by omega) (by omega), ck_i (by omega) (by omega), bnd_some, Int.add_sub_cancel, Int.toNat_natCast]
                  · unfold fX12_way
                    rw [m_isPlace_eq, bnkI, if_pos (by omega), m_isPlace_eq, bnkI, if_pos (by omega), m_isHour_eq, bnkI, if_pos (by omega), in_eq, bnkI, if_pos (by omega), in_eq, bnkI, if_pos (by omega), in_eq, bnkI, if_pos (by omega), if_neg p7, e2, if_neg (by omega)]
                    rw [ck_x (by omega) (by omega), ck_x (by omega) (by omega), ck_x (by omega) (by omega), ck_x (by omega) (by omega), ck_x (by omega) (by omega), ck_x (by omega) (by omega), ck_i (by omega) (by omega), ck_i (by omega) (by omega), Int.add_sub_cancel, Int.toNat_natCast]
                  · have hx : ExC (kc 10 ++ [1000, 1001, 1301, 1302, 1303, 1304, 1305, 1306, 1307]) σ (sI (sI (sI (sI (sI (sI (sI (sI (sP (sI (sI (sI (sI (sI (sI (nwO (σ) 10) 1100 (gN σ 10) 0 a1) 1101 (gN σ 10) 0 a2) 1102 (gN σ 10) 0 a3) 1103 (gN σ 10) 0 a4) 1104 (gN σ 10) 0 a5) 1105 (gN σ 10) 0 a6) 1000 0 (gN σ 10) (some (gN σ 10))) 1001 0 0 ((gN σ 10 : Int) + 1)) 1302 0 (gN σ 10) a1) 1303 0 (gN σ 10) a2) 1304 0 (gN σ 10) a3) 1305 0 (gN σ 10) a4) 1306 0 (gN σ 10) a5) 1307 0 (gN σ 10) a6) 1301 0 0 ((gN σ 10 : Int) + 1)) := ((((((((((((((((ExC.rf (S := (kc 10 ++ [1000, 1001, 1301, 1302, 1303, 1304, 1305, 1306, 1307])) (σ := σ)).nwO (fun c hc => List.mem_append.mpr (Or.inl (kc_mem hc)))).sI (by decide)).sI (by decide)).sI (by decide)).sI (by decide)).sI (by decide)).sI (by decide)).sP (by decide)).sI (by decide)).sI (by decide)).sI (by decide)).sI (by decide)).sI (by decide)).sI (by decide)).sI (by decide)).sI (by decide)
                    have hn10 : gN (sI (sI (sI (sI (sI (sI (sI (sI (sP (sI (sI (sI (sI (sI (sI (nwO (σ) 10) 1100 (gN σ 10) 0 a1) 1101 (gN σ 10) 0 a2) 1102 (gN σ 10) 0 a3) 1103 (gN σ 10) 0 a4) 1104 (gN σ 10) 0 a5) 1105 (gN σ 10) 0 a6) 1000 0 (gN σ 10) (some (gN σ 10))) 1001 0 0 ((gN σ 10 : Int) + 1)) 1302 0 (gN σ 10) a1) 1303 0 (gN σ 10) a2) 1304 0 (gN σ 10) a3) 1305 0 (gN σ 10) a4) 1306 0 (gN σ 10) a5) 1307 0 (gN σ 10) a6) 1301 0 0 ((gN σ 10 : Int) + 1)) 10 = gN σ 10 + 1 := rfl
                    have hn7 : gN (sI (sI (sI (sI (sI (sI (sI (sI (sP (sI (sI (sI (sI (sI (sI (nwO (σ) 10) 1100 (gN σ 10) 0 a1) 1101 (gN σ 10) 0 a2) 1102 (gN σ 10) 0 a3) 1103 (gN σ 10) 0 a4) 1104 (gN σ 10) 0 a5) 1105 (gN σ 10) 0 a6) 1000 0 (gN σ 10) (some (gN σ 10))) 1001 0 0 ((gN σ 10 : Int) + 1)) 1302 0 (gN σ 10) a1) 1303 0 (gN σ 10) a2) 1304 0 (gN σ 10) a3) 1305 0 (gN σ 10) a4) 1306 0 (gN σ 10) a5) 1307 0 (gN σ 10) a6) 1301 0 0 ((gN σ 10 : Int) + 1)) 7 = gN σ 7 := rfl
                    have hn8 : gN (sI (sI (sI (sI (sI (sI (sI (sI (sP (sI (sI (sI (sI (sI (sI (nwO (σ) 10) 1100 (gN σ 10) 0 a1) 1101 (gN σ 10) 0 a2) 1102 (gN σ 10) 0 a3) 1103 (gN σ 10) 0 a4) 1104 (gN σ 10) 0 a5) 1105 (gN σ 10) 0 a6) 1000 0 (gN σ 10) (some (gN σ 10))) 1001 0 0 ((gN σ 10 : Int) + 1)) 1302 0 (gN σ 10) a1) 1303 0 (gN σ 10) a2) 1304 0 (gN σ 10) a3) 1305 0 (gN σ 10) a4) 1306 0 (gN σ 10) a5) 1307 0 (gN σ 10) a6) 1301 0 0 ((gN σ 10 : Int) + 1)) 8 = gN σ 8 := rfl
                    have hn6 : gN (sI (sI (sI (sI (sI (sI (sI (sI (sP (sI (sI (sI (sI (sI (sI (nwO (σ) 10) 1100 (gN σ 10) 0 a1) 1101 (gN σ 10) 0 a2) 1102 (gN σ 10) 0 a3) 1103 (gN σ 10) 0 a4) 1104 (gN σ 10) 0 a5) 1105 (gN σ 10) 0 a6) 1000 0 (gN σ 10) (some (gN σ 10))) 1001 0 0 ((gN σ 10 : Int) + 1)) 1302 0 (gN σ 10) a1) 1303 0 (gN σ 10) a2) 1304 0 (gN σ 10) a3) 1305 0 (gN σ 10) a4) 1306 0 (gN σ 10) a5) 1307 0 (gN σ 10) a6) 1301 0 0 ((gN σ 10 : Int) + 1)) 6 = gN σ 6 := rfl
                    have hn5 : gN (sI (sI (sI (sI (sI (sI (sI (sI (sP (sI (sI (sI (sI (sI (sI (nwO (σ) 10) 1100 (gN σ 10) 0 a1) 1101 (gN σ 10) 0 a2) 1102 (gN σ 10) 0 a3) 1103 (gN σ 10) 0 a4) 1104 (gN σ 10) 0 a5) 1105 (gN σ 10) 0 a6) 1000 0 (gN σ 10) (some (gN σ 10))) 1001 0 0 ((gN σ 10 : Int) + 1)) 1302 0 (gN σ 10) a1) 1303 0 (gN σ 10) a2) 1304 0 (gN σ 10) a3) 1305 0 (gN σ 10) a4) 1306 0 (gN σ 10) a5) 1307 0 (gN σ 10) a6) 1301 0 0 ((gN σ 10 : Int) + 1)) 5 = gN σ 5 := rfl
                    have hm7 : gN σ 7 ≤ gN (sI (sI (sI (sI (sI (sI (sI (sI (sP (sI (sI (sI (sI (sI (sI (nwO (σ) 10) 1100 (gN σ 10) 0 a1) 1101 (gN σ 10) 0 a2) 1102 (gN σ 10) 0 a3) 1103 (gN σ 10) 0 a4) 1104 (gN σ 10) 0 a5) 1105 (gN σ 10) 0 a6) 1000 0 (gN σ 10) (some (gN σ 10))) 1001 0 0 ((gN σ 10 : Int) + 1)) 1302 0 (gN σ 10) a1) 1303 0 (gN σ 10) a2) 1304 0 (gN σ 10) a3) 1305 0 (gN σ 10) a4) 1306 0 (gN σ 10) a5) 1307 0 (gN σ 10) a6) 1301 0 0 ((gN σ 10 : Int) + 1)) 7 := Nat.le_refl _
                    refine ⟨hT.exc hx (dj_use (by decide +kernel)), ?_, hS.exc hx (dj_use (by decide +kernel)) hn7, hF.exc hx (dj_use (by decide +kernel)), hY.exc hx (dj_use (by decide +kernel)) hn8 hm7, hA.exc hx (dj_use (by decide +kernel)), hL.exc hx (dj_use (by decide +kernel)) hn6, hG.exc hx (dj_use (by decide +kernel)) hn5, hE.exc hx (dj_use (by decide +kernel)), hC.exc hx (dj_use (by decide +kernel)), hH.exc hx (dj_use (by decide +kernel)), hQ.exc hx (dj_use (by decide +kernel))⟩
                    refine ⟨?_, ?_, by rw [hn10]; omega, fun i hi => ?_, fun i hi => ?_⟩
                    · rw [hn10]; simp only [gI_sI]; simp
                    · rw [hn10]; simp only [gI_sI]; simp
                    · rw [hn10] at hi
                      unfold RW1
                      by_cases q : i = gN σ 10
                      · subst q
                        have w6 := w5 (gN σ 10) (Nat.le_refl _)
                        simp only [gP_sI, gP_sP, gI_sI, gI_sP, gI_nwO, gP_nwO]
                        simp [show la 1106 = none from rfl]
                        omega
                      · have := w4 i (by omega)
                        unfold RW1 at this
                        simp only [gP_sI, gP_sP, gI_sI, gI_sP, gI_nwO, gP_nwO]
                        simp [q]
                        simpa using this
                    · rw [hn10] at hi
                      have := w5 i (by omega)
                      simp only [gP_sI, gP_sP, gI_sI, gI_sP, gI_nwO, gP_nwO]
                      simp
                      exact this
                · refine opW (r := -4) (σ1 := σ) (σ2 := σ) ?_ ?_ hR
                  · unfold fX11_way
                    rw [c_isPlace_eq, bnkI, if_pos (by omega), c_isPlace_eq, bnkI, if_pos (by omega), c_isHour_eq, bnkI, if_pos (by omega), within_eq, bnkI, if_pos (by omega), within_eq, bnkI, if_pos (by omega), within_eq, bnkI, if_pos (by omega), if_neg p7, show fX9_isFull σ = some 1 from (by unfold fX9_isFull; rw [w2, if_neg (by omega)]), bnk_some, if_neg (by decide)]
                  · unfold fX12_way
                    rw [m_isPlace_eq, bnkI, if_pos (by omega), m_isPlace_eq, bnkI, if_pos (by omega), m_isHour_eq, bnkI, if_pos (by omega), in_eq, bnkI, if_pos (by omega), in_eq, bnkI, if_pos (by omega), in_eq, bnkI, if_pos (by omega), if_neg p7, w1, if_pos (by omega)]
              · refine opW (r := -3) (σ1 := σ) (σ2 := σ) ?_ ?_ hR
                · unfold fX11_way
                  rw [c_isPlace_eq, bnkI, if_pos (by omega), c_isPlace_eq, bnkI, if_pos (by omega), c_isHour_eq, bnkI, if_pos (by omega), within_eq, bnkI, if_pos (by omega), within_eq, bnkI, if_pos (by omega), within_eq, bnkI, if_pos (by omega), if_pos (Decidable.not_not.mp p7)]
                · unfold fX12_way
                  rw [m_isPlace_eq, bnkI, if_pos (by omega), m_isPlace_eq, bnkI, if_pos (by omega), m_isHour_eq, bnkI, if_pos (by omega), in_eq, bnkI, if_pos (by omega), in_eq, bnkI, if_pos (by omega), in_eq, bnkI, if_pos (by omega), if_pos (Decidable.not_not.mp p7)]
            · refine opW (r := -2) (σ1 := σ) (σ2 := σ) ?_ ?_ hR
              · unfold fX11_way
                rw [c_isPlace_eq, bnkI, if_pos (by omega), c_isPlace_eq, bnkI, if_pos (by omega), c_isHour_eq, bnkI, if_pos (by omega), within_eq, bnkI, if_pos (by omega), within_eq, bnkI, if_pos (by omega), within_eq, bnkI, if_neg (by omega)]
              · unfold fX12_way
                rw [m_isPlace_eq, bnkI, if_pos (by omega), m_isPlace_eq, bnkI, if_pos (by omega), m_isHour_eq, bnkI, if_pos (by omega), in_eq, bnkI, if_pos (by omega), in_eq, bnkI, if_pos (by omega), in_eq, bnkI, if_neg (by omega)]
          · refine opW (r := -2) (σ1 := σ) (σ2 := σ) ?_ ?_ hR
            · unfold fX11_way
              rw [c_isPlace_eq, bnkI, if_pos (by omega), c_isPlace_eq, bnkI, if_pos (by omega), c_isHour_eq, bnkI, if_pos (by omega), within_eq, bnkI, if_pos (by omega), within_eq, bnkI, if_neg (by omega)]
            · unfold fX12_way
              rw [m_isPlace_eq, bnkI, if_pos (by omega), m_isPlace_eq, bnkI, if_pos (by omega), m_isHour_eq, bnkI, if_pos (by omega), in_eq, bnkI, if_pos (by omega), in_eq, bnkI, if_neg (by omega)]
        · refine opW (r := -2) (σ1 := σ) (σ2 := σ) ?_ ?_ hR
          · unfold fX11_way
            rw [c_isPlace_eq, bnkI, if_pos (by omega), c_isPlace_eq, bnkI, if_pos (by omega), c_isHour_eq, bnkI, if_pos (by omega), within_eq, bnkI, if_neg (by omega)]
          · unfold fX12_way
            rw [m_isPlace_eq, bnkI, if_pos (by omega), m_isPlace_eq, bnkI, if_pos (by omega), m_isHour_eq, bnkI, if_pos (by omega), in_eq, bnkI, if_neg (by omega)]
      · refine opW (r := -2) (σ1 := σ) (σ2 := σ) ?_ ?_ hR
        · unfold fX11_way
          rw [c_isPlace_eq, bnkI, if_pos (by omega), c_isPlace_eq, bnkI, if_pos (by omega), c_isHour_eq, bnkI, if_neg (by omega)]
        · unfold fX12_way
          rw [m_isPlace_eq, bnkI, if_pos (by omega), m_isPlace_eq, bnkI, if_pos (by omega), m_isHour_eq, bnkI, if_neg (by omega)]
    · refine opW (r := -1) (σ1 := σ) (σ2 := σ) ?_ ?_ hR
      · unfold fX11_way
        rw [c_isPlace_eq, bnkI, if_pos (by omega), c_isPlace_eq, bnkI, if_neg (by omega)]
      · unfold fX12_way
        rw [m_isPlace_eq, bnkI, if_pos (by omega), m_isPlace_eq, bnkI, if_neg (by omega)]
  · refine opW (r := -1) (σ1 := σ) (σ2 := σ) ?_ ?_ hR
    · unfold fX11_way
      rw [c_isPlace_eq, bnkI, if_neg (by omega)]
    · unfold fX12_way
      rw [m_isPlace_eq, bnkI, if_neg (by omega)]
theorem op_4 : OP4 RR := by
  intro a1 a2 a3 a4 a5 a6 ha1 ha2 ha3 ha4 ha5 ha6 σ hSF hR
  obtain ⟨hT, hW, hS, hF, hY, hA, hL, hG, hE, hC, hH, hQ⟩ := id hR
  obtain ⟨t1, t2, t3⟩ := id hT
  obtain ⟨s1, s2, s3, s4⟩ := id hS
  by_cases p1 : 0 ≤ a1 ∧ a1 ≤ 7
  · skip
    by_cases p2 : 0 ≤ a2 ∧ a2 ≤ gI σ 1200 0 0
    · skip
      by_cases p3 : 1 ≤ a3 ∧ a3 ≤ 900
      · skip
        by_cases p4 : 0 ≤ a4 ∧ a4 ≤ 15
        · skip
          by_cases p5 : 0 ≤ a5 ∧ a5 ≤ 255
          · skip
            by_cases p6 : 0 ≤ a6 ∧ a6 ≤ 2
            · skip
              by_cases pf : gN σ 7 < 40
              · skip
                have hSF3 : SF (sI (sI (sI (sI (sI (sI (sI (sI (sI (sI (sI (sI (nwO (σ) 7) 808 (gN σ 7) 0 1000000) 809 (gN σ 7) 0 1000000) 810 (gN σ 7) 0 1000000) 811 (gN σ 7) 0 (-9)) 812 (gN σ 7) 0 (-9)) 800 (gN σ 7) 0 (gN σ 7 : Int)) 801 (gN σ 7) 0 a1) 802 (gN σ 7) 0 a2) 803 (gN σ 7) 0 a3) 804 (gN σ 7) 0 a4) 805 (gN σ 7) 0 a5) 806 (gN σ 7) 0 a6) := hSF.nw (K := 7) (by decide) (by decide) (by decide)
                have e0 : gI (nwO σ 7) 1204 0 0 = (gN σ 7 : Int) := by rw [gI_nwO]; simp; exact s2
                have e1 : gI (sI (sI (sI (sI (sI (sI (sI (sI (sI (sI (sI (sI (nwO (σ) 7) 808 (gN σ 7) 0 1000000) 809 (gN σ 7) 0 1000000) 810 (gN σ 7) 0 1000000) 811 (gN σ 7) 0 (-9)) 812 (gN σ 7) 0 (-9)) 800 (gN σ 7) 0 (gN σ 7 : Int)) 801 (gN σ 7) 0 a1) 802 (gN σ 7) 0 a2) 803 (gN σ 7) 0 a3) 804 (gN σ 7) 0 a4) 805 (gN σ 7) 0 a5) 806 (gN σ 7) 0 a6) 1200 0 0 = gI σ 1200 0 0 := by simp only [gI_sI, gI_nwO]; simp
                have e2 : gI (sI (sI (sI (sI (sI (sI (sI (sI (sI (sI (sI (sI (nwO (σ) 7) 808 (gN σ 7) 0 1000000) 809 (gN σ 7) 0 1000000) 810 (gN σ 7) 0 1000000) 811 (gN σ 7) 0 (-9)) 812 (gN σ 7) 0 (-9)) 800 (gN σ 7) 0 (gN σ 7 : Int)) 801 (gN σ 7) 0 a1) 802 (gN σ 7) 0 a2) 803 (gN σ 7) 0 a3) 804 (gN σ 7) 0 a4) 805 (gN σ 7) 0 a5) 806 (gN σ 7) 0 a6) 806 (gN σ 7) 0 = a6 := gs
                by_cases z : a6 = 0
                · have e3 : gI (sI (sI (sI (sI (sI (sI (sI (sI (sI (sI (sI (sI (sI (nwO (σ) 7) 808 (gN σ 7) 0 1000000) 809 (gN σ 7) 0 1000000) 810 (gN σ 7) 0 1000000) 811 (gN σ 7) 0 (-9)) 812 (gN σ 7) 0 (-9)) 800 (gN σ 7) 0 (gN σ 7 : Int)) 801 (gN σ 7) 0 a1) 802 (gN σ 7) 0 a2) 803 (gN σ 7) 0 a3) 804 (gN σ 7) 0 a4) 805 (gN σ 7) 0 a5) 806 (gN σ 7) 0 a6) 807 (gN σ 7) 0 (gI σ 1200 0 0)) 1204 0 0 = (gN σ 7 : Int) := by simp only [gI_sI, gI_nwO]; simp; exact s2
                  have e4 : gI (sI (sP (sI (sI (sI (sI (sI (sI (sI (sI (sI (sI (sI (sI (sI (nwO (σ) 7) 808 (gN σ 7) 0 1000000) 809 (gN σ 7) 0 1000000) 810 (gN σ 7) 0 1000000) 811 (gN σ 7) 0 (-9)) 812 (gN σ 7) 0 (-9)) 800 (gN σ 7) 0 (gN σ 7 : Int)) 801 (gN σ 7) 0 a1) 802 (gN σ 7) 0 a2) 803 (gN σ 7) 0 a3) 804 (gN σ 7) 0 a4) 805 (gN σ 7) 0 a5) 806 (gN σ 7) 0 a6) 807 (gN σ 7) 0 (gI σ 1200 0 0)) 1203 0 (gN σ 7) (some (gN σ 7))) 1204 0 0 ((gN σ 7 : Int) + 1)) 1310 0 0 = (gN σ 7 : Int) := by simp only [gI_sI, gI_sP, gI_nwO]; simp; exact s1
                  have e5 : gI (sI (sI (sI (sI (sI (sI (sI (sI (sI (sP (sI (sI (sI (sI (sI (sI (sI (sI (sI (sI (sI (sI (sI (nwO (σ) 7) 808 (gN σ 7) 0 1000000) 809 (gN σ 7) 0 1000000) 810 (gN σ 7) 0 1000000) 811 (gN σ 7) 0 (-9)) 812 (gN σ 7) 0 (-9)) 800 (gN σ 7) 0 (gN σ 7 : Int)) 801 (gN σ 7) 0 a1) 802 (gN σ 7) 0 a2) 803 (gN σ 7) 0 a3) 804 (gN σ 7) 0 a4) 805 (gN σ 7) 0 a5) 806 (gN σ 7) 0 a6) 807 (gN σ 7) 0 (gI σ 1200 0 0)) 1203 0 (gN σ 7) (some (gN σ 7))) 1204 0 0 ((gN σ 7 : Int) + 1)) 1311 0 (gN σ 7) a1) 1312 0 (gN σ 7) a2) 1313 0 (gN σ 7) a3) 1314 0 (gN σ 7) a4) 1315 0 (gN σ 7) a5) 1316 0 (gN σ 7) a6) 1317 0 (gN σ 7) (gI σ 1200 0 0)) 1318 0 (gN σ 7) (-9)) 1310 0 0 = (gN σ 7 : Int) := by simp only [gI_sI, gI_sP, gI_nwO]; simp; exact s1
                  have e6 : gI (sI (sI (sI (sI (sI (sI (sI (sI (sI (sI (sI (sI (sI (nwO (σ) 7) 808 (gN σ 7) 0 1000000) 809 (gN σ 7) 0 1000000) 810 (gN σ 7) 0 1000000) 811 (gN σ 7) 0 (-9)) 812 (gN σ 7) 0 (-9)) 800 (gN σ 7) 0 (gN σ 7 : Int)) 801 (gN σ 7) 0 a1) 802 (gN σ 7) 0 a2) 803 (gN σ 7) 0 a3) 804 (gN σ 7) 0 a4) 805 (gN σ 7) 0 a5) 806 (gN σ 7) 0 a6) 807 (gN σ 7) 0 (gI σ 1200 0 0)) 800 (gN σ 7) 0 = (gN σ 7 : Int) := by simp only [gI_sI, gI_nwO]; simp
                  have e7 : gI (sI (sP (sI (sI (sI (sI (sI (sI (sI (sI (sI (sI (sI (sI (sI (nwO (σ) 7) 808 (gN σ 7) 0 1000000) 809 (gN σ 7) 0 1000000) 810 (gN σ 7) 0 1000000) 811 (gN σ 7) 0 (-9)) 812 (gN σ 7) 0 (-9)) 800 (gN σ 7) 0 (gN σ 7 : Int)) 801 (gN σ 7) 0 a1) 802 (gN σ 7) 0 a2) 803 (gN σ 7) 0 a3) 804 (gN σ 7) 0 a4) 805 (gN σ 7) 0 a5) 806 (gN σ 7) 0 a6) 807 (gN σ 7) 0 (gI σ 1200 0 0)) 1203 0 (gN σ 7) (some (gN σ 7))) 1204 0 0 ((gN σ 7 : Int) + 1)) 1300 0 0 = gI σ 1200 0 0 := by simp only [gI_sI, gI_sP, gI_nwO]; simp; exact t1
                  refine opW (r := (gN σ 7 : Int)) (σ1 := sI (sP (sI (sI (sI (sI (sI (sI (sI (sI (sI (sI (sI (sI (sI (nwO (σ) 7) 808 (gN σ 7) 0 1000000) 809 (gN σ 7) 0 1000000) 810 (gN σ 7) 0 1000000) 811 (gN σ 7) 0 (-9)) 812 (gN σ 7) 0 (-9)) 800 (gN σ 7) 0 (gN σ 7 : Int)) 801 (gN σ 7) 0 a1) 802 (gN σ 7) 0 a2) 803 (gN σ 7) 0 a3) 804 (gN σ 7) 0 a4) 805 (gN σ 7) 0 a5) 806 (gN σ 7) 0 a6) 807 (gN σ 7) 0 (gI σ 1200 0 0)) 1203 0 (gN σ 7) (some (gN σ 7))) 1204 0 0 ((gN σ 7 : Int) + 1)) (σ2 := sI (sI (sI (sI (sI (sI (sI (sI (sI (sI (sI (sI (sI (sI (sP (sI (sI (sI (sI (sI (sI (sI (sI (sI (sI (sI (sI (sI (nwO (σ) 7) 808 (gN σ 7) 0 1000000) 809 (gN σ 7) 0 1000000) 810 (gN σ 7) 0 1000000) 811 (gN σ 7) 0 (-9)) 812 (gN σ 7) 0 (-9)) 800 (gN σ 7) 0 (gN σ 7 : Int)) 801 (gN σ 7) 0 a1) 802 (gN σ 7) 0 a2) 803 (gN σ 7) 0 a3) 804 (gN σ 7) 0 a4) 805 (gN σ 7) 0 a5) 806 (gN σ 7) 0 a6) 807 (gN σ 7) 0 (gI σ 1200 0 0)) 1203 0 (gN σ 7) (some (gN σ 7))) 1204 0 0 ((gN σ 7 : Int) + 1)) 1311 0 (gN σ 7) a1) 1312 0 (gN σ 7) a2) 1313 0 (gN σ 7) a3) 1314 0 (gN σ 7) a4) 1315 0 (gN σ 7) a5) 1316 0 (gN σ 7) a6) 1317 0 (gN σ 7) (gI σ 1200 0 0)) 1318 0 (gN σ 7) (-9)) 1319 0 (gN σ 7) (-9)) 1320 0 (gN σ 7) (-9)) 1321 0 (gN σ 7) (-9)) 1322 0 (gN σ 7) (-9)) 1310 0 0 ((gN σ 7 : Int) + 1)) ?_ ?_ ?_
                  · unfold fX11_shot
                    rw [c_isPlace_eq, bnkI, if_pos (by omega), within_eq, bnkI, if_pos (by omega), within_eq, bnkI, if_pos (by omega), c_isSubject_eq, bnkI, if_pos (by omega), c_isMarkSet_eq, bnkI, if_pos (by omega), c_isKind_eq, bnkI, if_pos (by omega)]
                    rw [s2, if_pos (by omega), lt_def, lt_def, e0]
                    unfold fX7_init fX7_init_s0 fX7_init_t
                    rw [bnd_some, ckp_pos hSF3]
                    unfold fX11_shot_t fX7_tell
                    rw [e1, e2, if_pos z, bnd_some, e3, ck_x (by omega) (by omega), ck_i (by omega) (by omega), e6, Int.toNat_natCast]
                  · unfold fX12_shot
                    rw [m_isPlace_eq, bnkI, if_pos (by omega), e7, in_eq, bnkI, if_pos (by omega), in_eq, bnkI, if_pos (by omega), in_eq, bnkI, if_pos (by omega), in_eq, bnkI, if_pos (by omega), in_eq, bnkI, if_pos (by omega), e4, if_neg (by omega)]
                    rw [ck_x (by omega) (by omega), ck_x (by omega) (by omega), ck_x (by omega) (by omega), ck_x (by omega) (by omega), ck_x (by omega) (by omega), ck_x (by omega) (by omega), ck_x (by omega) (by omega), ck_x (by omega) (by omega), if_pos z]
                    unfold fX12_shot_j198
                    rw [Int.toNat_natCast, e5, Int.toNat_natCast, ck_x (by omega) (by omega), ck_x (by omega) (by omega), ck_x (by omega) (by omega), ck_x (by omega) (by omega), ck_i (by omega) (by omega), ck_i (by omega) (by omega), Int.add_sub_cancel]
                  · have hx : ExC (kc 7 ++ [1203, 1204, 1310, 1311, 1312, 1313, 1314, 1315, 1316, 1317, 1318, 1319, 1320, 1321, 1322]) σ (sI (sI (sI (sI (sI (sI (sI (sI (sI (sI (sI (sI (sI (sI (sP (sI (sI (sI (sI (sI (sI (sI (sI (sI (sI (sI (sI (sI (nwO (σ) 7) 808 (gN σ 7) 0 1000000) 809 (gN σ 7) 0 1000000) 810 (gN σ 7) 0 1000000) 811 (gN σ 7) 0 (-9)) 812 (gN σ 7) 0 (-9)) 800 (gN σ 7) 0 (gN σ 7 : Int)) 801 (gN σ 7) 0 a1) 802 (gN σ 7) 0 a2) 803 (gN σ 7) 0 a3) 804 (gN σ 7) 0 a4) 805 (gN σ 7) 0 a5) 806 (gN σ 7) 0 a6) 807 (gN σ 7) 0 (gI σ 1200 0 0)) 1203 0 (gN σ 7) (some (gN σ 7))) 1204 0 0 ((gN σ 7 : Int) + 1)) 1311 0 (gN σ 7) a1) 1312 0 (gN σ 7) a2) 1313 0 (gN σ 7) a3) 1314 0 (gN σ 7) a4) 1315 0 (gN σ 7) a5) 1316 0 (gN σ 7) a6) 1317 0 (gN σ 7) (gI σ 1200 0 0)) 1318 0 (gN σ 7) (-9)) 1319 0 (gN σ 7) (-9)) 1320 0 (gN σ 7) (-9)) 1321 0 (gN σ 7) (-9)) 1322 0 (gN σ 7) (-9)) 1310 0 0 ((gN σ 7 : Int) + 1)) := (((((((((((((((((((((((((((((ExC.rf (S := (kc 7 ++ [1203, 1204, 1310, 1311, 1312, 1313, 1314, 1315, 1316, 1317, 1318, 1319, 1320, 1321, 1322])) (σ := σ)).nwO (fun c hc => List.mem_append.mpr (Or.inl (kc_mem hc)))).sI (by decide)).sI (by decide)).sI (by decide)).sI (by decide)).sI (by decide)).sI (by decide)).sI (by decide)).sI (by decide)).sI (by decide)).sI (by decide)).sI (by decide)).sI (by decide)).sI (by decide)).sP (by decide)).sI (by decide)).sI (by decide)).sI (by decide)).sI (by decide)).sI (by decide)).sI (by decide)).sI (by decide)).sI (by decide)).sI (by decide)).sI (by decide)).sI (by decide)).sI (by decide)).sI (by decide)).sI (by decide)
                    have hn7 : gN (sI (sI (sI (sI (sI (sI (sI (sI (sI (sI (sI (sI (sI (sI (sP (sI (sI (sI (sI (sI (sI (sI (sI (sI (sI (sI (sI (sI (nwO (σ) 7) 808 (gN σ 7) 0 1000000) 809 (gN σ 7) 0 1000000) 810 (gN σ 7) 0 1000000) 811 (gN σ 7) 0 (-9)) 812 (gN σ 7) 0 (-9)) 800 (gN σ 7) 0 (gN σ 7 : Int)) 801 (gN σ 7) 0 a1) 802 (gN σ 7) 0 a2) 803 (gN σ 7) 0 a3) 804 (gN σ 7) 0 a4) 805 (gN σ 7) 0 a5) 806 (gN σ 7) 0 a6) 807 (gN σ 7) 0 (gI σ 1200 0 0)) 1203 0 (gN σ 7) (some (gN σ 7))) 1204 0 0 ((gN σ 7 : Int) + 1)) 1311 0 (gN σ 7) a1) 1312 0 (gN σ 7) a2) 1313 0 (gN σ 7) a3) 1314 0 (gN σ 7) a4) 1315 0 (gN σ 7) a5) 1316 0 (gN σ 7) a6) 1317 0 (gN σ 7) (gI σ 1200 0 0)) 1318 0 (gN σ 7) (-9)) 1319 0 (gN σ 7) (-9)) 1320 0 (gN σ 7) (-9)) 1321 0 (gN σ 7) (-9)) 1322 0 (gN σ 7) (-9)) 1310 0 0 ((gN σ 7 : Int) + 1)) 7 = gN σ 7 + 1 := rfl
                    have hn10 : gN (sI (sI (sI (sI (sI (sI (sI (sI (sI (sI (sI (sI (sI (sI (sP (sI (sI (sI (sI (sI (sI (sI (sI (sI (sI (sI (sI (sI (nwO (σ) 7) 808 (gN σ 7) 0 1000000) 809 (gN σ 7) 0 1000000) 810 (gN σ 7) 0 1000000) 811 (gN σ 7) 0 (-9)) 812 (gN σ 7) 0 (-9)) 800 (gN σ 7) 0 (gN σ 7 : Int)) 801 (gN σ 7) 0 a1) 802 (gN σ 7) 0 a2) 803 (gN σ 7) 0 a3) 804 (gN σ 7) 0 a4) 805 (gN σ 7) 0 a5) 806 (gN σ 7) 0 a6) 807 (gN σ 7) 0 (gI σ 1200 0 0)) 1203 0 (gN σ 7) (some (gN σ 7))) 1204 0 0 ((gN σ 7 : Int) + 1)) 1311 0 (gN σ 7) a1) 1312 0 (gN σ 7) a2) 1313 0 (gN σ 7) a3) 1314 0 (gN σ 7) a4) 1315 0 (gN σ 7) a5) 1316 0 (gN σ 7) a6) 1317 0 (gN σ 7) (gI σ 1200 0 0)) 1318 0 (gN σ 7) (-9)) 1319 0 (gN σ 7) (-9)) 1320 0 (gN σ 7) (-9)) 1321 0 (gN σ 7) (-9)) 1322 0 (gN σ 7) (-9)) 1310 0 0 ((gN σ 7 : Int) + 1)) 10 = gN σ 10 := rfl
                    have hn8 : gN (sI (sI (sI (sI (sI (sI (sI (sI (sI (sI (sI (sI (sI (sI (sP (sI (sI (sI (sI (sI (sI (sI (sI (sI (sI (sI (sI (sI (nwO (σ) 7) 808 (gN σ 7) 0 1000000) 809 (gN σ 7) 0 1000000) 810 (gN σ 7) 0 1000000) 811 (gN σ 7) 0 (-9)) 812 (gN σ 7) 0 (-9)) 800 (gN σ 7) 0 (gN σ 7 : Int)) 801 (gN σ 7) 0 a1) 802 (gN σ 7) 0 a2) 803 (gN σ 7) 0 a3) 804 (gN σ 7) 0 a4) 805 (gN σ 7) 0 a5) 806 (gN σ 7) 0 a6) 807 (gN σ 7) 0 (gI σ 1200 0 0)) 1203 0 (gN σ 7) (some (gN σ 7))) 1204 0 0 ((gN σ 7 : Int) + 1)) 1311 0 (gN σ 7) a1) 1312 0 (gN σ 7) a2) 1313 0 (gN σ 7) a3) 1314 0 (gN σ 7) a4) 1315 0 (gN σ 7) a5) 1316 0 (gN σ 7) a6) 1317 0 (gN σ 7) (gI σ 1200 0 0)) 1318 0 (gN σ 7) (-9)) 1319 0 (gN σ 7) (-9)) 1320 0 (gN σ 7) (-9)) 1321 0 (gN σ 7) (-9)) 1322 0 (gN σ 7) (-9)) 1310 0 0 ((gN σ 7 : Int) + 1)) 8 = gN σ 8 := rfl
                    have hn6 : gN (sI (sI (sI (sI (sI (sI (sI (sI (sI (sI (sI (sI (sI (sI (sP (sI (sI (sI (sI (sI (sI (sI (sI (sI (sI (sI (sI (sI (nwO (σ) 7) 808 (gN σ 7) 0 1000000) 809 (gN σ 7) 0 1000000) 810 (gN σ 7) 0 1000000) 811 (gN σ 7) 0 (-9)) 812 (gN σ 7) 0 (-9)) 800 (gN σ 7) 0 (gN σ 7 : Int)) 801 (gN σ 7) 0 a1) 802 (gN σ 7) 0 a2) 803 (gN σ 7) 0 a3) 804 (gN σ 7) 0 a4) 805 (gN σ 7) 0 a5) 806 (gN σ 7) 0 a6) 807 (gN σ 7) 0 (gI σ 1200 0 0)) 1203 0 (gN σ 7) (some (gN σ 7))) 1204 0 0 ((gN σ 7 : Int) + 1)) 1311 0 (gN σ 7) a1) 1312 0 (gN σ 7) a2) 1313 0 (gN σ 7) a3) 1314 0 (gN σ 7) a4) 1315 0 (gN σ 7) a5) 1316 0 (gN σ 7) a6) 1317 0 (gN σ 7) (gI σ 1200 0 0)) 1318 0 (gN σ 7) (-9)) 1319 0 (gN σ 7) (-9)) 1320 0 (gN σ 7) (-9)) 1321 0 (gN σ 7) (-9)) 1322 0 (gN σ 7) (-9)) 1310 0 0 ((gN σ 7 : Int) + 1)) 6 = gN σ 6 := rfl
                    have hn5 : gN (sI (sI (sI (sI (sI (sI (sI (sI (sI (sI (sI (sI (sI (sI (sP (sI (sI (sI (sI (sI (sI (sI (sI (sI (sI (sI (sI (sI (nwO (σ) 7) 808 (gN σ 7) 0 1000000) 809 (gN σ 7) 0 1000000) 810 (gN σ 7) 0 1000000) 811 (gN σ 7) 0 (-9)) 812 (gN σ 7) 0 (-9)) 800 (gN σ 7) 0 (gN σ 7 : Int)) 801 (gN σ 7) 0 a1) 802 (gN σ 7) 0 a2) 803 (gN σ 7) 0 a3) 804 (gN σ 7) 0 a4) 805 (gN σ 7) 0 a5) 806 (gN σ 7) 0 a6) 807 (gN σ 7) 0 (gI σ 1200 0 0)) 1203 0 (gN σ 7) (some (gN σ 7))) 1204 0 0 ((gN σ 7 : Int) + 1)) 1311 0 (gN σ 7) a1) 1312 0 (gN σ 7) a2) 1313 0 (gN σ 7) a3) 1314 0 (gN σ 7) a4) 1315 0 (gN σ 7) a5) 1316 0 (gN σ 7) a6) 1317 0 (gN σ 7) (gI σ 1200 0 0)) 1318 0 (gN σ 7) (-9)) 1319 0 (gN σ 7) (-9)) 1320 0 (gN σ 7) (-9)) 1321 0 (gN σ 7) (-9)) 1322 0 (gN σ 7) (-9)) 1310 0 0 ((gN σ 7 : Int) + 1)) 5 = gN σ 5 := rfl
                    have hm7 : gN σ 7 ≤ gN (sI (sI (sI (sI (sI (sI (sI (sI (sI (sI (sI (sI (sI (sI (sP (sI (sI (sI (sI (sI (sI (sI (sI (sI (sI (sI (sI (sI (nwO (σ) 7) 808 (gN σ 7) 0 1000000) 809 (gN σ 7) 0 1000000) 810 (gN σ 7) 0 1000000) 811 (gN σ 7) 0 (-9)) 812 (gN σ 7) 0 (-9)) 800 (gN σ 7) 0 (gN σ 7 : Int)) 801 (gN σ 7) 0 a1) 802 (gN σ 7) 0 a2) 803 (gN σ 7) 0 a3) 804 (gN σ 7) 0 a4) 805 (gN σ 7) 0 a5) 806 (gN σ 7) 0 a6) 807 (gN σ 7) 0 (gI σ 1200 0 0)) 1203 0 (gN σ 7) (some (gN σ 7))) 1204 0 0 ((gN σ 7 : Int) + 1)) 1311 0 (gN σ 7) a1) 1312 0 (gN σ 7) a2) 1313 0 (gN σ 7) a3) 1314 0 (gN σ 7) a4) 1315 0 (gN σ 7) a5) 1316 0 (gN σ 7) a6) 1317 0 (gN σ 7) (gI σ 1200 0 0)) 1318 0 (gN σ 7) (-9)) 1319 0 (gN σ 7) (-9)) 1320 0 (gN σ 7) (-9)) 1321 0 (gN σ 7) (-9)) 1322 0 (gN σ 7) (-9)) 1310 0 0 ((gN σ 7 : Int) + 1)) 7 := by rw [hn7]; omega
                    refine ⟨hT.exc hx (dj_use (by decide +kernel)), hW.exc hx (dj_use (by decide +kernel)) hn10, ?_, hF.exc hx (dj_use (by decide +kernel)), hY.exc hx (dj_use (by decide +kernel)) hn8 hm7, hA.exc hx (dj_use (by decide +kernel)), hL.exc hx (dj_use (by decide +kernel)) hn6, hG.exc hx (dj_use (by decide +kernel)) hn5, hE.exc hx (dj_use (by decide +kernel)), hC.exc hx (dj_use (by decide +kernel)), hH.exc hx (dj_use (by decide +kernel)), hQ.exc hx (dj_use (by decide +kernel))⟩
                    refine ⟨?_, ?_, by rw [hn7]; omega, fun i hi => ?_⟩
                    · rw [hn7]; simp only [gI_sI]; simp
                    · rw [hn7]; simp only [gI_sI]; simp
                    · rw [hn7] at hi
                      unfold RS1 RX
                      by_cases q : i = gN σ 7
                      · subst q
                        simp only [gP_sI, gP_sP, gI_sI, gI_sP, gI_nwO, gP_nwO]
                        simp
                        omega
                      · have := s4 i (by omega)
                        unfold RS1 RX at this
                        simp only [gP_sI, gP_sP, gI_sI, gI_sP, gI_nwO, gP_nwO]
                        simp [q]
                        simpa using this
                · have e3 : gI (sI (sI (sI (sI (sI (sI (sI (sI (sI (sI (sI (sI (sI (sI (nwO (σ) 7) 808 (gN σ 7) 0 1000000) 809 (gN σ 7) 0 1000000) 810 (gN σ 7) 0 1000000) 811 (gN σ 7) 0 (-9)) 812 (gN σ 7) 0 (-9)) 800 (gN σ 7) 0 (gN σ 7 : Int)) 801 (gN σ 7) 0 a1) 802 (gN σ 7) 0 a2) 803 (gN σ 7) 0 a3) 804 (gN σ 7) 0 a4) 805 (gN σ 7) 0 a5) 806 (gN σ 7) 0 a6) 807 (gN σ 7) 0 (gI σ 1200 0 0)) 809 (gN σ 7) 0 (gI σ 1200 0 0)) 1204 0 0 = (gN σ 7 : Int) := by simp only [gI_sI, gI_nwO]; simp; exact s2
                  have e4 : gI (sI (sP (sI (sI (sI (sI (sI (sI (sI (sI (sI (sI (sI (sI (sI (sI (nwO (σ) 7) 808 (gN σ 7) 0 1000000) 809 (gN σ 7) 0 1000000) 810 (gN σ 7) 0 1000000) 811 (gN σ 7) 0 (-9)) 812 (gN σ 7) 0 (-9)) 800 (gN σ 7) 0 (gN σ 7 : Int)) 801 (gN σ 7) 0 a1) 802 (gN σ 7) 0 a2) 803 (gN σ 7) 0 a3) 804 (gN σ 7) 0 a4) 805 (gN σ 7) 0 a5) 806 (gN σ 7) 0 a6) 807 (gN σ 7) 0 (gI σ 1200 0 0)) 809 (gN σ 7) 0 (gI σ 1200 0 0)) 1203 0 (gN σ 7) (some (gN σ 7))) 1204 0 0 ((gN σ 7 : Int) + 1)) 1310 0 0 = (gN σ 7 : Int) := by simp only [gI_sI, gI_sP, gI_nwO]; simp; exact s1
                  have e5 : gI (sI (sI (sI (sI (sI (sI (sI (sI (sI (sP (sI (sI (sI (sI (sI (sI (sI (sI (sI (sI (sI (sI (sI (sI (nwO (σ) 7) 808 (gN σ 7) 0 1000000) 809 (gN σ 7) 0 1000000) 810 (gN σ 7) 0 1000000) 811 (gN σ 7) 0 (-9)) 812 (gN σ 7) 0 (-9)) 800 (gN σ 7) 0 (gN σ 7 : Int)) 801 (gN σ 7) 0 a1) 802 (gN σ 7) 0 a2) 803 (gN σ 7) 0 a3) 804 (gN σ 7) 0 a4) 805 (gN σ 7) 0 a5) 806 (gN σ 7) 0 a6) 807 (gN σ 7) 0 (gI σ 1200 0 0)) 809 (gN σ 7) 0 (gI σ 1200 0 0)) 1203 0 (gN σ 7) (some (gN σ 7))) 1204 0 0 ((gN σ 7 : Int) + 1)) 1311 0 (gN σ 7) a1) 1312 0 (gN σ 7) a2) 1313 0 (gN σ 7) a3) 1314 0 (gN σ 7) a4) 1315 0 (gN σ 7) a5) 1316 0 (gN σ 7) a6) 1317 0 (gN σ 7) (gI σ 1200 0 0)) 1318 0 (gN σ 7) (-9)) 1310 0 0 = (gN σ 7 : Int) := by simp only [gI_sI, gI_sP, gI_nwO]; simp; exact s1
                  have e6 : gI (sI (sI (sI (sI (sI (sI (sI (sI (sI (sI (sI (sI (sI (sI (nwO (σ) 7) 808 (gN σ 7) 0 1000000) 809 (gN σ 7) 0 1000000) 810 (gN σ 7) 0 1000000) 811 (gN σ 7) 0 (-9)) 812 (gN σ 7) 0 (-9)) 800 (gN σ 7) 0 (gN σ 7 : Int)) 801 (gN σ 7) 0 a1) 802 (gN σ 7) 0 a2) 803 (gN σ 7) 0 a3) 804 (gN σ 7) 0 a4) 805 (gN σ 7) 0 a5) 806 (gN σ 7) 0 a6) 807 (gN σ 7) 0 (gI σ 1200 0 0)) 809 (gN σ 7) 0 (gI σ 1200 0 0)) 800 (gN σ 7) 0 = (gN σ 7 : Int) := by simp only [gI_sI, gI_nwO]; simp
                  have e7 : gI (sI (sP (sI (sI (sI (sI (sI (sI (sI (sI (sI (sI (sI (sI (sI (sI (nwO (σ) 7) 808 (gN σ 7) 0 1000000) 809 (gN σ 7) 0 1000000) 810 (gN σ 7) 0 1000000) 811 (gN σ 7) 0 (-9)) 812 (gN σ 7) 0 (-9)) 800 (gN σ 7) 0 (gN σ 7 : Int)) 801 (gN σ 7) 0 a1) 802 (gN σ 7) 0 a2) 803 (gN σ 7) 0 a3) 804 (gN σ 7) 0 a4) 805 (gN σ 7) 0 a5) 806 (gN σ 7) 0 a6) 807 (gN σ 7) 0 (gI σ 1200 0 0)) 809 (gN σ 7) 0 (gI σ 1200 0 0)) 1203 0 (gN σ 7) (some (gN σ 7))) 1204 0 0 ((gN σ 7 : Int) + 1)) 1300 0 0 = gI σ 1200 0 0 := by simp only [gI_sI, gI_sP, gI_nwO]; simp; exact t1
                  refine opW (r := (gN σ 7 : Int)) (σ1 := sI (sP (sI (sI (sI (sI (sI (sI (sI (sI (sI (sI (sI (sI (sI (sI (nwO (σ) 7) 808 (gN σ 7) 0 1000000) 809 (gN σ 7) 0 1000000) 810 (gN σ 7) 0 1000000) 811 (gN σ 7) 0 (-9)) 812 (gN σ 7) 0 (-9)) 800 (gN σ 7) 0 (gN σ 7 : Int)) 801 (gN σ 7) 0 a1) 802 (gN σ 7) 0 a2) 803 (gN σ 7) 0 a3) 804 (gN σ 7) 0 a4) 805 (gN σ 7) 0 a5) 806 (gN σ 7) 0 a6) 807 (gN σ 7) 0 (gI σ 1200 0 0)) 809 (gN σ 7) 0 (gI σ 1200 0 0)) 1203 0 (gN σ 7) (some (gN σ 7))) 1204 0 0 ((gN σ 7 : Int) + 1)) (σ2 := sI (sI (sI (sI (sI (sI (sI (sI (sI (sI (sI (sI (sI (sI (sP (sI (sI (sI (sI (sI (sI (sI (sI (sI (sI (sI (sI (sI (sI (nwO (σ) 7) 808 (gN σ 7) 0 1000000) 809 (gN σ 7) 0 1000000) 810 (gN σ 7) 0 1000000) 811 (gN σ 7) 0 (-9)) 812 (gN σ 7) 0 (-9)) 800 (gN σ 7) 0 (gN σ 7 : Int)) 801 (gN σ 7) 0 a1) 802 (gN σ 7) 0 a2) 803 (gN σ 7) 0 a3) 804 (gN σ 7) 0 a4) 805 (gN σ 7) 0 a5) 806 (gN σ 7) 0 a6) 807 (gN σ 7) 0 (gI σ 1200 0 0)) 809 (gN σ 7) 0 (gI σ 1200 0 0)) 1203 0 (gN σ 7) (some (gN σ 7))) 1204 0 0 ((gN σ 7 : Int) + 1)) 1311 0 (gN σ 7) a1) 1312 0 (gN σ 7) a2) 1313 0 (gN σ 7) a3) 1314 0 (gN σ 7) a4) 1315 0 (gN σ 7) a5) 1316 0 (gN σ 7) a6) 1317 0 (gN σ 7) (gI σ 1200 0 0)) 1318 0 (gN σ 7) (-9)) 1319 0 (gN σ 7) (gI σ 1200 0 0)) 1320 0 (gN σ 7) (-9)) 1321 0 (gN σ 7) (-9)) 1322 0 (gN σ 7) (-9)) 1310 0 0 ((gN σ 7 : Int) + 1)) ?_ ?_ ?_
                  · unfold fX11_shot
                    rw [c_isPlace_eq, bnkI, if_pos (by omega), within_eq, bnkI, if_pos (by omega), within_eq, bnkI, if_pos (by omega), c_isSubject_eq, bnkI, if_pos (by omega), c_isMarkSet_eq, bnkI, if_pos (by omega), c_isKind_eq, bnkI, if_pos (by omega)]
                    rw [s2, if_pos (by omega), lt_def, lt_def, e0]
                    unfold fX7_init fX7_init_s0 fX7_init_t
                    rw [bnd_some, ckp_pos hSF3]
                    unfold fX11_shot_t fX7_tell
                    rw [e1, e2, if_neg z, bnd_some, e3, ck_x (by omega) (by omega), ck_i (by omega) (by omega), e6, Int.toNat_natCast]
                  · unfold fX12_shot
                    rw [m_isPlace_eq, bnkI, if_pos (by omega), e7, in_eq, bnkI, if_pos (by omega), in_eq, bnkI, if_pos (by omega), in_eq, bnkI, if_pos (by omega), in_eq, bnkI, if_pos (by omega), in_eq, bnkI, if_pos (by omega), e4, if_neg (by omega)]
                    rw [ck_x (by omega) (by omega), ck_x (by omega) (by omega), ck_x (by omega) (by omega), ck_x (by omega) (by omega), ck_x (by omega) (by omega), ck_x (by omega) (by omega), ck_x (by omega) (by omega), ck_x (by omega) (by omega), if_neg z]
                    unfold fX12_shot_j198
                    rw [Int.toNat_natCast, e5, Int.toNat_natCast, ck_x (by omega) (by omega), ck_x (by omega) (by omega), ck_x (by omega) (by omega), ck_x (by omega) (by omega), ck_i (by omega) (by omega), ck_i (by omega) (by omega), Int.add_sub_cancel]
                  · have hx : ExC (kc 7 ++ [1203, 1204, 1310, 1311, 1312, 1313, 1314, 1315, 1316, 1317, 1318, 1319, 1320, 1321, 1322]) σ (sI (sI (sI (sI (sI (sI (sI (sI (sI (sI (sI (sI (sI (sI (sP (sI (sI (sI (sI (sI (sI (sI (sI (sI (sI (sI (sI (sI (sI (nwO (σ) 7) 808 (gN σ 7) 0 1000000) 809 (gN σ 7) 0 1000000) 810 (gN σ 7) 0 1000000) 811 (gN σ 7) 0 (-9)) 812 (gN σ 7) 0 (-9)) 800 (gN σ 7) 0 (gN σ 7 : Int)) 801 (gN σ 7) 0 a1) 802 (gN σ 7) 0 a2) 803 (gN σ 7) 0 a3) 804 (gN σ 7) 0 a4) 805 (gN σ 7) 0 a5) 806 (gN σ 7) 0 a6) 807 (gN σ 7) 0 (gI σ 1200 0 0)) 809 (gN σ 7) 0 (gI σ 1200 0 0)) 1203 0 (gN σ 7) (some (gN σ 7))) 1204 0 0 ((gN σ 7 : Int) + 1)) 1311 0 (gN σ 7) a1) 1312 0 (gN σ 7) a2) 1313 0 (gN σ 7) a3) 1314 0 (gN σ 7) a4) 1315 0 (gN σ 7) a5) 1316 0 (gN σ 7) a6) 1317 0 (gN σ 7) (gI σ 1200 0 0)) 1318 0 (gN σ 7) (-9)) 1319 0 (gN σ 7) (gI σ 1200 0 0)) 1320 0 (gN σ 7) (-9)) 1321 0 (gN σ 7) (-9)) 1322 0 (gN σ 7) (-9)) 1310 0 0 ((gN σ 7 : Int) + 1)) := ((((((((((((((((((((((((((((((ExC.rf (S := (kc 7 ++ [1203, 1204, 1310, 1311, 1312, 1313, 1314, 1315, 1316, 1317, 1318, 1319, 1320, 1321, 1322])) (σ := σ)).nwO (fun c hc => List.mem_append.mpr (Or.inl (kc_mem hc)))).sI (by decide)).sI (by decide)).sI (by decide)).sI (by decide)).sI (by decide)).sI (by decide)).sI (by decide)).sI (by decide)).sI (by decide)).sI (by decide)).sI (by decide)).sI (by decide)).sI (by decide)).sI (by decide)).sP (by decide)).sI (by decide)).sI (by decide)).sI (by decide)).sI (by decide)).sI (by decide)).sI (by decide)).sI (by decide)).sI (by decide)).sI (by decide)).sI (by decide)).sI (by decide)).sI (by decide)).sI (by decide)).sI (by decide)
                    have hn7 : gN (sI (sI (sI (sI (sI (sI (sI (sI (sI (sI (sI (sI (sI (sI (sP (sI (sI (sI (sI (sI (sI (sI (sI (sI (sI (sI (sI (sI (sI (nwO (σ) 7) 808 (gN σ 7) 0 1000000) 809 (gN σ 7) 0 1000000) 810 (gN σ 7) 0 1000000) 811 (gN σ 7) 0 (-9)) 812 (gN σ 7) 0 (-9)) 800 (gN σ 7) 0 (gN σ 7 : Int)) 801 (gN σ 7) 0 a1) 802 (gN σ 7) 0 a2) 803 (gN σ 7) 0 a3) 804 (gN σ 7) 0 a4) 805 (gN σ 7) 0 a5) 806 (gN σ 7) 0 a6) 807 (gN σ 7) 0 (gI σ 1200 0 0)) 809 (gN σ 7) 0 (gI σ 1200 0 0)) 1203 0 (gN σ 7) (some (gN σ 7))) 1204 0 0 ((gN σ 7 : Int) + 1)) 1311 0 (gN σ 7) a1) 1312 0 (gN σ 7) a2) 1313 0 (gN σ 7) a3) 1314 0 (gN σ 7) a4) 1315 0 (gN σ 7) a5) 1316 0 (gN σ 7) a6) 1317 0 (gN σ 7) (gI σ 1200 0 0)) 1318 0 (gN σ 7) (-9)) 1319 0 (gN σ 7) (gI σ 1200 0 0)) 1320 0 (gN σ 7) (-9)) 1321 0 (gN σ 7) (-9)) 1322 0 (gN σ 7) (-9)) 1310 0 0 ((gN σ 7 : Int) + 1)) 7 = gN σ 7 + 1 := rfl
                    have hn10 : gN (sI (sI (sI (sI (sI (sI (sI (sI (sI (sI (sI (sI (sI (sI (sP (sI (sI (sI (sI (sI (sI (sI (sI (sI (sI (sI (sI (sI (sI (nwO (σ) 7) 808 (gN σ 7) 0 1000000) 809 (gN σ 7) 0 1000000) 810 (gN σ 7) 0 1000000) 811 (gN σ 7) 0 (-9)) 812 (gN σ 7) 0 (-9)) 800 (gN σ 7) 0 (gN σ 7 : Int)) 801 (gN σ 7) 0 a1) 802 (gN σ 7) 0 a2) 803 (gN σ 7) 0 a3) 804 (gN σ 7) 0 a4) 805 (gN σ 7) 0 a5) 806 (gN σ 7) 0 a6) 807 (gN σ 7) 0 (gI σ 1200 0 0)) 809 (gN σ 7) 0 (gI σ 1200 0 0)) 1203 0 (gN σ 7) (some (gN σ 7))) 1204 0 0 ((gN σ 7 : Int) + 1)) 1311 0 (gN σ 7) a1) 1312 0 (gN σ 7) a2) 1313 0 (gN σ 7) a3) 1314 0 (gN σ 7) a4) 1315 0 (gN σ 7) a5) 1316 0 (gN σ 7) a6) 1317 0 (gN σ 7) (gI σ 1200 0 0)) 1318 0 (gN σ 7) (-9)) 1319 0 (gN σ 7) (gI σ 1200 0 0)) 1320 0 (gN σ 7) (-9)) 1321 0 (gN σ 7) (-9)) 1322 0 (gN σ 7) (-9)) 1310 0 0 ((gN σ 7 : Int) + 1)) 10 = gN σ 10 := rfl
                    have hn8 : gN (sI (sI (sI (sI (sI (sI (sI (sI (sI (sI (sI (sI (sI (sI (sP (sI (sI (sI (sI (sI (sI (sI (sI (sI (sI (sI (sI (sI (sI (nwO (σ) 7) 808 (gN σ 7) 0 1000000) 809 (gN σ 7) 0 1000000) 810 (gN σ 7) 0 1000000) 811 (gN σ 7) 0 (-9)) 812 (gN σ 7) 0 (-9)) 800 (gN σ 7) 0 (gN σ 7 : Int)) 801 (gN σ 7) 0 a1) 802 (gN σ 7) 0 a2) 803 (gN σ 7) 0 a3) 804 (gN σ 7) 0 a4) 805 (gN σ 7) 0 a5) 806 (gN σ 7) 0 a6) 807 (gN σ 7) 0 (gI σ 1200 0 0)) 809 (gN σ 7) 0 (gI σ 1200 0 0)) 1203 0 (gN σ 7) (some (gN σ 7))) 1204 0 0 ((gN σ 7 : Int) + 1)) 1311 0 (gN σ 7) a1) 1312 0 (gN σ 7) a2) 1313 0 (gN σ 7) a3) 1314 0 (gN σ 7) a4) 1315 0 (gN σ 7) a5) 1316 0 (gN σ 7) a6) 1317 0 (gN σ 7) (gI σ 1200 0 0)) 1318 0 (gN σ 7) (-9)) 1319 0 (gN σ 7) (gI σ 1200 0 0)) 1320 0 (gN σ 7) (-9)) 1321 0 (gN σ 7) (-9)) 1322 0 (gN σ 7) (-9)) 1310 0 0 ((gN σ 7 : Int) + 1)) 8 = gN σ 8 := rfl
                    have hn6 : gN (sI (sI (sI (sI (sI (sI (sI (sI (sI (sI (sI (sI (sI (sI (sP (sI (sI (sI (sI (sI (sI (sI (sI (sI (sI (sI (sI (sI (sI (nwO (σ) 7) 808 (gN σ 7) 0 1000000) 809 (gN σ 7) 0 1000000) 810 (gN σ 7) 0 1000000) 811 (gN σ 7) 0 (-9)) 812 (gN σ 7) 0 (-9)) 800 (gN σ 7) 0 (gN σ 7 : Int)) 801 (gN σ 7) 0 a1) 802 (gN σ 7) 0 a2) 803 (gN σ 7) 0 a3) 804 (gN σ 7) 0 a4) 805 (gN σ 7) 0 a5) 806 (gN σ 7) 0 a6) 807 (gN σ 7) 0 (gI σ 1200 0 0)) 809 (gN σ 7) 0 (gI σ 1200 0 0)) 1203 0 (gN σ 7) (some (gN σ 7))) 1204 0 0 ((gN σ 7 : Int) + 1)) 1311 0 (gN σ 7) a1) 1312 0 (gN σ 7) a2) 1313 0 (gN σ 7) a3) 1314 0 (gN σ 7) a4) 1315 0 (gN σ 7) a5) 1316 0 (gN σ 7) a6) 1317 0 (gN σ 7) (gI σ 1200 0 0)) 1318 0 (gN σ 7) (-9)) 1319 0 (gN σ 7) (gI σ 1200 0 0)) 1320 0 (gN σ 7) (-9)) 1321 0 (gN σ 7) (-9)) 1322 0 (gN σ 7) (-9)) 1310 0 0 ((gN σ 7 : Int) + 1)) 6 = gN σ 6 := rfl
                    have hn5 : gN (sI (sI (sI (sI (sI (sI (sI (sI (sI (sI (sI (sI (sI (sI (sP (sI (sI (sI (sI (sI (sI (sI (sI (sI (sI (sI (sI (sI (sI (nwO (σ) 7) 808 (gN σ 7) 0 1000000) 809 (gN σ 7) 0 1000000) 810 (gN σ 7) 0 1000000) 811 (gN σ 7) 0 (-9)) 812 (gN σ 7) 0 (-9)) 800 (gN σ 7) 0 (gN σ 7 : Int)) 801 (gN σ 7) 0 a1) 802 (gN σ 7) 0 a2) 803 (gN σ 7) 0 a3) 804 (gN σ 7) 0 a4) 805 (gN σ 7) 0 a5) 806 (gN σ 7) 0 a6) 807 (gN σ 7) 0 (gI σ 1200 0 0)) 809 (gN σ 7) 0 (gI σ 1200 0 0)) 1203 0 (gN σ 7) (some (gN σ 7))) 1204 0 0 ((gN σ 7 : Int) + 1)) 1311 0 (gN σ 7) a1) 1312 0 (gN σ 7) a2) 1313 0 (gN σ 7) a3) 1314 0 (gN σ 7) a4) 1315 0 (gN σ 7) a5) 1316 0 (gN σ 7) a6) 1317 0 (gN σ 7) (gI σ 1200 0 0)) 1318 0 (gN σ 7) (-9)) 1319 0 (gN σ 7) (gI σ 1200 0 0)) 1320 0 (gN σ 7) (-9)) 1321 0 (gN σ 7) (-9)) 1322 0 (gN σ 7) (-9)) 1310 0 0 ((gN σ 7 : Int) + 1)) 5 = gN σ 5 := rfl
                    have hm7 : gN σ 7 ≤ gN (sI (sI (sI (sI (sI (sI (sI (sI (sI (sI (sI (sI (sI (sI (sP (sI (sI (sI (sI (sI (sI (sI (sI (sI (sI (sI (sI (sI (sI (nwO (σ) 7) 808 (gN σ 7) 0 1000000) 809 (gN σ 7) 0 1000000) 810 (gN σ 7) 0 1000000) 811 (gN σ 7) 0 (-9)) 812 (gN σ 7) 0 (-9)) 800 (gN σ 7) 0 (gN σ 7 : Int)) 801 (gN σ 7) 0 a1) 802 (gN σ 7) 0 a2) 803 (gN σ 7) 0 a3) 804 (gN σ 7) 0 a4) 805 (gN σ 7) 0 a5) 806 (gN σ 7) 0 a6) 807 (gN σ 7) 0 (gI σ 1200 0 0)) 809 (gN σ 7) 0 (gI σ 1200 0 0)) 1203 0 (gN σ 7) (some (gN σ 7))) 1204 0 0 ((gN σ 7 : Int) + 1)) 1311 0 (gN σ 7) a1) 1312 0 (gN σ 7) a2) 1313 0 (gN σ 7) a3) 1314 0 (gN σ 7) a4) 1315 0 (gN σ 7) a5) 1316 0 (gN σ 7) a6) 1317 0 (gN σ 7) (gI σ 1200 0 0)) 1318 0 (gN σ 7) (-9)) 1319 0 (gN σ 7) (gI σ 1200 0 0)) 1320 0 (gN σ 7) (-9)) 1321 0 (gN σ 7) (-9)) 1322 0 (gN σ 7) (-9)) 1310 0 0 ((gN σ 7 : Int) + 1)) 7 := by rw [hn7]; omega
                    refine ⟨hT.exc hx (dj_use (by decide +kernel)), hW.exc hx (dj_use (by decide +kernel)) hn10, ?_, hF.exc hx (dj_use (by decide +kernel)), hY.exc hx (dj_use (by decide +kernel)) hn8 hm7, hA.exc hx (dj_use (by decide +kernel)), hL.exc hx (dj_use (by decide +kernel)) hn6, hG.exc hx (dj_use (by decide +kernel)) hn5, hE.exc hx (dj_use (by decide +kernel)), hC.exc hx (dj_use (by decide +kernel)), hH.exc hx (dj_use (by decide +kernel)), hQ.exc hx (dj_use (by decide +kernel))⟩
                    refine ⟨?_, ?_, by rw [hn7]; omega, fun i hi => ?_⟩
                    · rw [hn7]; simp only [gI_sI]; simp
                    · rw [hn7]; simp only [gI_sI]; simp
                    · rw [hn7] at hi
                      unfold RS1 RX
                      by_cases q : i = gN σ 7
                      · subst q
                        simp only [gP_sI, gP_sP, gI_sI, gI_sP, gI_nwO, gP_nwO]
                        simp
                        omega
                      · have := s4 i (by omega)
                        unfold RS1 RX at this
                        simp only [gP_sI, gP_sP, gI_sI, gI_sP, gI_nwO, gP_nwO]
                        simp [q]
                        simpa using this
              · refine opW (r := -4) (σ1 := σ) (σ2 := σ) ?_ ?_ hR
                · unfold fX11_shot
                  rw [c_isPlace_eq, bnkI, if_pos (by omega), within_eq, bnkI, if_pos (by omega), within_eq, bnkI, if_pos (by omega), c_isSubject_eq, bnkI, if_pos (by omega), c_isMarkSet_eq, bnkI, if_pos (by omega), c_isKind_eq, bnkI, if_pos (by omega), s2, if_neg (by omega)]
                · unfold fX12_shot
                  rw [m_isPlace_eq, bnkI, if_pos (by omega), t1, in_eq, bnkI, if_pos (by omega), in_eq, bnkI, if_pos (by omega), in_eq, bnkI, if_pos (by omega), in_eq, bnkI, if_pos (by omega), in_eq, bnkI, if_pos (by omega), s1, if_pos (by omega)]
            · refine opW (r := -2) (σ1 := σ) (σ2 := σ) ?_ ?_ hR
              · unfold fX11_shot
                rw [c_isPlace_eq, bnkI, if_pos (by omega), within_eq, bnkI, if_pos (by omega), within_eq, bnkI, if_pos (by omega), c_isSubject_eq, bnkI, if_pos (by omega), c_isMarkSet_eq, bnkI, if_pos (by omega), c_isKind_eq, bnkI, if_neg (by omega)]
              · unfold fX12_shot
                rw [m_isPlace_eq, bnkI, if_pos (by omega), t1, in_eq, bnkI, if_pos (by omega), in_eq, bnkI, if_pos (by omega), in_eq, bnkI, if_pos (by omega), in_eq, bnkI, if_pos (by omega), in_eq, bnkI, if_neg (by omega)]
          · refine opW (r := -2) (σ1 := σ) (σ2 := σ) ?_ ?_ hR
            · unfold fX11_shot
              rw [c_isPlace_eq, bnkI, if_pos (by omega), within_eq, bnkI, if_pos (by omega), within_eq, bnkI, if_pos (by omega), c_isSubject_eq, bnkI, if_pos (by omega), c_isMarkSet_eq, bnkI, if_neg (by omega)]
            · unfold fX12_shot
              rw [m_isPlace_eq, bnkI, if_pos (by omega), t1, in_eq, bnkI, if_pos (by omega), in_eq, bnkI, if_pos (by omega), in_eq, bnkI, if_pos (by omega), in_eq, bnkI, if_neg (by omega)]
        · refine opW (r := -2) (σ1 := σ) (σ2 := σ) ?_ ?_ hR
          · unfold fX11_shot
            rw [c_isPlace_eq, bnkI, if_pos (by omega), within_eq, bnkI, if_pos (by omega), within_eq, bnkI, if_pos (by omega), c_isSubject_eq, bnkI, if_neg (by omega)]
          · unfold fX12_shot
            rw [m_isPlace_eq, bnkI, if_pos (by omega), t1, in_eq, bnkI, if_pos (by omega), in_eq, bnkI, if_pos (by omega), in_eq, bnkI, if_neg (by omega)]
      · refine opW (r := -2) (σ1 := σ) (σ2 := σ) ?_ ?_ hR
        · unfold fX11_shot
          rw [c_isPlace_eq, bnkI, if_pos (by omega), within_eq, bnkI, if_pos (by omega), within_eq, bnkI, if_neg (by omega)]
        · unfold fX12_shot
          rw [m_isPlace_eq, bnkI, if_pos (by omega), t1, in_eq, bnkI, if_pos (by omega), in_eq, bnkI, if_neg (by omega)]
    · refine opW (r := -2) (σ1 := σ) (σ2 := σ) ?_ ?_ hR
      · unfold fX11_shot
        rw [c_isPlace_eq, bnkI, if_pos (by omega), within_eq, bnkI, if_neg (by omega)]
      · unfold fX12_shot
        rw [m_isPlace_eq, bnkI, if_pos (by omega), t1, in_eq, bnkI, if_neg (by omega)]
  · refine opW (r := -1) (σ1 := σ) (σ2 := σ) ?_ ?_ hR
    · unfold fX11_shot
      rw [c_isPlace_eq, bnkI, if_neg (by omega)]
    · unfold fX12_shot
      rw [m_isPlace_eq, bnkI, if_neg (by omega)]
