/-- the hour goes on -/
theorem RX.mono {h h2 c m lo : Int} (q : RX h c m lo) (hh : h ≤ h2) : RX h2 c m lo := by
  unfold RX at q ⊢
  omega
theorem op_0 : OP0 RR := by
  intro a1 ha1 σ hSF hR
  obtain ⟨hT, hW, hS, hF, hY, hA, hL, hG, hE, hC, hH, hQ⟩ := hR
  obtain ⟨t1, t2, t3⟩ := id hT
  by_cases p1 : 1 ≤ a1 ∧ a1 ≤ 500
  · have hi : inr (gI σ 1200 0 0 + a1) := by constructor <;> omega
    by_cases p2 : gI σ 1200 0 0 + a1 ≤ 9999
    · refine opW (r := gI σ 1200 0 0 + a1) (σ1 := sI σ 1200 0 0 (gI σ 1200 0 0 + a1)) (σ2 := sI (sI σ 1200 0 0 (gI σ 1200 0 0 + a1)) 1300 0 0 (gI σ 1200 0 0 + a1)) ?_ ?_ ?_
      · unfold fX11_pass
        rw [within_eq, bnkI, if_pos p1, ck_pos hi, if_pos p2, ck_pos hi]
      · unfold fX12_pass
        have e1 : gI (sI σ 1200 0 0 (gI σ 1200 0 0 + a1)) 1300 0 0 = gI σ 1200 0 0 := by rw [ii (by decide), t1]
        rw [in_eq, bnkI, if_pos p1, e1, ck_pos hi, if_pos p2, ck_pos hi]
      · have hx : Ex [1200, 1300] σ (sI (sI σ 1200 0 0 (gI σ 1200 0 0 + a1)) 1300 0 0 (gI σ 1200 0 0 + a1)) := (Ex.rf.sI (by decide)).sI (by decide)
        have e0 : gI (sI (sI σ 1200 0 0 (gI σ 1200 0 0 + a1)) 1300 0 0 (gI σ 1200 0 0 + a1)) 1200 0 0 = gI σ 1200 0 0 + a1 := by rw [ii (by decide), gs]
        have e2 : gI (sI (sI σ 1200 0 0 (gI σ 1200 0 0 + a1)) 1300 0 0 (gI σ 1200 0 0 + a1)) 1300 0 0 = gI σ 1200 0 0 + a1 := gs
        refine ⟨⟨by rw [e0, e2], by rw [e0]; omega, by rw [e0]; exact p2⟩, hW.ex hx (dj_use (by decide)), ?_, hF.ex hx (dj_use (by decide)), hY.ex hx (dj_use (by decide)), hA.ex hx (dj_use (by decide)), hL.ex hx (dj_use (by decide)), hG.ex hx (dj_use (by decide)), hE.ex hx (dj_use (by decide)), hC.ex hx (dj_use (by decide)), hH.ex hx (dj_use (by decide)), hQ.ex hx (dj_use (by decide))⟩
        generalize sI (sI σ 1200 0 0 (gI σ 1200 0 0 + a1)) 1300 0 0 (gI σ 1200 0 0 + a1) = σ2 at hx e0
        obtain ⟨s1, s2, s3, s4⟩ := hS
        have hi2 : ∀ c, c ∉ [1200, 1300] → ∀ j e, gI σ2 c j e = gI σ c j e := fun c hc j e => hx.i hc j e
        refine ⟨by rw [hi2 1310 (by decide), hx.n]; exact s1, by rw [hi2 1204 (by decide), hx.n]; exact s2, by rw [hx.n]; exact s3, fun i hi => ?_⟩
        rw [hx.n] at hi
        have := s4 i hi
        unfold RS1 at this ⊢
        rw [hx.p (c := 1203) (by decide)]
        simp only [hi2 800 (by decide), hi2 801 (by decide), hi2 802 (by decide), hi2 803 (by decide), hi2 804 (by decide), hi2 805 (by decide), hi2 806 (by decide), hi2 807 (by decide), hi2 808 (by decide), hi2 809 (by decide), hi2 810 (by decide), hi2 811 (by decide), hi2 812 (by decide), hi2 1311 (by decide), hi2 1312 (by decide), hi2 1313 (by decide), hi2 1314 (by decide), hi2 1315 (by decide), hi2 1316 (by decide), hi2 1317 (by decide), hi2 1318 (by decide), hi2 1319 (by decide), hi2 1320 (by decide), hi2 1321 (by decide), hi2 1322 (by decide), e0]
        obtain ⟨q1, q2, q3, q4, q5, q6, q7, q8, q9, r1, r2, r3, r4, r5, r6, r7, x1, x2, x3, x4⟩ := this
        exact ⟨q1, q2, q3, q4, q5, q6, q7, q8, q9, r1, r2, r3, r4, r5, r6, ⟨r7.1, by omega⟩, x1.mono (by omega), x2.mono (by omega), x3.mono (by omega), x4⟩
    · refine opW (r := -4) (σ1 := σ) (σ2 := σ) ?_ ?_ ⟨hT, hW, hS, hF, hY, hA, hL, hG, hE, hC, hH, hQ⟩
      · unfold fX11_pass
        rw [within_eq, bnkI, if_pos p1, ck_pos hi, if_neg p2]
      · unfold fX12_pass
        rw [in_eq, bnkI, if_pos p1, t1, ck_pos hi, if_neg p2]
  · refine opW (r := -2) (σ1 := σ) (σ2 := σ) ?_ ?_ ⟨hT, hW, hS, hF, hY, hA, hL, hG, hE, hC, hH, hQ⟩
    · unfold fX11_pass
      rw [within_eq, bnkI, if_neg p1]
    · unfold fX12_pass
      rw [in_eq, bnkI, if_neg p1]
theorem op_21 : OP21 RR := by
  intro a1 ha1 σ hSF hR
  obtain ⟨hT, hW, hS, hF, hY, hA, hL, hG, hE, hC, hH, hQ⟩ := hR
  obtain ⟨t1, t2, t3⟩ := id hA
  by_cases p1 : 0 ≤ a1 ∧ a1 ≤ 400
  · refine opW (r := gI σ 1207 0 0) (σ1 := sI σ 1207 0 0 a1) (σ2 := sI (sI σ 1207 0 0 a1) 1335 0 0 a1) ?_ ?_ ?_
    · unfold fX11_age
      rw [within_eq, bnkI, if_pos p1]
    · unfold fX12_age
      rw [in_eq, bnkI, if_pos p1, ii (by decide), t1]
    · have hx : Ex [1207, 1335] σ (sI (sI σ 1207 0 0 a1) 1335 0 0 a1) := (Ex.rf.sI (by decide)).sI (by decide)
      have e0 : gI (sI (sI σ 1207 0 0 a1) 1335 0 0 a1) 1207 0 0 = a1 := by rw [ii (by decide), gs]
      have e2 : gI (sI (sI σ 1207 0 0 a1) 1335 0 0 a1) 1335 0 0 = a1 := gs
      refine ⟨hT.ex hx (dj_use (by decide)), hW.ex hx (dj_use (by decide)), hS.ex hx (dj_use (by decide)), hF.ex hx (dj_use (by decide)), hY.ex hx (dj_use (by decide)), ⟨by rw [e0, e2], by rw [e0]; exact p1, fun i hi => ?_⟩, hL.ex hx (dj_use (by decide)), hG.ex hx (dj_use (by decide)), hE.ex hx (dj_use (by decide)), hC.ex hx (dj_use (by decide)), hH.ex hx (dj_use (by decide)), hQ.ex hx (dj_use (by decide))⟩
      rw [hx.i (c := 1336) (by decide), hx.i (c := 1208) (by decide)]
      exact t3 i hi
  · refine opW (r := -2) (σ1 := σ) (σ2 := σ) ?_ ?_ ⟨hT, hW, hS, hF, hY, hA, hL, hG, hE, hC, hH, hQ⟩
    · unfold fX11_age
      rw [within_eq, bnkI, if_neg p1]
    · unfold fX12_age
      rw [in_eq, bnkI, if_neg p1]
