noncomputable def fX12_event (x1 : Int) (x2 : Int) (x3 : Int) (σ : St) : Option (Int × St) :=
  bnk (fX12_isPlace x1) (fun r3 => if r3 = 0 then (some ((-1), σ)) else (bnk (fX12_isHour x2) (fun r6 => if r6 = 0 then (some ((-2), σ)) else (bnk (fX12_in x3 1 999) (fun r9 => if r9 = 0 then (some ((-2), σ)) else (if gI σ 1369 0 0 = 8 then (some ((-4), σ)) else (ck (0 ≤ gI σ 1369 0 0 ∧ gI σ 1369 0 0 < 8) (ck (0 ≤ gI σ 1369 0 0 ∧ gI σ 1369 0 0 < 8) (ck (0 ≤ gI σ 1369 0 0 ∧ gI σ 1369 0 0 < 8) (ck (inr ((gI σ 1369 0 0) + 1)) (ck (inr (((gI σ 1369 0 0) + 1) - 1)) (some (((gI σ 1369 0 0) + 1) - 1, sI (sI (sI (sI σ 1370 0 ((gI σ 1369 0 0).toNat) x1) 1371 0 ((gI σ 1369 0 0).toNat) x2) 1372 0 ((gI σ 1369 0 0).toNat) x3) 1369 0 0 ((gI σ 1369 0 0) + 1))))))))))))))
set_option maxRecDepth 20000 in
set_option maxHeartbeats 4000000 in
theorem ct_X12_event (x1 : Int) (x2 : Int) (x3 : Int) (hx1 : inr x1) (hx2 : inr x2) (hx3 : inr x3) : Ct yX12_event cX12_event 4 (some .int) 2 (fun ad => [vo ad 12 (some 0), vi x1, vi x2, vi x3]) (fX12_event x1 x2 x3) enI okI (fun _ => True) := by
  refine Ct.of (by decide) (fun ad => Nat.le_of_ble_eq_true rfl) ?_
  intro κ ad σ X C T hpre h
  have C : Cx κ RX12 cX12_event 4 (some .int) 2 := C
  unfold fX12_event at h
  show Z κ (0, 0) (Qm κ ad σ enI okI X) 0 [(0, vo ad 12 (some 0)), (1, vi x1), (2, vi x2), (3, vi x3)] [] ad σ
  refine z_rng (fun hI1 hJ2 => ?_)
  refine z_iload_n C 1 dX12_event_0 rfl ?_
  refine z_cSp (st := []) T C (ct_X12_isPlace x1 hx1) lm_X12_258 ls_X12_isPlace dX12_event_1 rfl rfl trivial (by decide) (Nat.le_of_ble_eq_true rfl) csOK_0 h (fun r3 hr4 h => ?_)
  show Z κ (0, 0) _ 4 _ [vi r3] ad σ
  refine z_if_ne C 9 (inr_b hr4) dX12_event_4 (by decide) (fun q5 => ?_) (fun q5 => ?_)
  · have h := (wpO_ite.mp h).2 q5
    refine z_iload_n C 2 dX12_event_9 rfl ?_
    refine z_cSp (st := []) T C (ct_X12_isHour x2 hx2) lm_X12_262 ls_X12_isHour dX12_event_10 rfl rfl trivial (by decide) (Nat.le_of_ble_eq_true rfl) csOK_0 h (fun r6 hr7 h => ?_)
    show Z κ (0, 0) _ 13 _ [vi r6] ad σ
    refine z_if_eq C 28 (inr_b hr7) dX12_event_13 (by decide) (fun q8 => ?_) (fun q8 => ?_)
    · have h := (wpO_ite.mp h).1 q8
      refine z_bipush C dX12_event_28 (by decide) ?_
      have h := wpO_some.mp h
      exact z_ireturn T C dX12_event_30 (by decide) rfl h
    · have h := (wpO_ite.mp h).2 q8
      refine z_iload_n C 3 dX12_event_16 rfl ?_
      refine z_i2l C hx3 dX12_event_17 ?_
      refine z_lconst (z := 1) C dX12_event_18 (by decide) ?_
      refine z_ldc2_w C lc_X12_314 dX12_event_19 ?_
      refine z_cSp (st := []) T C (ct_X12_in x3 1 999 (inq_i hx3) (by decide) (by decide)) lm_X12_245 ls_X12_in dX12_event_22 rfl rfl trivial (by decide) (Nat.le_of_ble_eq_true rfl) csOK_0 h (fun r9 hr10 h => ?_)
      show Z κ (0, 0) _ 25 _ [vi r9] ad σ
      refine z_if_ne C 31 (inr_b hr10) dX12_event_25 (by decide) (fun q11 => ?_) (fun q11 => ?_)
      · have h := (wpO_ite.mp h).2 q11
        refine z_aload_n C 0 dX12_event_31 rfl ?_
        refine z_gIv (v := gI σ 1369 0 0) C li_X12_436 (sg_12 T) rfl dX12_event_32 ?_
        refine z_bipush C dX12_event_35 (by decide) ?_
        refine z_icmp_ne C 43 (hI1 1369 0 _) (by decide) dX12_event_37 (by decide) (fun q12 => ?_) (fun q12 => ?_)
        · have h := (wpO_ite.mp h).2 q12
          refine z_aload_n C 0 dX12_event_43 rfl ?_
          refine z_gA T C li_X12_183 (sg_12 T) dX12_event_44 ?_
          refine z_aload_n C 0 dX12_event_47 rfl ?_
          refine z_gIv (v := gI σ 1369 0 0) C li_X12_436 (sg_12 T) rfl dX12_event_48 ?_
          refine z_iload_n C 1 dX12_event_51 rfl ?_
          obtain ⟨hb13, h⟩ := wpO_ck.mp h
          refine z_iastore C ar_1370 (sg_1370 T) (hI1 1369 0 _) hb13 hx1 dX12_event_52 ?_
          refine z_aload_n C 0 dX12_event_53 rfl ?_
          refine z_gA T C li_X12_186 (sg_12 T) dX12_event_54 ?_
          refine z_aload_n C 0 dX12_event_57 rfl ?_
          refine z_gIv (v := gI σ 1369 0 0) C li_X12_436 (sg_12 T) (gn (by decide) rfl) dX12_event_58 ?_
          refine z_iload_n C 2 dX12_event_61 rfl ?_
          obtain ⟨hb14, h⟩ := wpO_ck.mp h
          refine z_iastore C ar_1371 (sg_1371 T) (hI1 1369 0 _) hb14 hx2 dX12_event_62 ?_
          refine z_aload_n C 0 dX12_event_63 rfl ?_
          refine z_gA T C li_X12_189 (sg_12 T) dX12_event_64 ?_
          refine z_aload_n C 0 dX12_event_67 rfl ?_
          refine z_gIv (v := gI σ 1369 0 0) C li_X12_436 (sg_12 T) (gn (by decide) (gn (by decide) rfl)) dX12_event_68 ?_
          refine z_iload_n C 3 dX12_event_71 rfl ?_
          obtain ⟨hb15, h⟩ := wpO_ck.mp h
          refine z_iastore C ar_1372 (sg_1372 T) (hI1 1369 0 _) hb15 hx3 dX12_event_72 ?_
          refine z_aload_n C 0 dX12_event_73 rfl ?_
          refine z_dup C dX12_event_74 rfl ?_
          refine z_gIv (v := gI σ 1369 0 0) C li_X12_436 (sg_12 T) (gn (by decide) (gn (by decide) (gn (by decide) rfl))) dX12_event_75 ?_
          refine z_iconst C dX12_event_78 ?_
          obtain ⟨hk16, h⟩ := wpO_ck.mp h
          refine z_iadd C dX12_event_79 ?_
          refine z_pI C lq_X12_436 (sg_12 T) hk16 dX12_event_80 ?_
          refine z_aload_n C 0 dX12_event_83 rfl ?_
          refine z_gIv (v := (gI σ 1369 0 0) + 1) C li_X12_436 (sg_12 T) gs dX12_event_84 ?_
          refine z_iconst C dX12_event_87 ?_
          obtain ⟨hk17, h⟩ := wpO_ck.mp h
          refine z_isub C dX12_event_88 ?_
          have h := wpO_some.mp h
          exact z_ireturn T C dX12_event_89 hk17 rfl h
        · have h := (wpO_ite.mp h).1 q12
          refine z_bipush C dX12_event_40 (by decide) ?_
          have h := wpO_some.mp h
          exact z_ireturn T C dX12_event_42 (by decide) rfl h
      · have h := (wpO_ite.mp h).1 q11
        refine z_bipush C dX12_event_28 (by decide) ?_
        have h := wpO_some.mp h
        exact z_ireturn T C dX12_event_30 (by decide) rfl h
  · have h := (wpO_ite.mp h).1 q5
    refine z_iconst C dX12_event_7 ?_
    have h := wpO_some.mp h
    exact z_ireturn T C dX12_event_8 (by decide) rfl h
noncomputable def fX12_expected (x1 : Int) (x2 : Int) (σ : St) : Option Int :=
  bnk (fX12_isShot x1 σ) (fun r3 => if r3 = 0 then (some ((-1))) else (if x2 = 0 then (ck (0 ≤ x1 ∧ x1 < 40) (some (gI σ 1321 0 x1.toNat))) else (ck (0 ≤ x1 ∧ x1 < 40) (some (gI σ 1322 0 x1.toNat)))))
set_option maxRecDepth 20000 in
set_option maxHeartbeats 4000000 in
theorem ct_X12_expected (x1 : Int) (x2 : Int) (hx1 : inr x1) (hx2 : x2 = 0 ∨ x2 = 1) : Ct yX12_expected cX12_expected 3 (some .int) 2 (fun ad => [vo ad 12 (some 0), vi x1, vi x2]) (pu (fX12_expected x1 x2)) enI okI (fun _ => True) := by
  refine Ct.of (by decide) (fun ad => Nat.le_of_ble_eq_true rfl) ?_
  intro κ ad σ X C T hpre h
  have C : Cx κ RX12 cX12_expected 3 (some .int) 2 := C
  have h := wpO_pu.mp h
  unfold fX12_expected at h
  show Z κ (0, 0) (Qm κ ad σ enI okI X) 0 [(0, vo ad 12 (some 0)), (1, vi x1), (2, vi x2)] [] ad σ
  refine z_rng (fun hI1 hJ2 => ?_)
  refine z_aload_n C 0 dX12_expected_0 rfl ?_
  refine z_iload_n C 1 dX12_expected_1 rfl ?_
  refine z_cVp (st := []) T C (ct_X12_isShot x1 hx1) lm_X12_290 lv_vX12_isShot dX12_expected_2 [vi x1] rfl rfl rfl rfl rfl (sg_12 T) trivial (by decide) (Nat.le_of_ble_eq_true rfl) csOK_0 h (fun r3 hr4 h => ?_)
  show Z κ (0, 0) _ 5 _ [vi r3] ad σ
  refine z_if_ne C 12 (inr_b hr4) dX12_expected_5 (by decide) (fun q5 => ?_) (fun q5 => ?_)
  · have h := (wpO_ite.mp h).2 q5
    refine z_iload_n C 2 dX12_expected_12 rfl ?_
    refine z_if_eq C 25 (inr_b hx2) dX12_expected_13 (by decide) (fun q6 => ?_) (fun q6 => ?_)
    · have h := (wpO_ite.mp h).1 q6
      refine z_aload_n C 0 dX12_expected_25 rfl ?_
      refine z_gA T C li_X12_65 (sg_12 T) dX12_expected_26 ?_
      refine z_iload_n C 1 dX12_expected_29 rfl ?_
      obtain ⟨hb7, h⟩ := wpO_ck.mp h
      refine z_iav (v := gI σ 1321 0 x1.toNat) C ar_1321 (sg_1321 T) hx1 hb7 rfl dX12_expected_30 ?_
      have h := wpO_some.mp h
      exact z_ireturn T C dX12_expected_31 (hI1 1321 0 _) rfl h
    · have h := (wpO_ite.mp h).2 q6
      refine z_aload_n C 0 dX12_expected_16 rfl ?_
      refine z_gA T C li_X12_68 (sg_12 T) dX12_expected_17 ?_
      refine z_iload_n C 1 dX12_expected_20 rfl ?_
      obtain ⟨hb8, h⟩ := wpO_ck.mp h
      refine z_iav (v := gI σ 1322 0 x1.toNat) C ar_1322 (sg_1322 T) hx1 hb8 rfl dX12_expected_21 ?_
      refine z_goto C 31 dX12_expected_22 (by decide) ?_
      have h := wpO_some.mp h
      exact z_ireturn T C dX12_expected_31 (hI1 1322 0 _) rfl h
  · have h := (wpO_ite.mp h).1 q5
    refine z_iconst C dX12_expected_8 ?_
    refine z_goto C 31 dX12_expected_9 (by decide) ?_
    have h := wpO_some.mp h
    exact z_ireturn T C dX12_expected_31 (by decide) rfl h
noncomputable def fX12_fact (x1 : Int) (x2 : Int) (x3 : Int) (x4 : Int) (σ : St) : Option (Int × St) :=
  bnk (fX12_in x1 0 7) (fun r3 => if r3 = 0 then (some ((-1), σ)) else (bnk (fX12_in x2 0 255) (fun r6 => if r6 = 0 then (some ((-2), σ)) else (bnk (fX12_in x3 0 364) (fun r9 => if r9 = 0 then (some ((-2), σ)) else (bnk (fX12_in x4 0 364) (fun r12 => if r12 = 0 then (some ((-2), σ)) else (ck (0 ≤ x1 ∧ x1 < 8) (ck (0 ≤ x1 ∧ x1 < 8) (ck (0 ≤ x1 ∧ x1 < 8) (some (1, sI (sI (sI σ 1323 0 x1.toNat x2) 1324 0 x1.toNat x3) 1325 0 x1.toNat x4))))))))))))
set_option maxRecDepth 20000 in
set_option maxHeartbeats 4000000 in
theorem ct_X12_fact (x1 : Int) (x2 : Int) (x3 : Int) (x4 : Int) (hx1 : inr x1) (hx2 : inr x2) (hx3 : inr x3) (hx4 : inr x4) : Ct yX12_fact cX12_fact 5 (some .int) 1 (fun ad => [vo ad 12 (some 0), vi x1, vi x2, vi x3, vi x4]) (fX12_fact x1 x2 x3 x4) enI okI (fun _ => True) := by
  refine Ct.of (by decide) (fun ad => Nat.le_of_ble_eq_true rfl) ?_
  intro κ ad σ X C T hpre h
  have C : Cx κ RX12 cX12_fact 5 (some .int) 1 := C
  unfold fX12_fact at h
  show Z κ (0, 0) (Qm κ ad σ enI okI X) 0 [(0, vo ad 12 (some 0)), (1, vi x1), (2, vi x2), (3, vi x3), (4, vi x4)] [] ad σ
  refine z_rng (fun hI1 hJ2 => ?_)
  refine z_iload_n C 1 dX12_fact_0 rfl ?_
  refine z_i2l C hx1 dX12_fact_1 ?_
  refine z_lconst (z := 0) C dX12_fact_2 (by decide) ?_
  refine z_ldc2_w C lc_X12_251 dX12_fact_3 ?_
  refine z_cSp (st := []) T C (ct_X12_in x1 0 7 (inq_i hx1) (by decide) (by decide)) lm_X12_245 ls_X12_in dX12_fact_6 rfl rfl trivial (by decide) (Nat.le_of_ble_eq_true rfl) csOK_0 h (fun r3 hr4 h => ?_)
  show Z κ (0, 0) _ 9 _ [vi r3] ad σ
  refine z_if_ne C 14 (inr_b hr4) dX12_fact_9 (by decide) (fun q5 => ?_) (fun q5 => ?_)
  · have h := (wpO_ite.mp h).2 q5
    refine z_iload_n C 2 dX12_fact_14 rfl ?_
    refine z_i2l C hx2 dX12_fact_15 ?_
    refine z_lconst (z := 0) C dX12_fact_16 (by decide) ?_
    refine z_ldc2_w C lc_X12_286 dX12_fact_17 ?_
    refine z_cSp (st := []) T C (ct_X12_in x2 0 255 (inq_i hx2) (by decide) (by decide)) lm_X12_245 ls_X12_in dX12_fact_20 rfl rfl trivial (by decide) (Nat.le_of_ble_eq_true rfl) csOK_0 h (fun r6 hr7 h => ?_)
    show Z κ (0, 0) _ 23 _ [vi r6] ad σ
    refine z_if_eq C 51 (inr_b hr7) dX12_fact_23 (by decide) (fun q8 => ?_) (fun q8 => ?_)
    · have h := (wpO_ite.mp h).1 q8
      refine z_bipush C dX12_fact_51 (by decide) ?_
      have h := wpO_some.mp h
      exact z_ireturn T C dX12_fact_53 (by decide) rfl h
    · have h := (wpO_ite.mp h).2 q8
      refine z_iload_n C 3 dX12_fact_26 rfl ?_
      refine z_i2l C hx3 dX12_fact_27 ?_
      refine z_lconst (z := 0) C dX12_fact_28 (by decide) ?_
      refine z_ldc2_w C lc_X12_301 dX12_fact_29 ?_
      refine z_cSp (st := []) T C (ct_X12_in x3 0 364 (inq_i hx3) (by decide) (by decide)) lm_X12_245 ls_X12_in dX12_fact_32 rfl rfl trivial (by decide) (Nat.le_of_ble_eq_true rfl) csOK_0 h (fun r9 hr10 h => ?_)
      show Z κ (0, 0) _ 35 _ [vi r9] ad σ
      refine z_if_eq C 51 (inr_b hr10) dX12_fact_35 (by decide) (fun q11 => ?_) (fun q11 => ?_)
      · have h := (wpO_ite.mp h).1 q11
        refine z_bipush C dX12_fact_51 (by decide) ?_
        have h := wpO_some.mp h
        exact z_ireturn T C dX12_fact_53 (by decide) rfl h
      · have h := (wpO_ite.mp h).2 q11
        refine z_iload C 4 dX12_fact_38 rfl ?_
        refine z_i2l C hx4 dX12_fact_40 ?_
        refine z_lconst (z := 0) C dX12_fact_41 (by decide) ?_
        refine z_ldc2_w C lc_X12_301 dX12_fact_42 ?_
        refine z_cSp (st := []) T C (ct_X12_in x4 0 364 (inq_i hx4) (by decide) (by decide)) lm_X12_245 ls_X12_in dX12_fact_45 rfl rfl trivial (by decide) (Nat.le_of_ble_eq_true rfl) csOK_0 h (fun r12 hr13 h => ?_)
        show Z κ (0, 0) _ 48 _ [vi r12] ad σ
        refine z_if_ne C 54 (inr_b hr13) dX12_fact_48 (by decide) (fun q14 => ?_) (fun q14 => ?_)
        · have h := (wpO_ite.mp h).2 q14
          refine z_aload_n C 0 dX12_fact_54 rfl ?_
          refine z_gA T C li_X12_71 (sg_12 T) dX12_fact_55 ?_
          refine z_iload_n C 1 dX12_fact_58 rfl ?_
          refine z_iload_n C 2 dX12_fact_59 rfl ?_
          obtain ⟨hb15, h⟩ := wpO_ck.mp h
          refine z_iastore C ar_1323 (sg_1323 T) hx1 hb15 hx2 dX12_fact_60 ?_
          refine z_aload_n C 0 dX12_fact_61 rfl ?_
          refine z_gA T C li_X12_74 (sg_12 T) dX12_fact_62 ?_
          refine z_iload_n C 1 dX12_fact_65 rfl ?_
          refine z_iload_n C 3 dX12_fact_66 rfl ?_
          obtain ⟨hb16, h⟩ := wpO_ck.mp h
          refine z_iastore C ar_1324 (sg_1324 T) hx1 hb16 hx3 dX12_fact_67 ?_
          refine z_aload_n C 0 dX12_fact_68 rfl ?_
          refine z_gA T C li_X12_77 (sg_12 T) dX12_fact_69 ?_
          refine z_iload_n C 1 dX12_fact_72 rfl ?_
          refine z_iload C 4 dX12_fact_73 rfl ?_
          obtain ⟨hb17, h⟩ := wpO_ck.mp h
          refine z_iastore C ar_1325 (sg_1325 T) hx1 hb17 hx4 dX12_fact_75 ?_
          refine z_iconst C dX12_fact_76 ?_
          have h := wpO_some.mp h
          exact z_ireturn T C dX12_fact_77 (by decide) rfl h
        · have h := (wpO_ite.mp h).1 q14
          refine z_bipush C dX12_fact_51 (by decide) ?_
          have h := wpO_some.mp h
          exact z_ireturn T C dX12_fact_53 (by decide) rfl h
  · have h := (wpO_ite.mp h).1 q5
    refine z_iconst C dX12_fact_12 ?_
    have h := wpO_some.mp h
    exact z_ireturn T C dX12_fact_13 (by decide) rfl h
noncomputable def fX12_isRule (x1 : Int) (σ : St) : Option Int :=
  ck (inr ((gI σ 1337 0 0) - 1)) (bnk (fX12_in x1 0 ((gI σ 1337 0 0) - 1)) (fun r4 => some r4))
set_option maxRecDepth 20000 in
set_option maxHeartbeats 4000000 in
theorem ct_X12_isRule (x1 : Int) (hx1 : inr x1) : Ct yX12_isRule cX12_isRule 2 (some .boolean) 1 (fun ad => [vo ad 12 (some 0), vi x1]) (pu (fX12_isRule x1)) enI okB (fun _ => True) := by
  refine Ct.of (by decide) (fun ad => Nat.le_of_ble_eq_true rfl) ?_
  intro κ ad σ X C T hpre h
  have C : Cx κ RX12 cX12_isRule 2 (some .boolean) 1 := C
  have h := wpO_pu.mp h
  unfold fX12_isRule at h
  show Z κ (0, 0) (Qm κ ad σ enI okB X) 0 [(0, vo ad 12 (some 0)), (1, vi x1)] [] ad σ
  refine z_rng (fun hI1 hJ2 => ?_)
  refine z_iload_n C 1 dX12_isRule_0 rfl ?_
  refine z_i2l C hx1 dX12_isRule_1 ?_
  refine z_lconst (z := 0) C dX12_isRule_2 (by decide) ?_
  refine z_aload_n C 0 dX12_isRule_3 rfl ?_
  refine z_gIv (v := gI σ 1337 0 0) C li_X12_336 (sg_12 T) rfl dX12_isRule_4 ?_
  refine z_iconst C dX12_isRule_7 ?_
  obtain ⟨hk3, h⟩ := wpO_ck.mp h
  refine z_isub C dX12_isRule_8 ?_
  refine z_i2l C hk3 dX12_isRule_9 ?_
  refine z_cSp (st := []) T C (ct_X12_in x1 0 ((gI σ 1337 0 0) - 1) (inq_i hx1) (by decide) (inq_i hk3)) lm_X12_245 ls_X12_in dX12_isRule_10 rfl rfl trivial (by decide) (Nat.le_of_ble_eq_true rfl) csOK_0 h (fun r4 hr5 h => ?_)
  show Z κ (0, 0) _ 13 _ [vi r4] ad σ
  have h := wpO_some.mp h
  exact z_breturn T C dX12_isRule_13 hr5 rfl h
noncomputable def fX12_fault (x1 : Int) (σ : St) : Option (Int × St) :=
  bnk (fX12_isRule x1 σ) (fun r3 => if r3 = 0 then (some ((-1), σ)) else (bnd (fX12_readRule x1 σ) (fun r6 σ8 => some (r6, σ8))))
set_option maxRecDepth 20000 in
set_option maxHeartbeats 4000000 in
theorem ct_X12_fault (x1 : Int) (hx1 : inr x1) : Ct yX12_fault cX12_fault 2 (some .int) 3 (fun ad => [vo ad 12 (some 0), vi x1]) (fX12_fault x1) enI okI (fun _ => True) := by
  refine Ct.of (by decide) (fun ad => Nat.le_of_ble_eq_true rfl) ?_
  intro κ ad σ X C T hpre h
  have C : Cx κ RX12 cX12_fault 2 (some .int) 3 := C
  unfold fX12_fault at h
  show Z κ (0, 0) (Qm κ ad σ enI okI X) 0 [(0, vo ad 12 (some 0)), (1, vi x1)] [] ad σ
  refine z_rng (fun hI1 hJ2 => ?_)
  refine z_aload_n C 0 dX12_fault_0 rfl ?_
  refine z_iload_n C 1 dX12_fault_1 rfl ?_
  refine z_cVp (st := []) T C (ct_X12_isRule x1 hx1) lm_X12_342 lv_vX12_isRule dX12_fault_2 [vi x1] rfl rfl rfl rfl rfl (sg_12 T) trivial (by decide) (Nat.le_of_ble_eq_true rfl) csOK_0 h (fun r3 hr4 h => ?_)
  show Z κ (0, 0) _ 5 _ [vi r3] ad σ
  refine z_if_eq C 16 (inr_b hr4) dX12_fault_5 (by decide) (fun q5 => ?_) (fun q5 => ?_)
  · have h := (wpO_ite.mp h).1 q5
    refine z_iconst C dX12_fault_16 ?_
    have h := wpO_some.mp h
    exact z_ireturn T C dX12_fault_17 (by decide) rfl h
  · have h := (wpO_ite.mp h).2 q5
    refine z_aload_n C 0 dX12_fault_8 rfl ?_
    refine z_iload_n C 1 dX12_fault_9 rfl ?_
    refine z_cV (st := []) T C (ct_X12_readRule x1 hx1) lm_X12_381 lv_vX12_readRule dX12_fault_10 [vi x1] rfl rfl rfl rfl rfl (sg_12 T) trivial (by decide) (Nat.le_of_ble_eq_true rfl) csOK_0 h (fun r6 σ8 hr7 eN9 h => ?_)
    show Z κ (0, 0) _ 13 _ [vi r6] ad σ8
    refine z_rng (fun hI10 hJ11 => ?_)
    refine z_goto C 17 dX12_fault_13 (by decide) ?_
    have h := wpO_some.mp h
    exact z_ireturn T C dX12_fault_17 hr7 eN9 h
noncomputable def fX12_feed_j106 (x1 : Int) (x4 : Int) (σ1 : St) : Option (Int × St) :=
  ck (0 ≤ x1 ∧ x1 < 6) (ck (inr ((gI σ1 1340 0 x1.toNat) + x4)) (ck (0 ≤ x1 ∧ x1 < 6) (ck (0 ≤ x1 ∧ x1 < 6) (some ((gI σ1 1340 0 x1.toNat) + x4, sI σ1 1340 0 x1.toNat ((gI σ1 1340 0 x1.toNat) + x4))))))
noncomputable def fX12_feed_l62 (x1 : Int) (x2 : Int) (x4 : Int) (x5 : Int) (σ1 : St) : Option ((Int × St) ⊕ St) :=
  if x4 ≤ x5 then (some (.inr σ1)) else (ck (inr (80 * x1)) (ck (0 ≤ x1 ∧ x1 < 6) (ck (inr ((80 * x1) + (gI σ1 1340 0 x1.toNat))) (ck (inr (((80 * x1) + (gI σ1 1340 0 x1.toNat)) + x5)) (ck (inr (8 * x5)) (ck (0 ≤ ((80 * x1) + (gI σ1 1340 0 x1.toNat)) + x5 ∧ ((80 * x1) + (gI σ1 1340 0 x1.toNat)) + x5 < 480) (ck (inr (x5 + 1)) (some (.inl ((x5 + 1, sI σ1 1341 0 ((((80 * x1) + (gI σ1 1340 0 x1.toNat)) + x5).toNat) (l2i (jand (jshr x2 (8 * x5)) 255)))))))))))))
noncomputable def fX12_feed_j62 (x1 : Int) (x2 : Int) (x4 : Int) (x5 : Int) (σ1 : St) : Option (Int × St) :=
  bnk (wh (fun s => fX12_feed_l62 x1 x2 x4 s.1 s.2) ((x5, σ1))) (fun e => fX12_feed_j106 x1 x4 e)
noncomputable def fX12_feed_j42 (x1 : Int) (x2 : Int) (x4 : Int) (σ1 : St) : Option (Int × St) :=
  ck (0 ≤ x1 ∧ x1 < 6) (ck (inr ((gI σ1 1340 0 x1.toNat) + x4)) (if (gI σ1 1340 0 x1.toNat) + x4 ≤ 80 then (fX12_feed_j62 x1 x2 x4 0 σ1) else (some ((-4), σ1))))
noncomputable def fX12_feed_l13 (x1 : Int) (x2 : Int) (σ1 : St) (x4 : Int) : Option (Int ⊕ Int) :=
  if 8 ≤ x4 then (some (.inr x4)) else (ck (inr (8 * x4)) (if lcm_ (jand (jshr x2 (8 * x4)) 255) 0 = 0 then (some (.inr x4)) else (ck (inr (x4 + 1)) (some (.inl (x4 + 1))))))
noncomputable def fX12_feed_j13 (x1 : Int) (x2 : Int) (x4 : Int) (σ1 : St) : Option (Int × St) :=
  bnk (wh (fun s => fX12_feed_l13 x1 x2 σ1 s) x4) (fun e => fX12_feed_j42 x1 x2 e σ1)
noncomputable def fX12_feed (x1 : Int) (x2 : Int) (σ : St) : Option (Int × St) :=
  bnk (fX12_isRule x1 σ) (fun r30 => if r30 = 0 then (some ((-1), σ)) else (fX12_feed_j13 x1 x2 0 σ))
set_option maxRecDepth 20000 in
set_option maxHeartbeats 4000000 in
theorem ct_X12_feed (x1 : Int) (x2 : Int) (hx1 : inr x1) (hx2 : inq x2) : Ct yX12_feed cX12_feed 6 (some .int) 2 (fun ad => [vo ad 12 (some 0), vi x1, vj x2]) (fX12_feed x1 x2) enI okI (fun _ => True) := by
  refine Ct.of (by decide) (fun ad => Nat.le_of_ble_eq_true rfl) ?_
  intro κ ad σ X C T hpre h
  have C : Cx κ RX12 cX12_feed 6 (some .int) 2 := C
  unfold fX12_feed at h
  have J106 : ∀ (x1 : Int) (x4 : Int) (σ1 : St), inr x1 → inr x4 → σ1.2.2.2 = σ.2.2.2 → wpO (fX12_feed_j106 x1 x4 σ1) (fun q => X q.1 q.2) → Z κ (0, 0) (Qm κ ad σ enI okI X) 106 [(0, vo ad 12 (some 0)), (1, vi x1), (4, vi x4)] [] ad σ1 := by
    intro x1 x4 σ1 hx1 hx4 eN1 h
    unfold fX12_feed_j106 at h
    refine z_rng (fun hI1 hJ2 => ?_)
    refine z_aload_n C 0 dX12_feed_106 rfl ?_
    refine z_gA T C li_X12_117 (sg_12 T) dX12_feed_107 ?_
    refine z_iload_n C 1 dX12_feed_110 rfl ?_
    refine z_dup2 C dX12_feed_111 rfl rfl ?_
    obtain ⟨hb3, h⟩ := wpO_ck.mp h
    refine z_iav (v := gI σ1 1340 0 x1.toNat) C ar_1340 (sg_1340 T) hx1 hb3 rfl dX12_feed_112 ?_
    refine z_iload C 2 dX12_feed_113 rfl ?_
    obtain ⟨hk4, h⟩ := wpO_ck.mp h
    refine z_iadd C dX12_feed_115 ?_
    obtain ⟨hb5, h⟩ := wpO_ck.mp h
    refine z_iastore C ar_1340 (sg_1340 T) hx1 hb5 hk4 dX12_feed_116 ?_
    refine z_aload_n C 0 dX12_feed_117 rfl ?_
    refine z_gA T C li_X12_117 (sg_12 T) dX12_feed_118 ?_
    refine z_iload_n C 1 dX12_feed_121 rfl ?_
    obtain ⟨hb6, h⟩ := wpO_ck.mp h
    refine z_iav (v := (gI σ1 1340 0 x1.toNat) + x4) C ar_1340 (sg_1340 T) hx1 hb6 gs dX12_feed_122 ?_
    have h := wpO_some.mp h
    exact z_ireturn T C dX12_feed_123 hk4 eN1 h
  have J62 : ∀ (x1 : Int) (x2 : Int) (x4 : Int) (x5 : Int) (σ1 : St), inr x1 → inq x2 → inr x4 → inr x5 → σ1.2.2.2 = σ.2.2.2 → wpO (fX12_feed_j62 x1 x2 x4 x5 σ1) (fun q => X q.1 q.2) → Z κ (0, 0) (Qm κ ad σ enI okI X) 62 [(0, vo ad 12 (some 0)), (1, vi x1), (2, vj x2), (4, vi x4), (5, vi x5)] [] ad σ1 := by
    intro x1 x2 x4 x5 σ1 hx1 hx2 hx4 hx5 eN1 h
    unfold fX12_feed_j62 at h
    have step : ∀ (P62 : (Int × St) → Prop) (Q62 : St → Prop), (∀ (x5 : Int) (σ1 : St), P62 ((x5, σ1)) → inr x5 → σ1.2.2.2 = σ.2.2.2 → Z κ (0, 0) (Qm κ ad σ enI okI X) 62 [(0, vo ad 12 (some 0)), (1, vi x1), (2, vj x2), (4, vi x4), (5, vi x5)] [] ad σ1) → (∀ (σ1 : St), Q62 (σ1) → σ1.2.2.2 = σ.2.2.2 → Z κ (0, 0) (Qm κ ad σ enI okI X) 106 [(0, vo ad 12 (some 0)), (1, vi x1), (4, vi x4)] [] ad σ1) → ∀ (x5 : Int) (σ1 : St), inr x5 → σ1.2.2.2 = σ.2.2.2 → wpO (fX12_feed_l62 x1 x2 x4 x5 σ1) (onS P62 Q62) → Z κ (0, 0) (Qm κ ad σ enI okI X) 62 [(0, vo ad 12 (some 0)), (1, vi x1), (2, vj x2), (4, vi x4), (5, vi x5)] [] ad σ1 := by
      intro P62 Q62 hP62 hE62_106 x5 σ1 hx5 eN1 h
      unfold fX12_feed_l62 at h
      refine z_rng (fun hI7 hJ8 => ?_)
      refine z_iload C 4 dX12_feed_62 rfl ?_
      refine z_iload C 3 dX12_feed_64 rfl ?_
      refine z_icmp_ge C 106 hx5 hx4 dX12_feed_66 (by decide) (fun q9 => ?_) (fun q9 => ?_)
      · have h := (wpO_ite.mp h).1 q9
        refine z_sub [0, 1, 3] rfl ?_
        have h := wpO_some.mp h
        exact hE62_106 σ1 h eN1
      · have h := (wpO_ite.mp h).2 q9
        refine z_aload_n C 0 dX12_feed_69 rfl ?_
        refine z_gA T C li_X12_120 (sg_12 T) dX12_feed_70 ?_
        refine z_bipush C dX12_feed_73 (by decide) ?_
        refine z_iload_n C 1 dX12_feed_75 rfl ?_
        obtain ⟨hk10, h⟩ := wpO_ck.mp h
        refine z_imul C dX12_feed_76 ?_
        refine z_aload_n C 0 dX12_feed_77 rfl ?_
        refine z_gA T C li_X12_117 (sg_12 T) dX12_feed_78 ?_
        refine z_iload_n C 1 dX12_feed_81 rfl ?_
        obtain ⟨hb11, h⟩ := wpO_ck.mp h
        refine z_iav (v := gI σ1 1340 0 x1.toNat) C ar_1340 (sg_1340 T) hx1 hb11 rfl dX12_feed_82 ?_
        obtain ⟨hk12, h⟩ := wpO_ck.mp h
        refine z_iadd C dX12_feed_83 ?_
        refine z_iload C 4 dX12_feed_84 rfl ?_
        obtain ⟨hk13, h⟩ := wpO_ck.mp h
        refine z_iadd C dX12_feed_86 ?_
        refine z_lload_n C 2 dX12_feed_87 rfl ?_
        refine z_bipush C dX12_feed_88 (by decide) ?_
        refine z_iload C 4 dX12_feed_90 rfl ?_
        obtain ⟨hk14, h⟩ := wpO_ck.mp h
        refine z_imul C dX12_feed_92 ?_
        refine z_lshr C dX12_feed_93 ?_
        refine z_ldc2_w C lc_X12_286 dX12_feed_94 ?_
        refine z_land C dX12_feed_97 ?_
        refine z_l2i C dX12_feed_98 ?_
        obtain ⟨hb15, h⟩ := wpO_ck.mp h
        refine z_iastore C ar_1341 (sg_1341 T) hk13 hb15 (inr_l2i _) dX12_feed_99 ?_
        obtain ⟨hk16, h⟩ := wpO_ck.mp h
        refine z_iinc (lv2 := [(5, vi (x5 + 1)), (0, vo ad 12 (some 0)), (1, vi x1), (2, vj x2), (4, vi x4)]) C 4 dX12_feed_100 rfl (by decide) rfl ?_
        refine z_goto C 62 dX12_feed_103 (by decide) ?_
        refine z_sub [1, 2, 3, 4, 0] rfl ?_
        have h := wpO_some.mp h
        exact hP62 (x5 + 1) (sI σ1 1341 0 ((((80 * x1) + (gI σ1 1340 0 x1.toNat)) + x5).toNat) (l2i (jand (jshr x2 (8 * x5)) 255))) h hk16 eN1
    exact wh_ind (P := fun s : (Int × St) => inr s.1 → s.2.2.2.2 = σ.2.2.2 → Z κ (0, 0) (Qm κ ad σ enI okI X) 62 [(0, vo ad 12 (some 0)), (1, vi x1), (2, vj x2), (4, vi x4), (5, vi s.1)] [] ad s.2) (fun s hs g0 g1 => step _ _ (fun _ _ hp => hp) (fun σ1 hq eN1 => J106 x1 x4 σ1 hx1 hx4 eN1 hq) s.1 s.2 g0 g1 hs) ((x5, σ1)) (wpO_bnk.mp h) hx5 eN1
  have J42 : ∀ (x1 : Int) (x2 : Int) (x4 : Int) (σ1 : St), inr x1 → inq x2 → inr x4 → σ1.2.2.2 = σ.2.2.2 → wpO (fX12_feed_j42 x1 x2 x4 σ1) (fun q => X q.1 q.2) → Z κ (0, 0) (Qm κ ad σ enI okI X) 42 [(0, vo ad 12 (some 0)), (1, vi x1), (2, vj x2), (4, vi x4)] [] ad σ1 := by
    intro x1 x2 x4 σ1 hx1 hx2 hx4 eN1 h
    unfold fX12_feed_j42 at h
    refine z_rng (fun hI17 hJ18 => ?_)
    refine z_aload_n C 0 dX12_feed_42 rfl ?_
    refine z_gA T C li_X12_117 (sg_12 T) dX12_feed_43 ?_
    refine z_iload_n C 1 dX12_feed_46 rfl ?_
    obtain ⟨hb19, h⟩ := wpO_ck.mp h
    refine z_iav (v := gI σ1 1340 0 x1.toNat) C ar_1340 (sg_1340 T) hx1 hb19 rfl dX12_feed_47 ?_
    refine z_iload C 3 dX12_feed_48 rfl ?_
    obtain ⟨hk20, h⟩ := wpO_ck.mp h
    refine z_iadd C dX12_feed_50 ?_
    refine z_bipush C dX12_feed_51 (by decide) ?_
    refine z_icmp_le C 59 hk20 (by decide) dX12_feed_53 (by decide) (fun q21 => ?_) (fun q21 => ?_)
    · have h := (wpO_ite.mp h).1 q21
      refine z_iconst C dX12_feed_59 ?_
      refine z_istore (lv2 := [(5, vi 0), (0, vo ad 12 (some 0)), (1, vi x1), (2, vj x2), (4, vi x4)]) C dX12_feed_60 (by decide) rfl ?_
      refine z_sub [1, 2, 3, 4, 0] rfl ?_
      exact J62 x1 x2 x4 0 σ1 hx1 hx2 hx4 (by decide) eN1 h
    · have h := (wpO_ite.mp h).2 q21
      refine z_bipush C dX12_feed_56 (by decide) ?_
      have h := wpO_some.mp h
      exact z_ireturn T C dX12_feed_58 (by decide) eN1 h
  have J13 : ∀ (x1 : Int) (x2 : Int) (x4 : Int) (σ1 : St), inr x1 → inq x2 → inr x4 → σ1.2.2.2 = σ.2.2.2 → wpO (fX12_feed_j13 x1 x2 x4 σ1) (fun q => X q.1 q.2) → Z κ (0, 0) (Qm κ ad σ enI okI X) 13 [(0, vo ad 12 (some 0)), (1, vi x1), (2, vj x2), (4, vi x4)] [] ad σ1 := by
    intro x1 x2 x4 σ1 hx1 hx2 hx4 eN1 h
    unfold fX12_feed_j13 at h
    have step : ∀ (P13 : Int → Prop) (Q13 : Int → Prop), (∀ (x4 : Int), P13 x4 → inr x4 → Z κ (0, 0) (Qm κ ad σ enI okI X) 13 [(0, vo ad 12 (some 0)), (1, vi x1), (2, vj x2), (4, vi x4)] [] ad σ1) → (∀ (x4 : Int), Q13 (x4) → inr x4 → Z κ (0, 0) (Qm κ ad σ enI okI X) 42 [(0, vo ad 12 (some 0)), (1, vi x1), (2, vj x2), (4, vi x4)] [] ad σ1) → ∀ (x4 : Int), inr x4 → wpO (fX12_feed_l13 x1 x2 σ1 x4) (onS P13 Q13) → Z κ (0, 0) (Qm κ ad σ enI okI X) 13 [(0, vo ad 12 (some 0)), (1, vi x1), (2, vj x2), (4, vi x4)] [] ad σ1 := by
      intro P13 Q13 hP13 hE13_42 x4 hx4 h
      unfold fX12_feed_l13 at h
      refine z_rng (fun hI22 hJ23 => ?_)
      refine z_iload C 3 dX12_feed_13 rfl ?_
      refine z_bipush C dX12_feed_15 (by decide) ?_
      refine z_icmp_ge C 42 hx4 (by decide) dX12_feed_17 (by decide) (fun q24 => ?_) (fun q24 => ?_)
      · have h := (wpO_ite.mp h).1 q24
        have h := wpO_some.mp h
        exact hE13_42 x4 h hx4
      · have h := (wpO_ite.mp h).2 q24
        refine z_lload_n C 2 dX12_feed_20 rfl ?_
        refine z_bipush C dX12_feed_21 (by decide) ?_
        refine z_iload C 3 dX12_feed_23 rfl ?_
        obtain ⟨hk25, h⟩ := wpO_ck.mp h
        refine z_imul C dX12_feed_25 ?_
        refine z_lshr C dX12_feed_26 ?_
        refine z_ldc2_w C lc_X12_286 dX12_feed_27 ?_
        refine z_land C dX12_feed_30 ?_
        refine z_lconst (z := 0) C dX12_feed_31 (by decide) ?_
        refine z_lcmp C (inq_jand _ _) (by decide) dX12_feed_32 ?_
        refine z_if_eq C 42 (inr_lcm _ _) dX12_feed_33 (by decide) (fun q26 => ?_) (fun q26 => ?_)
        · have h := (wpO_ite.mp h).1 q26
          have h := wpO_some.mp h
          exact hE13_42 x4 h hx4
        · have h := (wpO_ite.mp h).2 q26
          obtain ⟨hk27, h⟩ := wpO_ck.mp h
          refine z_iinc (lv2 := [(4, vi (x4 + 1)), (0, vo ad 12 (some 0)), (1, vi x1), (2, vj x2)]) C 3 dX12_feed_36 rfl (by decide) rfl ?_
          refine z_goto C 13 dX12_feed_39 (by decide) ?_
          refine z_sub [1, 2, 3, 0] rfl ?_
          have h := wpO_some.mp h
          exact hP13 (x4 + 1) h hk27
    exact wh_ind (P := fun s : Int => inr s → Z κ (0, 0) (Qm κ ad σ enI okI X) 13 [(0, vo ad 12 (some 0)), (1, vi x1), (2, vj x2), (4, vi s)] [] ad σ1) (fun s hs g0 => step _ _ (fun _ hp => hp) (fun x4 hq hx4 => J42 x1 x2 x4 σ1 hx1 hx2 hx4 eN1 hq) s g0 hs) x4 (wpO_bnk.mp h) hx4
  show Z κ (0, 0) (Qm κ ad σ enI okI X) 0 [(0, vo ad 12 (some 0)), (1, vi x1), (2, vj x2)] [] ad σ
  refine z_rng (fun hI28 hJ29 => ?_)
  refine z_aload_n C 0 dX12_feed_0 rfl ?_
  refine z_iload_n C 1 dX12_feed_1 rfl ?_
  refine z_cVp (st := []) T C (ct_X12_isRule x1 hx1) lm_X12_342 lv_vX12_isRule dX12_feed_2 [vi x1] rfl rfl rfl rfl rfl (sg_12 T) trivial (by decide) (Nat.le_of_ble_eq_true rfl) csOK_0 h (fun r30 hr31 h => ?_)
  show Z κ (0, 0) _ 5 _ [vi r30] ad σ
  refine z_if_ne C 10 (inr_b hr31) dX12_feed_5 (by decide) (fun q32 => ?_) (fun q32 => ?_)
  · have h := (wpO_ite.mp h).2 q32
    refine z_iconst C dX12_feed_10 ?_
    refine z_istore (lv2 := [(4, vi 0), (0, vo ad 12 (some 0)), (1, vi x1), (2, vj x2)]) C dX12_feed_11 (by decide) rfl ?_
    refine z_sub [1, 2, 3, 0] rfl ?_
    exact J13 x1 x2 0 σ hx1 hx2 (by decide) rfl h
  · have h := (wpO_ite.mp h).1 q32
    refine z_iconst C dX12_feed_8 ?_
    have h := wpO_some.mp h
    exact z_ireturn T C dX12_feed_9 (by decide) rfl h
noncomputable def fX12_find_j96 (σ : St) : Option Int :=
  some ((-9))
noncomputable def fX12_find_j84 (x5 : Int) (σ : St) : Option Int :=
  some x5
noncomputable def fX12_find_j90 (x1 : Int) (x2 : Int) (x3 : Int) (x4 : Int) (x5 : Int) (σ : St) : Option ((Int × Int) ⊕ (Int ⊕ Unit)) :=
  ck (inr (x5 + 1)) (some (.inl ((x4, x5 + 1))))
noncomputable def fX12_find_l28 (x1 : Int) (x2 : Int) (x3 : Int) (σ : St) (x4 : Int) (x5 : Int) : Option ((Int × Int) ⊕ (Int ⊕ Unit)) :=
  if gI σ 1310 0 0 ≤ x5 then (some (.inr (.inr (())))) else (if x3 < 0 then (some (.inr (.inr (())))) else (bnk (fX12_whereOf x5 (gI σ 1300 0 0) σ) (fun r12 => if r12 = 3 then (ck (0 ≤ x5 ∧ x5 < 40) (if iand (gI σ 1315 0 x5.toNat) x1 = x1 then (ck (0 ≤ x5 ∧ x5 < 40) (if gI σ 1312 0 x5.toNat < x2 then (fX12_find_j90 x1 x2 x3 x4 x5 σ) else (if x4 = 0 then (some (.inr (.inl x5))) else (ck (inr (x4 + (-1))) (fX12_find_j90 x1 x2 x3 (x4 + (-1)) x5 σ))))) else (fX12_find_j90 x1 x2 x3 x4 x5 σ))) else (fX12_find_j90 x1 x2 x3 x4 x5 σ))))
noncomputable def fX12_find_j28 (x1 : Int) (x2 : Int) (x3 : Int) (x4 : Int) (x5 : Int) (σ : St) : Option Int :=
  bnk (wh (fun s => fX12_find_l28 x1 x2 x3 σ s.1 s.2) ((x4, x5))) (fun e => Sum.elim (fun a0 => fX12_find_j84 a0 σ) (fun b0 => fX12_find_j96 σ) e)
noncomputable def fX12_find (x1 : Int) (x2 : Int) (x3 : Int) (σ : St) : Option Int :=
  bnk (fX12_in x1 0 255) (fun r23 => if r23 = 0 then (some ((-2))) else (bnk (fX12_isHour x2) (fun r26 => if r26 = 0 then (some ((-2))) else (fX12_find_j28 x1 x2 x3 x3 0 σ))))
set_option maxRecDepth 20000 in
set_option maxHeartbeats 4000000 in
theorem ct_X12_find (x1 : Int) (x2 : Int) (x3 : Int) (hx1 : inr x1) (hx2 : inr x2) (hx3 : inr x3) : Ct yX12_find cX12_find 6 (some .int) 2 (fun ad => [vo ad 12 (some 0), vi x1, vi x2, vi x3]) (pu (fX12_find x1 x2 x3)) enI okI (fun _ => True) := by
  refine Ct.of (by decide) (fun ad => Nat.le_of_ble_eq_true rfl) ?_
  intro κ ad σ X C T hpre h
  have C : Cx κ RX12 cX12_find 6 (some .int) 2 := C
  have h := wpO_pu.mp h
  unfold fX12_find at h
  have J96 : wpO (fX12_find_j96 σ) (fun r => X r σ) → Z κ (0, 0) (Qm κ ad σ enI okI X) 96 [] [] ad σ := by
    intro h
    unfold fX12_find_j96 at h
    refine z_rng (fun hI1 hJ2 => ?_)
    refine z_bipush C dX12_find_96 (by decide) ?_
    have h := wpO_some.mp h
    exact z_ireturn T C dX12_find_98 (by decide) rfl h
  have J84 : ∀ (x5 : Int), inr x5 → wpO (fX12_find_j84 x5 σ) (fun r => X r σ) → Z κ (0, 0) (Qm κ ad σ enI okI X) 84 [(5, vi x5)] [] ad σ := by
    intro x5 hx5 h
    unfold fX12_find_j84 at h
    refine z_rng (fun hI3 hJ4 => ?_)
    refine z_iload C 0 dX12_find_84 rfl ?_
    have h := wpO_some.mp h
    exact z_ireturn T C dX12_find_86 hx5 rfl h
  have J28 : ∀ (x1 : Int) (x2 : Int) (x3 : Int) (x4 : Int) (x5 : Int), inr x1 → inr x2 → inr x3 → inr x4 → inr x5 → wpO (fX12_find_j28 x1 x2 x3 x4 x5 σ) (fun r => X r σ) → Z κ (0, 0) (Qm κ ad σ enI okI X) 28 [(0, vo ad 12 (some 0)), (1, vi x1), (2, vi x2), (3, vi x3), (4, vi x4), (5, vi x5)] [] ad σ := by
    intro x1 x2 x3 x4 x5 hx1 hx2 hx3 hx4 hx5 h
    unfold fX12_find_j28 at h
    have step : ∀ (P28 : (Int × Int) → Prop) (Q28 : (Int ⊕ Unit) → Prop), (∀ (x4 : Int) (x5 : Int), P28 ((x4, x5)) → inr x4 → inr x5 → Z κ (0, 0) (Qm κ ad σ enI okI X) 28 [(0, vo ad 12 (some 0)), (1, vi x1), (2, vi x2), (3, vi x3), (4, vi x4), (5, vi x5)] [] ad σ) → (∀ (x5 : Int), Q28 (.inl x5) → inr x5 → Z κ (0, 0) (Qm κ ad σ enI okI X) 84 [(5, vi x5)] [] ad σ) → (Q28 (.inr (())) → Z κ (0, 0) (Qm κ ad σ enI okI X) 96 [] [] ad σ) → ∀ (x4 : Int) (x5 : Int), inr x4 → inr x5 → wpO (fX12_find_l28 x1 x2 x3 σ x4 x5) (onS P28 Q28) → Z κ (0, 0) (Qm κ ad σ enI okI X) 28 [(0, vo ad 12 (some 0)), (1, vi x1), (2, vi x2), (3, vi x3), (4, vi x4), (5, vi x5)] [] ad σ := by
      intro P28 Q28 hP28 hE28_84 hE28_96 x4 x5 hx4 hx5 h
      unfold fX12_find_l28 at h
      have J90 : ∀ (x4 : Int) (x5 : Int), inr x4 → inr x5 → wpO (fX12_find_j90 x1 x2 x3 x4 x5 σ) (onS P28 Q28) → Z κ (0, 0) (Qm κ ad σ enI okI X) 90 [(0, vo ad 12 (some 0)), (1, vi x1), (2, vi x2), (3, vi x3), (4, vi x4), (5, vi x5)] [] ad σ := by
        intro x4 x5 hx4 hx5 h
        unfold fX12_find_j90 at h
        refine z_rng (fun hI5 hJ6 => ?_)
        obtain ⟨hk7, h⟩ := wpO_ck.mp h
        refine z_iinc (lv2 := [(5, vi (x5 + 1)), (0, vo ad 12 (some 0)), (1, vi x1), (2, vi x2), (3, vi x3), (4, vi x4)]) C 5 dX12_find_90 rfl (by decide) rfl ?_
        refine z_goto C 28 dX12_find_93 (by decide) ?_
        refine z_sub [1, 2, 3, 4, 5, 0] rfl ?_
        have h := wpO_some.mp h
        exact hP28 x4 (x5 + 1) h hx4 hk7
      refine z_rng (fun hI8 hJ9 => ?_)
      refine z_iload C 5 dX12_find_28 rfl ?_
      refine z_aload_n C 0 dX12_find_30 rfl ?_
      refine z_gIv (v := gI σ 1310 0 0) C li_X12_279 (sg_12 T) rfl dX12_find_31 ?_
      refine z_icmp_ge C 96 hx5 (hI8 1310 0 _) dX12_find_34 (by decide) (fun q10 => ?_) (fun q10 => ?_)
      · have h := (wpO_ite.mp h).1 q10
        refine z_sub [] rfl ?_
        have h := wpO_some.mp h
        exact hE28_96 h
      · have h := (wpO_ite.mp h).2 q10
        refine z_iload_n C 3 dX12_find_37 rfl ?_
        refine z_if_lt C 96 hx3 dX12_find_38 (by decide) (fun q11 => ?_) (fun q11 => ?_)
        · have h := (wpO_ite.mp h).1 q11
          refine z_sub [] rfl ?_
          have h := wpO_some.mp h
          exact hE28_96 h
        · have h := (wpO_ite.mp h).2 q11
          refine z_aload_n C 0 dX12_find_41 rfl ?_
          refine z_iload C 5 dX12_find_42 rfl ?_
          refine z_aload_n C 0 dX12_find_44 rfl ?_
          refine z_gIv (v := gI σ 1300 0 0) C li_X12_255 (sg_12 T) rfl dX12_find_45 ?_
          refine z_cVp (st := []) T C (ct_X12_whereOf x5 (gI σ 1300 0 0) hx5 (hI8 1300 0 _)) lm_X12_297 lv_vX12_whereOf dX12_find_48 [vi x5, vi (gI σ 1300 0 0)] rfl rfl rfl rfl rfl (sg_12 T) trivial (by decide) (Nat.le_of_ble_eq_true rfl) csOK_0 h (fun r12 hr13 h => ?_)
          show Z κ (0, 0) _ 51 _ [vi r12] ad σ
          refine z_iconst C dX12_find_51 ?_
          refine z_icmp_ne C 90 hr13 (by decide) dX12_find_52 (by decide) (fun q14 => ?_) (fun q14 => ?_)
          · have h := (wpO_ite.mp h).2 q14
            exact J90 x4 x5 hx4 hx5 h
          · have h := (wpO_ite.mp h).1 q14
            refine z_aload_n C 0 dX12_find_55 rfl ?_
            refine z_gA T C li_X12_47 (sg_12 T) dX12_find_56 ?_
            refine z_iload C 5 dX12_find_59 rfl ?_
            obtain ⟨hb15, h⟩ := wpO_ck.mp h
            refine z_iav (v := gI σ 1315 0 x5.toNat) C ar_1315 (sg_1315 T) hx5 hb15 rfl dX12_find_61 ?_
            refine z_iload_n C 1 dX12_find_62 rfl ?_
            refine z_iand C dX12_find_63 ?_
            refine z_iload_n C 1 dX12_find_64 rfl ?_
            refine z_icmp_ne C 90 (inr_iand _ _) hx1 dX12_find_65 (by decide) (fun q16 => ?_) (fun q16 => ?_)
            · have h := (wpO_ite.mp h).2 q16
              exact J90 x4 x5 hx4 hx5 h
            · have h := (wpO_ite.mp h).1 q16
              refine z_aload_n C 0 dX12_find_68 rfl ?_
              refine z_gA T C li_X12_38 (sg_12 T) dX12_find_69 ?_
              refine z_iload C 5 dX12_find_72 rfl ?_
              obtain ⟨hb17, h⟩ := wpO_ck.mp h
              refine z_iav (v := gI σ 1312 0 x5.toNat) C ar_1312 (sg_1312 T) hx5 hb17 rfl dX12_find_74 ?_
              refine z_iload_n C 2 dX12_find_75 rfl ?_
              refine z_icmp_lt C 90 (hI8 1312 0 _) hx2 dX12_find_76 (by decide) (fun q18 => ?_) (fun q18 => ?_)
              · have h := (wpO_ite.mp h).1 q18
                exact J90 x4 x5 hx4 hx5 h
              · have h := (wpO_ite.mp h).2 q18
                refine z_iload C 4 dX12_find_79 rfl ?_
                refine z_if_ne C 87 hx4 dX12_find_81 (by decide) (fun q19 => ?_) (fun q19 => ?_)
                · have h := (wpO_ite.mp h).2 q19
                  obtain ⟨hk20, h⟩ := wpO_ck.mp h
                  refine z_iinc (lv2 := [(4, vi (x4 + (-1))), (0, vo ad 12 (some 0)), (1, vi x1), (2, vi x2), (3, vi x3), (5, vi x5)]) C 4 dX12_find_87 rfl (by decide) rfl ?_
                  refine z_sub [1, 2, 3, 4, 0, 5] rfl ?_
                  exact J90 (x4 + (-1)) x5 hk20 hx5 h
                · have h := (wpO_ite.mp h).1 q19
                  refine z_sub [5] rfl ?_
                  have h := wpO_some.mp h
                  exact hE28_84 x5 h hx5
    exact wh_ind (P := fun s : (Int × Int) => inr s.1 → inr s.2 → Z κ (0, 0) (Qm κ ad σ enI okI X) 28 [(0, vo ad 12 (some 0)), (1, vi x1), (2, vi x2), (3, vi x3), (4, vi s.1), (5, vi s.2)] [] ad σ) (fun s hs g0 g1 => step _ _ (fun _ _ hp => hp) (fun x5 hq hx5 => J84 x5 hx5 hq) (fun hq => J96 hq) s.1 s.2 g0 g1 hs) ((x4, x5)) (wpO_bnk.mp h) hx4 hx5
  show Z κ (0, 0) (Qm κ ad σ enI okI X) 0 [(0, vo ad 12 (some 0)), (1, vi x1), (2, vi x2), (3, vi x3)] [] ad σ
  refine z_rng (fun hI21 hJ22 => ?_)
  refine z_iload_n C 1 dX12_find_0 rfl ?_
  refine z_i2l C hx1 dX12_find_1 ?_
  refine z_lconst (z := 0) C dX12_find_2 (by decide) ?_
  refine z_ldc2_w C lc_X12_286 dX12_find_3 ?_
  refine z_cSp (st := []) T C (ct_X12_in x1 0 255 (inq_i hx1) (by decide) (by decide)) lm_X12_245 ls_X12_in dX12_find_6 rfl rfl trivial (by decide) (Nat.le_of_ble_eq_true rfl) csOK_0 h (fun r23 hr24 h => ?_)
  show Z κ (0, 0) _ 9 _ [vi r23] ad σ
  refine z_if_eq C 19 (inr_b hr24) dX12_find_9 (by decide) (fun q25 => ?_) (fun q25 => ?_)
  · have h := (wpO_ite.mp h).1 q25
    refine z_bipush C dX12_find_19 (by decide) ?_
    have h := wpO_some.mp h
    exact z_ireturn T C dX12_find_21 (by decide) rfl h
  · have h := (wpO_ite.mp h).2 q25
    refine z_iload_n C 2 dX12_find_12 rfl ?_
    refine z_cSp (st := []) T C (ct_X12_isHour x2 hx2) lm_X12_262 ls_X12_isHour dX12_find_13 rfl rfl trivial (by decide) (Nat.le_of_ble_eq_true rfl) csOK_0 h (fun r26 hr27 h => ?_)
    show Z κ (0, 0) _ 16 _ [vi r26] ad σ
    refine z_if_ne C 22 (inr_b hr27) dX12_find_16 (by decide) (fun q28 => ?_) (fun q28 => ?_)
    · have h := (wpO_ite.mp h).2 q28
      refine z_iload_n C 3 dX12_find_22 rfl ?_
      refine z_istore (lv2 := [(4, vi x3), (0, vo ad 12 (some 0)), (1, vi x1), (2, vi x2), (3, vi x3)]) C dX12_find_23 (by decide) rfl ?_
      refine z_iconst C dX12_find_25 ?_
      refine z_istore (lv2 := [(5, vi 0), (4, vi x3), (0, vo ad 12 (some 0)), (1, vi x1), (2, vi x2), (3, vi x3)]) C dX12_find_26 (by decide) rfl ?_
      refine z_sub [2, 3, 4, 5, 1, 0] rfl ?_
      exact J28 x1 x2 x3 x3 0 hx1 hx2 hx3 hx3 (by decide) h
    · have h := (wpO_ite.mp h).1 q28
      refine z_bipush C dX12_find_19 (by decide) ?_
      have h := wpO_some.mp h
      exact z_ireturn T C dX12_find_21 (by decide) rfl h
noncomputable def fX12_freeAll_j22 (σ1 : St) : Option (Int × St) :=
  bnd (fX12_earnsMost σ1) (fun r3 σ5 => some (r3, σ5))
noncomputable def fX12_freeAll_l2 (x1 : Int) (σ1 : St) : Option ((Int × St) ⊕ St) :=
  if 8 ≤ x1 then (some (.inr σ1)) else (ck (0 ≤ x1 ∧ x1 < 8) (ck (inr (x1 + 1)) (some (.inl ((x1 + 1, sI σ1 1391 0 x1.toNat 9))))))
noncomputable def fX12_freeAll_j2 (x1 : Int) (σ1 : St) : Option (Int × St) :=
  bnk (wh (fun s => fX12_freeAll_l2 s.1 s.2) ((x1, σ1))) (fun e => fX12_freeAll_j22 e)
noncomputable def fX12_freeAll (σ : St) : Option (Int × St) :=
  fX12_freeAll_j2 0 σ
set_option maxRecDepth 20000 in
set_option maxHeartbeats 4000000 in
theorem ct_X12_freeAll  : Ct yX12_freeAll cX12_freeAll 2 (some .int) 2 (fun ad => [vo ad 12 (some 0)]) fX12_freeAll enI okI (fun _ => True) := by
  refine Ct.of (by decide) (fun ad => Nat.le_of_ble_eq_true rfl) ?_
  intro κ ad σ X C T hpre h
  have C : Cx κ RX12 cX12_freeAll 2 (some .int) 2 := C
  unfold fX12_freeAll at h
  have J22 : ∀ (σ1 : St), σ1.2.2.2 = σ.2.2.2 → wpO (fX12_freeAll_j22 σ1) (fun q => X q.1 q.2) → Z κ (0, 0) (Qm κ ad σ enI okI X) 22 [(0, vo ad 12 (some 0))] [] ad σ1 := by
    intro σ1 eN1 h
    unfold fX12_freeAll_j22 at h
    refine z_rng (fun hI1 hJ2 => ?_)
    refine z_aload_n C 0 dX12_freeAll_22 rfl ?_
    refine z_cV (st := []) T C ct_X12_earnsMost lm_X12_478 lv_vX12_earnsMost dX12_freeAll_23 [] rfl rfl rfl rfl rfl (sg_12 T) trivial (by decide) (Nat.le_of_ble_eq_true rfl) csOK_0 h (fun r3 σ5 hr4 eN6 h => ?_)
    have eN7 := eN6.trans eN1
    show Z κ (0, 0) _ 26 _ [vi r3] ad σ5
    refine z_rng (fun hI8 hJ9 => ?_)
    have h := wpO_some.mp h
    exact z_ireturn T C dX12_freeAll_26 hr4 eN7 h
  have J2 : ∀ (x1 : Int) (σ1 : St), inr x1 → σ1.2.2.2 = σ.2.2.2 → wpO (fX12_freeAll_j2 x1 σ1) (fun q => X q.1 q.2) → Z κ (0, 0) (Qm κ ad σ enI okI X) 2 [(0, vo ad 12 (some 0)), (1, vi x1)] [] ad σ1 := by
    intro x1 σ1 hx1 eN1 h
    unfold fX12_freeAll_j2 at h
    have step : ∀ (P2 : (Int × St) → Prop) (Q2 : St → Prop), (∀ (x1 : Int) (σ1 : St), P2 ((x1, σ1)) → inr x1 → σ1.2.2.2 = σ.2.2.2 → Z κ (0, 0) (Qm κ ad σ enI okI X) 2 [(0, vo ad 12 (some 0)), (1, vi x1)] [] ad σ1) → (∀ (σ1 : St), Q2 (σ1) → σ1.2.2.2 = σ.2.2.2 → Z κ (0, 0) (Qm κ ad σ enI okI X) 22 [(0, vo ad 12 (some 0))] [] ad σ1) → ∀ (x1 : Int) (σ1 : St), inr x1 → σ1.2.2.2 = σ.2.2.2 → wpO (fX12_freeAll_l2 x1 σ1) (onS P2 Q2) → Z κ (0, 0) (Qm κ ad σ enI okI X) 2 [(0, vo ad 12 (some 0)), (1, vi x1)] [] ad σ1 := by
      intro P2 Q2 hP2 hE2_22 x1 σ1 hx1 eN1 h
      unfold fX12_freeAll_l2 at h
      refine z_rng (fun hI10 hJ11 => ?_)
      refine z_iload_n C 1 dX12_freeAll_2 rfl ?_
      refine z_bipush C dX12_freeAll_3 (by decide) ?_
      refine z_icmp_ge C 22 hx1 (by decide) dX12_freeAll_5 (by decide) (fun q12 => ?_) (fun q12 => ?_)
      · have h := (wpO_ite.mp h).1 q12
        refine z_sub [0] rfl ?_
        have h := wpO_some.mp h
        exact hE2_22 σ1 h eN1
      · have h := (wpO_ite.mp h).2 q12
        refine z_aload_n C 0 dX12_freeAll_8 rfl ?_
        refine z_gA T C li_X12_240 (sg_12 T) dX12_freeAll_9 ?_
        refine z_iload_n C 1 dX12_freeAll_12 rfl ?_
        refine z_bipush C dX12_freeAll_13 (by decide) ?_
        obtain ⟨hb13, h⟩ := wpO_ck.mp h
        refine z_iastore C ar_1391 (sg_1391 T) hx1 hb13 (by decide) dX12_freeAll_15 ?_
        obtain ⟨hk14, h⟩ := wpO_ck.mp h
        refine z_iinc (lv2 := [(1, vi (x1 + 1)), (0, vo ad 12 (some 0))]) C 1 dX12_freeAll_16 rfl (by decide) rfl ?_
        refine z_goto C 2 dX12_freeAll_19 (by decide) ?_
        refine z_sub [1, 0] rfl ?_
        have h := wpO_some.mp h
        exact hP2 (x1 + 1) (sI σ1 1391 0 x1.toNat 9) h hk14 eN1
    exact wh_ind (P := fun s : (Int × St) => inr s.1 → s.2.2.2.2 = σ.2.2.2 → Z κ (0, 0) (Qm κ ad σ enI okI X) 2 [(0, vo ad 12 (some 0)), (1, vi s.1)] [] ad s.2) (fun s hs g0 g1 => step _ _ (fun _ _ hp => hp) (fun σ1 hq eN1 => J22 σ1 eN1 hq) s.1 s.2 g0 g1 hs) ((x1, σ1)) (wpO_bnk.mp h) hx1 eN1
  show Z κ (0, 0) (Qm κ ad σ enI okI X) 0 [(0, vo ad 12 (some 0))] [] ad σ
  refine z_rng (fun hI15 hJ16 => ?_)
  refine z_iconst C dX12_freeAll_0 ?_
  refine z_istore_n (lv2 := [(1, vi 0), (0, vo ad 12 (some 0))]) C dX12_freeAll_1 (by decide) rfl ?_
  refine z_sub [1, 0] rfl ?_
  exact J2 0 σ (by decide) rfl h
noncomputable def fX12_hall (x1 : Int) (x2 : Int) (x3 : Int) (x4 : Int) (σ : St) : Option (Int × St) :=
  bnk (fX12_isLand x1) (fun r3 => if r3 = 0 then (some ((-1), σ)) else (bnk (fX12_in x2 0 8) (fun r6 => if r6 = 0 then (some ((-2), σ)) else (bnk (fX12_in x3 x2 8) (fun r9 => if r9 = 0 then (some ((-2), σ)) else (bnk (fX12_in x4 1 9999) (fun r12 => if r12 = 0 then (some ((-2), σ)) else (if gI σ 1378 0 0 = 8 then (some ((-4), σ)) else (ck (0 ≤ gI σ 1378 0 0 ∧ gI σ 1378 0 0 < 8) (ck (0 ≤ gI σ 1378 0 0 ∧ gI σ 1378 0 0 < 8) (ck (0 ≤ gI σ 1378 0 0 ∧ gI σ 1378 0 0 < 8) (ck (inr ((gI σ 1378 0 0) + 1)) (ck (inr (((gI σ 1378 0 0) + 1) - 1)) (some (((gI σ 1378 0 0) + 1) - 1, sI (sI (sI (sI σ 1379 0 ((gI σ 1378 0 0).toNat) x2) 1380 0 ((gI σ 1378 0 0).toNat) x3) 1381 0 ((gI σ 1378 0 0).toNat) x4) 1378 0 0 ((gI σ 1378 0 0) + 1))))))))))))))))
set_option maxRecDepth 20000 in
set_option maxHeartbeats 4000000 in
theorem ct_X12_hall (x1 : Int) (x2 : Int) (x3 : Int) (x4 : Int) (hx1 : inr x1) (hx2 : inr x2) (hx3 : inr x3) (hx4 : inr x4) : Ct yX12_hall cX12_hall 5 (some .int) 2 (fun ad => [vo ad 12 (some 0), vi x1, vi x2, vi x3, vi x4]) (fX12_hall x1 x2 x3 x4) enI okI (fun _ => True) := by
  refine Ct.of (by decide) (fun ad => Nat.le_of_ble_eq_true rfl) ?_
  intro κ ad σ X C T hpre h
  have C : Cx κ RX12 cX12_hall 5 (some .int) 2 := C
  unfold fX12_hall at h
  show Z κ (0, 0) (Qm κ ad σ enI okI X) 0 [(0, vo ad 12 (some 0)), (1, vi x1), (2, vi x2), (3, vi x3), (4, vi x4)] [] ad σ
  refine z_rng (fun hI1 hJ2 => ?_)
  refine z_iload_n C 1 dX12_hall_0 rfl ?_
  refine z_cSp (st := []) T C (ct_X12_isLand x1 hx1) lm_X12_386 ls_X12_isLand dX12_hall_1 rfl rfl trivial (by decide) (Nat.le_of_ble_eq_true rfl) csOK_0 h (fun r3 hr4 h => ?_)
  show Z κ (0, 0) _ 4 _ [vi r3] ad σ
  refine z_if_ne C 9 (inr_b hr4) dX12_hall_4 (by decide) (fun q5 => ?_) (fun q5 => ?_)
  · have h := (wpO_ite.mp h).2 q5
    refine z_iload_n C 2 dX12_hall_9 rfl ?_
    refine z_i2l C hx2 dX12_hall_10 ?_
    refine z_lconst (z := 0) C dX12_hall_11 (by decide) ?_
    refine z_ldc2_w C lc_X12_458 dX12_hall_12 ?_
    refine z_cSp (st := []) T C (ct_X12_in x2 0 8 (inq_i hx2) (by decide) (by decide)) lm_X12_245 ls_X12_in dX12_hall_15 rfl rfl trivial (by decide) (Nat.le_of_ble_eq_true rfl) csOK_0 h (fun r6 hr7 h => ?_)
    show Z κ (0, 0) _ 18 _ [vi r6] ad σ
    refine z_if_eq C 47 (inr_b hr7) dX12_hall_18 (by decide) (fun q8 => ?_) (fun q8 => ?_)
    · have h := (wpO_ite.mp h).1 q8
      refine z_bipush C dX12_hall_47 (by decide) ?_
      have h := wpO_some.mp h
      exact z_ireturn T C dX12_hall_49 (by decide) rfl h
    · have h := (wpO_ite.mp h).2 q8
      refine z_iload_n C 3 dX12_hall_21 rfl ?_
      refine z_i2l C hx3 dX12_hall_22 ?_
      refine z_iload_n C 2 dX12_hall_23 rfl ?_
      refine z_i2l C hx2 dX12_hall_24 ?_
      refine z_ldc2_w C lc_X12_458 dX12_hall_25 ?_
      refine z_cSp (st := []) T C (ct_X12_in x3 x2 8 (inq_i hx3) (inq_i hx2) (by decide)) lm_X12_245 ls_X12_in dX12_hall_28 rfl rfl trivial (by decide) (Nat.le_of_ble_eq_true rfl) csOK_0 h (fun r9 hr10 h => ?_)
      show Z κ (0, 0) _ 31 _ [vi r9] ad σ
      refine z_if_eq C 47 (inr_b hr10) dX12_hall_31 (by decide) (fun q11 => ?_) (fun q11 => ?_)
      · have h := (wpO_ite.mp h).1 q11
        refine z_bipush C dX12_hall_47 (by decide) ?_
        have h := wpO_some.mp h
        exact z_ireturn T C dX12_hall_49 (by decide) rfl h
      · have h := (wpO_ite.mp h).2 q11
        refine z_iload C 4 dX12_hall_34 rfl ?_
        refine z_i2l C hx4 dX12_hall_36 ?_
        refine z_lconst (z := 1) C dX12_hall_37 (by decide) ?_
        refine z_ldc2_w C lc_X12_243 dX12_hall_38 ?_
        refine z_cSp (st := []) T C (ct_X12_in x4 1 9999 (inq_i hx4) (by decide) (by decide)) lm_X12_245 ls_X12_in dX12_hall_41 rfl rfl trivial (by decide) (Nat.le_of_ble_eq_true rfl) csOK_0 h (fun r12 hr13 h => ?_)
        show Z κ (0, 0) _ 44 _ [vi r12] ad σ
        refine z_if_ne C 50 (inr_b hr13) dX12_hall_44 (by decide) (fun q14 => ?_) (fun q14 => ?_)
        · have h := (wpO_ite.mp h).2 q14
          refine z_aload_n C 0 dX12_hall_50 rfl ?_
          refine z_gIv (v := gI σ 1378 0 0) C li_X12_460 (sg_12 T) rfl dX12_hall_51 ?_
          refine z_bipush C dX12_hall_54 (by decide) ?_
          refine z_icmp_ne C 62 (hI1 1378 0 _) (by decide) dX12_hall_56 (by decide) (fun q15 => ?_) (fun q15 => ?_)
          · have h := (wpO_ite.mp h).2 q15
            refine z_aload_n C 0 dX12_hall_62 rfl ?_
            refine z_gA T C li_X12_207 (sg_12 T) dX12_hall_63 ?_
            refine z_aload_n C 0 dX12_hall_66 rfl ?_
            refine z_gIv (v := gI σ 1378 0 0) C li_X12_460 (sg_12 T) rfl dX12_hall_67 ?_
            refine z_iload_n C 2 dX12_hall_70 rfl ?_
            obtain ⟨hb16, h⟩ := wpO_ck.mp h
            refine z_iastore C ar_1379 (sg_1379 T) (hI1 1378 0 _) hb16 hx2 dX12_hall_71 ?_
            refine z_aload_n C 0 dX12_hall_72 rfl ?_
            refine z_gA T C li_X12_210 (sg_12 T) dX12_hall_73 ?_
            refine z_aload_n C 0 dX12_hall_76 rfl ?_
            refine z_gIv (v := gI σ 1378 0 0) C li_X12_460 (sg_12 T) (gn (by decide) rfl) dX12_hall_77 ?_
            refine z_iload_n C 3 dX12_hall_80 rfl ?_
            obtain ⟨hb17, h⟩ := wpO_ck.mp h
            refine z_iastore C ar_1380 (sg_1380 T) (hI1 1378 0 _) hb17 hx3 dX12_hall_81 ?_
            refine z_aload_n C 0 dX12_hall_82 rfl ?_
            refine z_gA T C li_X12_213 (sg_12 T) dX12_hall_83 ?_
            refine z_aload_n C 0 dX12_hall_86 rfl ?_
            refine z_gIv (v := gI σ 1378 0 0) C li_X12_460 (sg_12 T) (gn (by decide) (gn (by decide) rfl)) dX12_hall_87 ?_
            refine z_iload C 4 dX12_hall_90 rfl ?_
            obtain ⟨hb18, h⟩ := wpO_ck.mp h
            refine z_iastore C ar_1381 (sg_1381 T) (hI1 1378 0 _) hb18 hx4 dX12_hall_92 ?_
            refine z_aload_n C 0 dX12_hall_93 rfl ?_
            refine z_dup C dX12_hall_94 rfl ?_
            refine z_gIv (v := gI σ 1378 0 0) C li_X12_460 (sg_12 T) (gn (by decide) (gn (by decide) (gn (by decide) rfl))) dX12_hall_95 ?_
            refine z_iconst C dX12_hall_98 ?_
            obtain ⟨hk19, h⟩ := wpO_ck.mp h
            refine z_iadd C dX12_hall_99 ?_
            refine z_pI C lq_X12_460 (sg_12 T) hk19 dX12_hall_100 ?_
            refine z_aload_n C 0 dX12_hall_103 rfl ?_
            refine z_gIv (v := (gI σ 1378 0 0) + 1) C li_X12_460 (sg_12 T) gs dX12_hall_104 ?_
            refine z_iconst C dX12_hall_107 ?_
            obtain ⟨hk20, h⟩ := wpO_ck.mp h
            refine z_isub C dX12_hall_108 ?_
            have h := wpO_some.mp h
            exact z_ireturn T C dX12_hall_109 hk20 rfl h
          · have h := (wpO_ite.mp h).1 q15
            refine z_bipush C dX12_hall_59 (by decide) ?_
            have h := wpO_some.mp h
            exact z_ireturn T C dX12_hall_61 (by decide) rfl h
        · have h := (wpO_ite.mp h).1 q14
          refine z_bipush C dX12_hall_47 (by decide) ?_
          have h := wpO_some.mp h
          exact z_ireturn T C dX12_hall_49 (by decide) rfl h
  · have h := (wpO_ite.mp h).1 q5
    refine z_iconst C dX12_hall_7 ?_
    have h := wpO_some.mp h
    exact z_ireturn T C dX12_hall_8 (by decide) rfl h
noncomputable def fX12_isReady_j66 (x2 : Int) (σ : St) : Option Int :=
  ck (x2 = 0 ∨ x2 = 1) (some x2)
noncomputable def fX12_isReady_j59 (x1 : Int) (x3 : Int) (s0 : Int) (σ : St) : Option ((Int × Int) ⊕ Int) :=
  ck (inr (x3 + 1)) (some (.inl ((s0, x3 + 1))))
noncomputable def fX12_isReady_j58 (x1 : Int) (x3 : Int) (σ : St) : Option ((Int × Int) ⊕ Int) :=
  fX12_isReady_j59 x1 x3 0 σ
noncomputable def fX12_isReady_l17 (x1 : Int) (σ : St) (x2 : Int) (x3 : Int) : Option ((Int × Int) ⊕ Int) :=
  ck (0 ≤ x1 ∧ x1 < 8) (if gI σ 1331 0 x1.toNat ≤ x3 then (some (.inr x2)) else (if x2 = 0 then (fX12_isReady_j58 x1 x3 σ) else (ck (inr (6 * x1)) (ck (inr ((6 * x1) + x3)) (ck (0 ≤ (6 * x1) + x3 ∧ (6 * x1) + x3 < 48) (bnk (fX12_whereOf (gI σ 1332 0 (((6 * x1) + x3).toNat)) (gI σ 1300 0 0) σ) (fun r17 => if r17 = 3 then (fX12_isReady_j59 x1 x3 1 σ) else (fX12_isReady_j58 x1 x3 σ))))))))
noncomputable def fX12_isReady_j17 (x1 : Int) (x2 : Int) (x3 : Int) (σ : St) : Option Int :=
  bnk (wh (fun s => fX12_isReady_l17 x1 σ s.1 s.2) ((x2, x3))) (fun e => fX12_isReady_j66 e σ)
noncomputable def fX12_isReady_j14 (x1 : Int) (s0 : Int) (σ : St) : Option Int :=
  fX12_isReady_j17 x1 s0 0 σ
noncomputable def fX12_isReady (x1 : Int) (σ : St) : Option Int :=
  ck (0 ≤ x1 ∧ x1 < 8) (if gI σ 1331 0 x1.toNat ≤ 0 then (fX12_isReady_j14 x1 0 σ) else (fX12_isReady_j14 x1 1 σ))
set_option maxRecDepth 20000 in
set_option maxHeartbeats 4000000 in
theorem ct_X12_isReady (x1 : Int) (hx1 : inr x1) : Ct yX12_isReady cX12_isReady 4 (some .boolean) 2 (fun ad => [vo ad 12 (some 0), vi x1]) (pu (fX12_isReady x1)) enI okB (fun _ => True) := by
  refine Ct.of (by decide) (fun ad => Nat.le_of_ble_eq_true rfl) ?_
  intro κ ad σ X C T hpre h
  have C : Cx κ RX12 cX12_isReady 4 (some .boolean) 2 := C
  have h := wpO_pu.mp h
  unfold fX12_isReady at h
  have J66 : ∀ (x2 : Int), inr x2 → wpO (fX12_isReady_j66 x2 σ) (fun r => X r σ) → Z κ (0, 0) (Qm κ ad σ enI okB X) 66 [(2, vi x2)] [] ad σ := by
    intro x2 hx2 h
    unfold fX12_isReady_j66 at h
    refine z_rng (fun hI1 hJ2 => ?_)
    refine z_iload_n C 0 dX12_isReady_66 rfl ?_
    obtain ⟨hb3, h⟩ := wpO_ck.mp h
    have h := wpO_some.mp h
    exact z_breturn T C dX12_isReady_67 hb3 rfl h
  have J17 : ∀ (x1 : Int) (x2 : Int) (x3 : Int), inr x1 → inr x2 → inr x3 → wpO (fX12_isReady_j17 x1 x2 x3 σ) (fun r => X r σ) → Z κ (0, 0) (Qm κ ad σ enI okB X) 17 [(0, vo ad 12 (some 0)), (1, vi x1), (2, vi x2), (3, vi x3)] [] ad σ := by
    intro x1 x2 x3 hx1 hx2 hx3 h
    unfold fX12_isReady_j17 at h
    have step : ∀ (P17 : (Int × Int) → Prop) (Q17 : Int → Prop), (∀ (x2 : Int) (x3 : Int), P17 ((x2, x3)) → inr x2 → inr x3 → Z κ (0, 0) (Qm κ ad σ enI okB X) 17 [(0, vo ad 12 (some 0)), (1, vi x1), (2, vi x2), (3, vi x3)] [] ad σ) → (∀ (x2 : Int), Q17 (x2) → inr x2 → Z κ (0, 0) (Qm κ ad σ enI okB X) 66 [(2, vi x2)] [] ad σ) → ∀ (x2 : Int) (x3 : Int), inr x2 → inr x3 → wpO (fX12_isReady_l17 x1 σ x2 x3) (onS P17 Q17) → Z κ (0, 0) (Qm κ ad σ enI okB X) 17 [(0, vo ad 12 (some 0)), (1, vi x1), (2, vi x2), (3, vi x3)] [] ad σ := by
      intro P17 Q17 hP17 hE17_66 x2 x3 hx2 hx3 h
      unfold fX12_isReady_l17 at h
      have J59 : ∀ (x3 : Int) (s0 : Int), inr x3 → inr s0 → wpO (fX12_isReady_j59 x1 x3 s0 σ) (onS P17 Q17) → Z κ (0, 0) (Qm κ ad σ enI okB X) 59 [(0, vo ad 12 (some 0)), (1, vi x1), (3, vi x3)] [vi s0] ad σ := by
        intro x3 s0 hx3 hs0 h
        unfold fX12_isReady_j59 at h
        refine z_rng (fun hI4 hJ5 => ?_)
        refine z_istore_n (lv2 := [(2, vi s0), (0, vo ad 12 (some 0)), (1, vi x1), (3, vi x3)]) C dX12_isReady_59 (by decide) rfl ?_
        obtain ⟨hk6, h⟩ := wpO_ck.mp h
        refine z_iinc (lv2 := [(3, vi (x3 + 1)), (2, vi s0), (0, vo ad 12 (some 0)), (1, vi x1)]) C 3 dX12_isReady_60 rfl (by decide) rfl ?_
        refine z_goto C 17 dX12_isReady_63 (by decide) ?_
        refine z_sub [2, 3, 1, 0] rfl ?_
        have h := wpO_some.mp h
        exact hP17 s0 (x3 + 1) h hs0 hk6
      have J58 : ∀ (x3 : Int), inr x3 → wpO (fX12_isReady_j58 x1 x3 σ) (onS P17 Q17) → Z κ (0, 0) (Qm κ ad σ enI okB X) 58 [(0, vo ad 12 (some 0)), (1, vi x1), (3, vi x3)] [] ad σ := by
        intro x3 hx3 h
        unfold fX12_isReady_j58 at h
        refine z_rng (fun hI7 hJ8 => ?_)
        refine z_iconst C dX12_isReady_58 ?_
        exact J59 x3 0 hx3 (by decide) h
      refine z_rng (fun hI9 hJ10 => ?_)
      refine z_iload_n C 3 dX12_isReady_17 rfl ?_
      refine z_aload_n C 0 dX12_isReady_18 rfl ?_
      refine z_gA T C li_X12_92 (sg_12 T) dX12_isReady_19 ?_
      refine z_iload_n C 1 dX12_isReady_22 rfl ?_
      obtain ⟨hb11, h⟩ := wpO_ck.mp h
      refine z_iav (v := gI σ 1331 0 x1.toNat) C ar_1331 (sg_1331 T) hx1 hb11 rfl dX12_isReady_23 ?_
      refine z_icmp_ge C 66 hx3 (hI9 1331 0 _) dX12_isReady_24 (by decide) (fun q12 => ?_) (fun q12 => ?_)
      · have h := (wpO_ite.mp h).1 q12
        refine z_sub [2] rfl ?_
        have h := wpO_some.mp h
        exact hE17_66 x2 h hx2
      · have h := (wpO_ite.mp h).2 q12
        refine z_iload_n C 2 dX12_isReady_27 rfl ?_
        refine z_if_eq C 58 hx2 dX12_isReady_28 (by decide) (fun q13 => ?_) (fun q13 => ?_)
        · have h := (wpO_ite.mp h).1 q13
          refine z_sub [0, 1, 3] rfl ?_
          exact J58 x3 hx3 h
        · have h := (wpO_ite.mp h).2 q13
          refine z_aload_n C 0 dX12_isReady_31 rfl ?_
          refine z_aload_n C 0 dX12_isReady_32 rfl ?_
          refine z_gA T C li_X12_95 (sg_12 T) dX12_isReady_33 ?_
          refine z_bipush C dX12_isReady_36 (by decide) ?_
          refine z_iload_n C 1 dX12_isReady_38 rfl ?_
          obtain ⟨hk14, h⟩ := wpO_ck.mp h
          refine z_imul C dX12_isReady_39 ?_
          refine z_iload_n C 3 dX12_isReady_40 rfl ?_
          obtain ⟨hk15, h⟩ := wpO_ck.mp h
          refine z_iadd C dX12_isReady_41 ?_
          obtain ⟨hb16, h⟩ := wpO_ck.mp h
          refine z_iav (v := gI σ 1332 0 (((6 * x1) + x3).toNat)) C ar_1332 (sg_1332 T) hk15 hb16 rfl dX12_isReady_42 ?_
          refine z_aload_n C 0 dX12_isReady_43 rfl ?_
          refine z_gIv (v := gI σ 1300 0 0) C li_X12_255 (sg_12 T) rfl dX12_isReady_44 ?_
          refine z_cVp (st := []) T C (ct_X12_whereOf (gI σ 1332 0 (((6 * x1) + x3).toNat)) (gI σ 1300 0 0) (hI9 1332 0 _) (hI9 1300 0 _)) lm_X12_297 lv_vX12_whereOf dX12_isReady_47 [vi (gI σ 1332 0 (((6 * x1) + x3).toNat)), vi (gI σ 1300 0 0)] rfl rfl rfl rfl rfl (sg_12 T) trivial (by decide) (Nat.le_of_ble_eq_true rfl) csOK_0 h (fun r17 hr18 h => ?_)
          show Z κ (0, 0) _ 50 _ [vi r17] ad σ
          refine z_iconst C dX12_isReady_50 ?_
          refine z_icmp_ne C 58 hr18 (by decide) dX12_isReady_51 (by decide) (fun q19 => ?_) (fun q19 => ?_)
          · have h := (wpO_ite.mp h).2 q19
            refine z_sub [0, 1, 3] rfl ?_
            exact J58 x3 hx3 h
          · have h := (wpO_ite.mp h).1 q19
            refine z_iconst C dX12_isReady_54 ?_
            refine z_goto C 59 dX12_isReady_55 (by decide) ?_
            refine z_sub [0, 1, 3] rfl ?_
            exact J59 x3 1 hx3 (by decide) h
    exact wh_ind (P := fun s : (Int × Int) => inr s.1 → inr s.2 → Z κ (0, 0) (Qm κ ad σ enI okB X) 17 [(0, vo ad 12 (some 0)), (1, vi x1), (2, vi s.1), (3, vi s.2)] [] ad σ) (fun s hs g0 g1 => step _ _ (fun _ _ hp => hp) (fun x2 hq hx2 => J66 x2 hx2 hq) s.1 s.2 g0 g1 hs) ((x2, x3)) (wpO_bnk.mp h) hx2 hx3
  have J14 : ∀ (x1 : Int) (s0 : Int), inr x1 → inr s0 → wpO (fX12_isReady_j14 x1 s0 σ) (fun r => X r σ) → Z κ (0, 0) (Qm κ ad σ enI okB X) 14 [(0, vo ad 12 (some 0)), (1, vi x1)] [vi s0] ad σ := by
    intro x1 s0 hx1 hs0 h
    unfold fX12_isReady_j14 at h
    refine z_rng (fun hI20 hJ21 => ?_)
    refine z_istore_n (lv2 := [(2, vi s0), (0, vo ad 12 (some 0)), (1, vi x1)]) C dX12_isReady_14 (by decide) rfl ?_
    refine z_iconst C dX12_isReady_15 ?_
    refine z_istore_n (lv2 := [(3, vi 0), (2, vi s0), (0, vo ad 12 (some 0)), (1, vi x1)]) C dX12_isReady_16 (by decide) rfl ?_
    refine z_sub [2, 3, 1, 0] rfl ?_
    exact J17 x1 s0 0 hx1 hs0 (by decide) h
  show Z κ (0, 0) (Qm κ ad σ enI okB X) 0 [(0, vo ad 12 (some 0)), (1, vi x1)] [] ad σ
  refine z_rng (fun hI22 hJ23 => ?_)
  refine z_aload_n C 0 dX12_isReady_0 rfl ?_
  refine z_gA T C li_X12_92 (sg_12 T) dX12_isReady_1 ?_
  refine z_iload_n C 1 dX12_isReady_4 rfl ?_
  obtain ⟨hb24, h⟩ := wpO_ck.mp h
  refine z_iav (v := gI σ 1331 0 x1.toNat) C ar_1331 (sg_1331 T) hx1 hb24 rfl dX12_isReady_5 ?_
  refine z_if_le C 13 (hI22 1331 0 _) dX12_isReady_6 (by decide) (fun q25 => ?_) (fun q25 => ?_)
  · have h := (wpO_ite.mp h).1 q25
    refine z_iconst C dX12_isReady_13 ?_
    exact J14 x1 0 hx1 (by decide) h
  · have h := (wpO_ite.mp h).2 q25
    refine z_iconst C dX12_isReady_9 ?_
    refine z_goto C 14 dX12_isReady_10 (by decide) ?_
    exact J14 x1 1 hx1 (by decide) h
noncomputable def fX12_mayReel (x1 : Int) (x2 : Int) (σ : St) : Option Int :=
  bnk (fX12_isLand x1) (fun r3 => if r3 = 0 then (some ((-1))) else (bnk (fX12_isDay x2) (fun r6 => if r6 = 0 then (some ((-2))) else (some 0))))
set_option maxRecDepth 20000 in
set_option maxHeartbeats 4000000 in
theorem ct_X12_mayReel (x1 : Int) (x2 : Int) (hx1 : inr x1) (hx2 : inr x2) : Ct yX12_mayReel cX12_mayReel 3 (some .int) 2 (fun ad => [vo ad 12 (some 0), vi x1, vi x2]) (pu (fX12_mayReel x1 x2)) enI okI (fun _ => True) := by
  refine Ct.of (by decide) (fun ad => Nat.le_of_ble_eq_true rfl) ?_
  intro κ ad σ X C T hpre h
  have C : Cx κ RX12 cX12_mayReel 3 (some .int) 2 := C
  have h := wpO_pu.mp h
  unfold fX12_mayReel at h
  show Z κ (0, 0) (Qm κ ad σ enI okI X) 0 [(0, vo ad 12 (some 0)), (1, vi x1), (2, vi x2)] [] ad σ
  refine z_rng (fun hI1 hJ2 => ?_)
  refine z_iload_n C 1 dX12_mayReel_0 rfl ?_
  refine z_cSp (st := []) T C (ct_X12_isLand x1 hx1) lm_X12_386 ls_X12_isLand dX12_mayReel_1 rfl rfl trivial (by decide) (Nat.le_of_ble_eq_true rfl) csOK_0 h (fun r3 hr4 h => ?_)
  show Z κ (0, 0) _ 4 _ [vi r3] ad σ
  refine z_if_ne C 11 (inr_b hr4) dX12_mayReel_4 (by decide) (fun q5 => ?_) (fun q5 => ?_)
  · have h := (wpO_ite.mp h).2 q5
    refine z_iload_n C 2 dX12_mayReel_11 rfl ?_
    refine z_cSp (st := []) T C (ct_X12_isDay x2 hx2) lm_X12_339 ls_X12_isDay dX12_mayReel_12 rfl rfl trivial (by decide) (Nat.le_of_ble_eq_true rfl) csOK_0 h (fun r6 hr7 h => ?_)
    show Z κ (0, 0) _ 15 _ [vi r6] ad σ
    refine z_if_eq C 22 (inr_b hr7) dX12_mayReel_15 (by decide) (fun q8 => ?_) (fun q8 => ?_)
    · have h := (wpO_ite.mp h).1 q8
      refine z_bipush C dX12_mayReel_22 (by decide) ?_
      have h := wpO_some.mp h
      exact z_ireturn T C dX12_mayReel_24 (by decide) rfl h
    · have h := (wpO_ite.mp h).2 q8
      refine z_iconst C dX12_mayReel_18 ?_
      refine z_goto C 24 dX12_mayReel_19 (by decide) ?_
      have h := wpO_some.mp h
      exact z_ireturn T C dX12_mayReel_24 (by decide) rfl h
  · have h := (wpO_ite.mp h).1 q5
    refine z_iconst C dX12_mayReel_7 ?_
    refine z_goto C 24 dX12_mayReel_8 (by decide) ?_
    have h := wpO_some.mp h
    exact z_ireturn T C dX12_mayReel_24 (by decide) rfl h
noncomputable def fX12_layMay_j132 (σ1 : St) : Option (Unit × St) :=
  some ((), σ1)
noncomputable def fX12_layMay_j122 (x1 : Int) (x2 : Int) (x3 : Int) (s1 : Int) (s2 : Int) (σ1 : St) : Option ((Int × St) ⊕ St) :=
  ck (inr (x3 + 1)) (some (.inl ((x3 + 1, sI σ1 1362 0 0 (ior s1 s2)))))
noncomputable def fX12_layMay_j121 (x1 : Int) (x2 : Int) (x3 : Int) (s1 : Int) (σ1 : St) : Option ((Int × St) ⊕ St) :=
  fX12_layMay_j122 x1 x2 x3 s1 0 σ1
noncomputable def fX12_layMay_j91 (x1 : Int) (x2 : Int) (x3 : Int) (s1 : Int) (s2 : Int) (σ1 : St) : Option ((Int × St) ⊕ St) :=
  ck (0 ≤ s1 ∧ s1 < 8) (ck (0 ≤ x3 ∧ x3 < 8) (if gI σ1 1359 0 x3.toNat = 0 then (fX12_layMay_j121 x1 x2 x3 (gI σ1 1362 0 0) (sI σ1 1361 0 s1.toNat s2)) else (ck (0 ≤ x3 ∧ x3 < 8) (if gI σ1 1334 0 x3.toNat = 0 then (fX12_layMay_j121 x1 x2 x3 (gI σ1 1362 0 0) (sI σ1 1361 0 s1.toNat s2)) else (fX12_layMay_j122 x1 x2 x3 (gI σ1 1362 0 0) (ishl 1 x3) (sI σ1 1361 0 s1.toNat s2))))))
noncomputable def fX12_layMay_j43 (x1 : Int) (x2 : Int) (x3 : Int) (s1 : Int) (s2 : Int) (σ1 : St) : Option ((Int × St) ⊕ St) :=
  ck (0 ≤ s1 ∧ s1 < 8) (ck (s2 = 0 ∨ s2 = 1) (bnk (fX12_feetOf x3 (sI σ1 1359 0 s1.toNat s2)) (fun r19 => ck (0 ≤ x3 ∧ x3 < 8) (ck (0 ≤ x3 ∧ x3 < 8) (ck (0 ≤ gI σ1 1327 0 x3.toNat ∧ gI σ1 1327 0 x3.toNat < 16) (if gI σ1 1358 0 ((gI σ1 1327 0 x3.toNat).toNat) = 0 then (ck (0 ≤ x3 ∧ x3 < 8) (fX12_layMay_j91 x1 x2 x3 x3 (gI σ1 1330 0 x3.toNat) (sI (sI σ1 1359 0 s1.toNat s2) 1360 0 x3.toNat r19))) else (ck (0 ≤ x3 ∧ x3 < 8) (fX12_layMay_j91 x1 x2 x3 x3 (idiv (gI σ1 1330 0 x3.toNat) 2) (sI (sI σ1 1359 0 s1.toNat s2) 1360 0 x3.toNat r19)))))))))
noncomputable def fX12_layMay_j42 (x1 : Int) (x2 : Int) (x3 : Int) (s1 : Int) (σ1 : St) : Option ((Int × St) ⊕ St) :=
  fX12_layMay_j43 x1 x2 x3 s1 0 σ1
noncomputable def fX12_layMay_l7 (x1 : Int) (x2 : Int) (x3 : Int) (σ1 : St) : Option ((Int × St) ⊕ St) :=
  if gI σ1 1326 0 0 ≤ x3 then (some (.inr σ1)) else (bnk (fX12_isReady x3 σ1) (fun r32 => if r32 = 0 then (fX12_layMay_j42 x1 x2 x3 x3 σ1) else (bnd (fX12_isAllowed x3 x1 x2 σ1) (fun r35 σ37 => if r35 = 0 then (fX12_layMay_j42 x1 x2 x3 x3 σ37) else (fX12_layMay_j43 x1 x2 x3 x3 1 σ37)))))
noncomputable def fX12_layMay_j7 (x1 : Int) (x2 : Int) (x3 : Int) (σ1 : St) : Option (Unit × St) :=
  bnk (wh (fun s => fX12_layMay_l7 x1 x2 s.1 s.2) ((x3, σ1))) (fun e => fX12_layMay_j132 e)
noncomputable def fX12_layMay (x1 : Int) (x2 : Int) (σ : St) : Option (Unit × St) :=
  fX12_layMay_j7 x1 x2 0 (sI σ 1362 0 0 0)
set_option maxRecDepth 20000 in
set_option maxHeartbeats 4000000 in
theorem ct_X12_layMay (x1 : Int) (x2 : Int) (hx1 : inr x1) (hx2 : inr x2) : Ct yX12_layMay cX12_layMay 4 none 6 (fun ad => [vo ad 12 (some 0), vi x1, vi x2]) (fX12_layMay x1 x2) enV okV (fun _ => True) := by
  refine Ct.of (by decide) (fun ad => Nat.le_of_ble_eq_true rfl) ?_
  intro κ ad σ X C T hpre h
  have C : Cx κ RX12 cX12_layMay 4 none 6 := C
  unfold fX12_layMay at h
  have J132 : ∀ (σ1 : St), σ1.2.2.2 = σ.2.2.2 → wpO (fX12_layMay_j132 σ1) (fun q => X q.1 q.2) → Z κ (0, 0) (Qm κ ad σ enV okV X) 132 [] [] ad σ1 := by
    intro σ1 eN1 h
    unfold fX12_layMay_j132 at h
    refine z_rng (fun hI1 hJ2 => ?_)
    have h := wpO_some.mp h
    exact z_return T C dX12_layMay_132 eN1 h
  have J7 : ∀ (x1 : Int) (x2 : Int) (x3 : Int) (σ1 : St), inr x1 → inr x2 → inr x3 → σ1.2.2.2 = σ.2.2.2 → wpO (fX12_layMay_j7 x1 x2 x3 σ1) (fun q => X q.1 q.2) → Z κ (0, 0) (Qm κ ad σ enV okV X) 7 [(0, vo ad 12 (some 0)), (1, vi x1), (2, vi x2), (3, vi x3)] [] ad σ1 := by
    intro x1 x2 x3 σ1 hx1 hx2 hx3 eN1 h
    unfold fX12_layMay_j7 at h
    have step : ∀ (P7 : (Int × St) → Prop) (Q7 : St → Prop), (∀ (x3 : Int) (σ1 : St), P7 ((x3, σ1)) → inr x3 → σ1.2.2.2 = σ.2.2.2 → Z κ (0, 0) (Qm κ ad σ enV okV X) 7 [(0, vo ad 12 (some 0)), (1, vi x1), (2, vi x2), (3, vi x3)] [] ad σ1) → (∀ (σ1 : St), Q7 (σ1) → σ1.2.2.2 = σ.2.2.2 → Z κ (0, 0) (Qm κ ad σ enV okV X) 132 [] [] ad σ1) → ∀ (x3 : Int) (σ1 : St), inr x3 → σ1.2.2.2 = σ.2.2.2 → wpO (fX12_layMay_l7 x1 x2 x3 σ1) (onS P7 Q7) → Z κ (0, 0) (Qm κ ad σ enV okV X) 7 [(0, vo ad 12 (some 0)), (1, vi x1), (2, vi x2), (3, vi x3)] [] ad σ1 := by
      intro P7 Q7 hP7 hE7_132 x3 σ1 hx3 eN1 h
      unfold fX12_layMay_l7 at h
      have J122 : ∀ (x3 : Int) (s1 : Int) (s2 : Int) (σ1 : St), inr x3 → inr s1 → inr s2 → σ1.2.2.2 = σ.2.2.2 → wpO (fX12_layMay_j122 x1 x2 x3 s1 s2 σ1) (onS P7 Q7) → Z κ (0, 0) (Qm κ ad σ enV okV X) 122 [(0, vo ad 12 (some 0)), (1, vi x1), (2, vi x2), (3, vi x3)] [vi s2, vi s1, vo ad 12 (some 0)] ad σ1 := by
        intro x3 s1 s2 σ1 hx3 hs1 hs2 eN1 h
        unfold fX12_layMay_j122 at h
        refine z_rng (fun hI3 hJ4 => ?_)
        refine z_ior C dX12_layMay_122 ?_
        refine z_pI C lq_X12_407 (sg_12 T) (inr_ior _ _) dX12_layMay_123 ?_
        obtain ⟨hk5, h⟩ := wpO_ck.mp h
        refine z_iinc (lv2 := [(3, vi (x3 + 1)), (0, vo ad 12 (some 0)), (1, vi x1), (2, vi x2)]) C 3 dX12_layMay_126 rfl (by decide) rfl ?_
        refine z_goto C 7 dX12_layMay_129 (by decide) ?_
        refine z_sub [1, 2, 3, 0] rfl ?_
        have h := wpO_some.mp h
        exact hP7 (x3 + 1) (sI σ1 1362 0 0 (ior s1 s2)) h hk5 eN1
      have J121 : ∀ (x3 : Int) (s1 : Int) (σ1 : St), inr x3 → inr s1 → σ1.2.2.2 = σ.2.2.2 → wpO (fX12_layMay_j121 x1 x2 x3 s1 σ1) (onS P7 Q7) → Z κ (0, 0) (Qm κ ad σ enV okV X) 121 [(0, vo ad 12 (some 0)), (1, vi x1), (2, vi x2), (3, vi x3)] [vi s1, vo ad 12 (some 0)] ad σ1 := by
        intro x3 s1 σ1 hx3 hs1 eN1 h
        unfold fX12_layMay_j121 at h
        refine z_rng (fun hI6 hJ7 => ?_)
        refine z_iconst C dX12_layMay_121 ?_
        exact J122 x3 s1 0 σ1 hx3 hs1 (by decide) eN1 h
      have J91 : ∀ (x3 : Int) (s1 : Int) (s2 : Int) (σ1 : St), inr x3 → inr s1 → inr s2 → σ1.2.2.2 = σ.2.2.2 → wpO (fX12_layMay_j91 x1 x2 x3 s1 s2 σ1) (onS P7 Q7) → Z κ (0, 0) (Qm κ ad σ enV okV X) 91 [(0, vo ad 12 (some 0)), (1, vi x1), (2, vi x2), (3, vi x3)] [vi s2, vi s1, vo ad 1361 (some 0)] ad σ1 := by
        intro x3 s1 s2 σ1 hx3 hs1 hs2 eN1 h
        unfold fX12_layMay_j91 at h
        refine z_rng (fun hI8 hJ9 => ?_)
        obtain ⟨hb10, h⟩ := wpO_ck.mp h
        refine z_iastore C ar_1361 (sg_1361 T) hs1 hb10 hs2 dX12_layMay_91 ?_
        refine z_aload_n C 0 dX12_layMay_92 rfl ?_
        refine z_dup C dX12_layMay_93 rfl ?_
        refine z_gIv (v := gI σ1 1362 0 0) C li_X12_407 (sg_12 T) (gn (by decide) rfl) dX12_layMay_94 ?_
        refine z_aload_n C 0 dX12_layMay_97 rfl ?_
        refine z_gA T C li_X12_162 (sg_12 T) dX12_layMay_98 ?_
        refine z_iload_n C 3 dX12_layMay_101 rfl ?_
        obtain ⟨hb11, h⟩ := wpO_ck.mp h
        refine z_bav (v := gI σ1 1359 0 x3.toNat) C ar_1359 (sg_1359 T) hx3 hb11 (gn (by decide) rfl) dX12_layMay_102 ?_
        refine z_if_eq C 121 (hI8 1359 0 _) dX12_layMay_103 (by decide) (fun q12 => ?_) (fun q12 => ?_)
        · have h := (wpO_ite.mp h).1 q12
          exact J121 x3 (gI σ1 1362 0 0) (sI σ1 1361 0 s1.toNat s2) hx3 (hI8 1362 0 _) eN1 h
        · have h := (wpO_ite.mp h).2 q12
          refine z_aload_n C 0 dX12_layMay_106 rfl ?_
          refine z_gA T C li_X12_101 (sg_12 T) dX12_layMay_107 ?_
          refine z_iload_n C 3 dX12_layMay_110 rfl ?_
          obtain ⟨hb13, h⟩ := wpO_ck.mp h
          refine z_bav (v := gI σ1 1334 0 x3.toNat) C ar_1334 (sg_1334 T) hx3 hb13 (gn (by decide) rfl) dX12_layMay_111 ?_
          refine z_if_eq C 121 (hI8 1334 0 _) dX12_layMay_112 (by decide) (fun q14 => ?_) (fun q14 => ?_)
          · have h := (wpO_ite.mp h).1 q14
            exact J121 x3 (gI σ1 1362 0 0) (sI σ1 1361 0 s1.toNat s2) hx3 (hI8 1362 0 _) eN1 h
          · have h := (wpO_ite.mp h).2 q14
            refine z_iconst C dX12_layMay_115 ?_
            refine z_iload_n C 3 dX12_layMay_116 rfl ?_
            refine z_ishl C dX12_layMay_117 ?_
            refine z_goto C 122 dX12_layMay_118 (by decide) ?_
            exact J122 x3 (gI σ1 1362 0 0) (ishl 1 x3) (sI σ1 1361 0 s1.toNat s2) hx3 (hI8 1362 0 _) (inr_ishl _ _) eN1 h
      have J43 : ∀ (x3 : Int) (s1 : Int) (s2 : Int) (σ1 : St), inr x3 → inr s1 → inr s2 → σ1.2.2.2 = σ.2.2.2 → wpO (fX12_layMay_j43 x1 x2 x3 s1 s2 σ1) (onS P7 Q7) → Z κ (0, 0) (Qm κ ad σ enV okV X) 43 [(0, vo ad 12 (some 0)), (1, vi x1), (2, vi x2), (3, vi x3)] [vi s2, vi s1, vo ad 1359 (some 0)] ad σ1 := by
        intro x3 s1 s2 σ1 hx3 hs1 hs2 eN1 h
        unfold fX12_layMay_j43 at h
        refine z_rng (fun hI15 hJ16 => ?_)
        obtain ⟨hb17, h⟩ := wpO_ck.mp h
        obtain ⟨hb18, h⟩ := wpO_ck.mp h
        refine z_bastore C ar_1359 (sg_1359 T) hs1 hb17 hs2 hb18 dX12_layMay_43 ?_
        refine z_aload_n C 0 dX12_layMay_44 rfl ?_
        refine z_gA T C li_X12_165 (sg_12 T) dX12_layMay_45 ?_
        refine z_iload_n C 3 dX12_layMay_48 rfl ?_
        refine z_aload_n C 0 dX12_layMay_49 rfl ?_
        refine z_iload_n C 3 dX12_layMay_50 rfl ?_
        refine z_cVp (st := [vi x3, vo ad 1360 (some 0)]) T C (ct_X12_feetOf x3 hx3) lm_X12_319 lv_vX12_feetOf dX12_layMay_51 [vi x3] rfl rfl rfl rfl rfl (sg_12 T) trivial (by decide) (Nat.le_of_ble_eq_true rfl) csOK_0 h (fun r19 hr20 h => ?_)
        show Z κ (0, 0) _ 54 _ [vi r19, vi x3, vo ad 1360 (some 0)] ad (sI σ1 1359 0 s1.toNat s2)
        obtain ⟨hb21, h⟩ := wpO_ck.mp h
        refine z_iastore C ar_1360 (sg_1360 T) hx3 hb21 hr20 dX12_layMay_54 ?_
        refine z_aload_n C 0 dX12_layMay_55 rfl ?_
        refine z_gA T C li_X12_168 (sg_12 T) dX12_layMay_56 ?_
        refine z_iload_n C 3 dX12_layMay_59 rfl ?_
        refine z_aload_n C 0 dX12_layMay_60 rfl ?_
        refine z_gA T C li_X12_159 (sg_12 T) dX12_layMay_61 ?_
        refine z_aload_n C 0 dX12_layMay_64 rfl ?_
        refine z_gA T C li_X12_80 (sg_12 T) dX12_layMay_65 ?_
        refine z_iload_n C 3 dX12_layMay_68 rfl ?_
        obtain ⟨hb22, h⟩ := wpO_ck.mp h
        refine z_iav (v := gI σ1 1327 0 x3.toNat) C ar_1327 (sg_1327 T) hx3 hb22 (gn (by decide) (gn (by decide) rfl)) dX12_layMay_69 ?_
        obtain ⟨hb23, h⟩ := wpO_ck.mp h
        refine z_bav (v := gI σ1 1358 0 ((gI σ1 1327 0 x3.toNat).toNat)) C ar_1358 (sg_1358 T) (hI15 1327 0 _) hb23 (gn (by decide) (gn (by decide) rfl)) dX12_layMay_70 ?_
        refine z_if_eq C 85 (hI15 1358 0 _) dX12_layMay_71 (by decide) (fun q24 => ?_) (fun q24 => ?_)
        · have h := (wpO_ite.mp h).1 q24
          refine z_aload_n C 0 dX12_layMay_85 rfl ?_
          refine z_gA T C li_X12_89 (sg_12 T) dX12_layMay_86 ?_
          refine z_iload_n C 3 dX12_layMay_89 rfl ?_
          obtain ⟨hb25, h⟩ := wpO_ck.mp h
          refine z_iav (v := gI σ1 1330 0 x3.toNat) C ar_1330 (sg_1330 T) hx3 hb25 (gn (by decide) (gn (by decide) rfl)) dX12_layMay_90 ?_
          exact J91 x3 x3 (gI σ1 1330 0 x3.toNat) (sI (sI σ1 1359 0 s1.toNat s2) 1360 0 x3.toNat r19) hx3 hx3 (hI15 1330 0 _) eN1 h
        · have h := (wpO_ite.mp h).2 q24
          refine z_aload_n C 0 dX12_layMay_74 rfl ?_
          refine z_gA T C li_X12_89 (sg_12 T) dX12_layMay_75 ?_
          refine z_iload_n C 3 dX12_layMay_78 rfl ?_
          obtain ⟨hb26, h⟩ := wpO_ck.mp h
          refine z_iav (v := gI σ1 1330 0 x3.toNat) C ar_1330 (sg_1330 T) hx3 hb26 (gn (by decide) (gn (by decide) rfl)) dX12_layMay_79 ?_
          refine z_iconst C dX12_layMay_80 ?_
          refine z_idiv C (by decide) (by decide) dX12_layMay_81 ?_
          refine z_goto C 91 dX12_layMay_82 (by decide) ?_
          exact J91 x3 x3 (idiv (gI σ1 1330 0 x3.toNat) 2) (sI (sI σ1 1359 0 s1.toNat s2) 1360 0 x3.toNat r19) hx3 hx3 (inr_idiv _ _) eN1 h
      have J42 : ∀ (x3 : Int) (s1 : Int) (σ1 : St), inr x3 → inr s1 → σ1.2.2.2 = σ.2.2.2 → wpO (fX12_layMay_j42 x1 x2 x3 s1 σ1) (onS P7 Q7) → Z κ (0, 0) (Qm κ ad σ enV okV X) 42 [(0, vo ad 12 (some 0)), (1, vi x1), (2, vi x2), (3, vi x3)] [vi s1, vo ad 1359 (some 0)] ad σ1 := by
        intro x3 s1 σ1 hx3 hs1 eN1 h
        unfold fX12_layMay_j42 at h
        refine z_rng (fun hI27 hJ28 => ?_)
        refine z_iconst C dX12_layMay_42 ?_
        exact J43 x3 s1 0 σ1 hx3 hs1 (by decide) eN1 h
      refine z_rng (fun hI29 hJ30 => ?_)
      refine z_iload_n C 3 dX12_layMay_7 rfl ?_
      refine z_aload_n C 0 dX12_layMay_8 rfl ?_
      refine z_gIv (v := gI σ1 1326 0 0) C li_X12_311 (sg_12 T) rfl dX12_layMay_9 ?_
      refine z_icmp_ge C 132 hx3 (hI29 1326 0 _) dX12_layMay_12 (by decide) (fun q31 => ?_) (fun q31 => ?_)
      · have h := (wpO_ite.mp h).1 q31
        refine z_sub [] rfl ?_
        have h := wpO_some.mp h
        exact hE7_132 σ1 h eN1
      · have h := (wpO_ite.mp h).2 q31
        refine z_aload_n C 0 dX12_layMay_15 rfl ?_
        refine z_gA T C li_X12_162 (sg_12 T) dX12_layMay_16 ?_
        refine z_iload_n C 3 dX12_layMay_19 rfl ?_
        refine z_aload_n C 0 dX12_layMay_20 rfl ?_
        refine z_iload_n C 3 dX12_layMay_21 rfl ?_
        refine z_cVp (st := [vi x3, vo ad 1359 (some 0)]) T C (ct_X12_isReady x3 hx3) lm_X12_329 lv_vX12_isReady dX12_layMay_22 [vi x3] rfl rfl rfl rfl rfl (sg_12 T) trivial (by decide) (Nat.le_of_ble_eq_true rfl) csOK_0 h (fun r32 hr33 h => ?_)
        show Z κ (0, 0) _ 25 _ [vi r32, vi x3, vo ad 1359 (some 0)] ad σ1
        refine z_if_eq C 42 (inr_b hr33) dX12_layMay_25 (by decide) (fun q34 => ?_) (fun q34 => ?_)
        · have h := (wpO_ite.mp h).1 q34
          exact J42 x3 x3 σ1 hx3 hx3 eN1 h
        · have h := (wpO_ite.mp h).2 q34
          refine z_aload_n C 0 dX12_layMay_28 rfl ?_
          refine z_iload_n C 3 dX12_layMay_29 rfl ?_
          refine z_iload_n C 1 dX12_layMay_30 rfl ?_
          refine z_iload_n C 2 dX12_layMay_31 rfl ?_
          refine z_cV (st := [vi x3, vo ad 1359 (some 0)]) T C (ct_X12_isAllowed x3 x1 x2 hx3 hx1 hx2) lm_X12_402 lv_vX12_isAllowed dX12_layMay_32 [vi x3, vi x1, vi x2] rfl rfl rfl rfl rfl (sg_12 T) trivial (by decide) (Nat.le_of_ble_eq_true rfl) csOK_0 h (fun r35 σ37 hr36 eN38 h => ?_)
          have eN39 := eN38.trans eN1
          show Z κ (0, 0) _ 35 _ [vi r35, vi x3, vo ad 1359 (some 0)] ad σ37
          refine z_rng (fun hI40 hJ41 => ?_)
          refine z_if_eq C 42 (inr_b hr36) dX12_layMay_35 (by decide) (fun q42 => ?_) (fun q42 => ?_)
          · have h := (wpO_ite.mp h).1 q42
            exact J42 x3 x3 σ37 hx3 hx3 eN39 h
          · have h := (wpO_ite.mp h).2 q42
            refine z_iconst C dX12_layMay_38 ?_
            refine z_goto C 43 dX12_layMay_39 (by decide) ?_
            exact J43 x3 x3 1 σ37 hx3 hx3 (by decide) eN39 h
    exact wh_ind (P := fun s : (Int × St) => inr s.1 → s.2.2.2.2 = σ.2.2.2 → Z κ (0, 0) (Qm κ ad σ enV okV X) 7 [(0, vo ad 12 (some 0)), (1, vi x1), (2, vi x2), (3, vi s.1)] [] ad s.2) (fun s hs g0 g1 => step _ _ (fun _ _ hp => hp) (fun σ1 hq eN1 => J132 σ1 eN1 hq) s.1 s.2 g0 g1 hs) ((x3, σ1)) (wpO_bnk.mp h) hx3 eN1
  show Z κ (0, 0) (Qm κ ad σ enV okV X) 0 [(0, vo ad 12 (some 0)), (1, vi x1), (2, vi x2)] [] ad σ
  refine z_rng (fun hI43 hJ44 => ?_)
  refine z_aload_n C 0 dX12_layMay_0 rfl ?_
  refine z_iconst C dX12_layMay_1 ?_
  refine z_pI C lq_X12_407 (sg_12 T) (by decide) dX12_layMay_2 ?_
  refine z_iconst C dX12_layMay_5 ?_
  refine z_istore_n (lv2 := [(3, vi 0), (0, vo ad 12 (some 0)), (1, vi x1), (2, vi x2)]) C dX12_layMay_6 (by decide) rfl ?_
  refine z_sub [1, 2, 3, 0] rfl ?_
  exact J7 x1 x2 0 (sI σ 1362 0 0 0) hx1 hx2 (by decide) rfl h
noncomputable def fX12_judge_j285 (s0 : Int) (σ1 : St) : Option (Int × St) :=
  if s0 = 9 then (some (0, σ1)) else (some (s0, σ1))
noncomputable def fX12_judge_j283 (x6 : Int) (σ1 : St) : Option (Int × St) :=
  fX12_judge_j285 x6 σ1
noncomputable def fX12_judge_j255 (x7 : Int) (s0 : Int) (σ1 : St) : Option (Int × St) :=
  if s0 ≤ 6 then (fX12_judge_j283 s0 σ1) else (if iand x7 (gI σ1 1362 0 0) = gI σ1 1362 0 0 then (fX12_judge_j283 s0 σ1) else (fX12_judge_j285 6 σ1))
noncomputable def fX12_judge_j253 (x6 : Int) (x7 : Int) (σ1 : St) : Option (Int × St) :=
  fX12_judge_j255 x7 x6 σ1
noncomputable def fX12_judge_j224 (x6 : Int) (x7 : Int) (x8 : Int) (σ1 : St) : Option (Int × St) :=
  if x6 ≤ 5 then (fX12_judge_j253 x6 x7 σ1) else (bnk (fX12_in x8 (gI σ1 1355 0 0) (gI σ1 1356 0 0)) (fun r15 => if r15 = 0 then (fX12_judge_j255 x7 5 σ1) else (fX12_judge_j253 x6 x7 σ1)))
noncomputable def fX12_judge_j218 (x3 : Int) (x6 : Int) (x7 : Int) (x8 : Int) (x9 : Int) (x10 : Int) (σ1 : St) : Option ((Int × Int × Int × Int × Int) ⊕ (Int × Int × Int)) :=
  ck (inr (x10 + 1)) (some (.inl ((x6, x7, x8, x9, x10 + 1))))
noncomputable def fX12_judge_j191 (x3 : Int) (x7 : Int) (x8 : Int) (x10 : Int) (x11 : Int) (s0 : Int) (σ1 : St) : Option ((Int × Int × Int × Int × Int) ⊕ (Int × Int × Int)) :=
  ck (0 ≤ x11 ∧ x11 < 8) (ck (inr (x8 + (gI σ1 1360 0 x11.toNat))) (fX12_judge_j218 x3 s0 (ior x7 (ishl 1 x11)) (x8 + (gI σ1 1360 0 x11.toNat)) x11 x10 σ1))
noncomputable def fX12_judge_j189 (x3 : Int) (x6 : Int) (x7 : Int) (x8 : Int) (x10 : Int) (x11 : Int) (σ1 : St) : Option ((Int × Int × Int × Int × Int) ⊕ (Int × Int × Int)) :=
  fX12_judge_j191 x3 x7 x8 x10 x11 x6 σ1
noncomputable def fX12_judge_j145 (x3 : Int) (x7 : Int) (x8 : Int) (x9 : Int) (x10 : Int) (x11 : Int) (s0 : Int) (σ1 : St) : Option ((Int × Int × Int × Int × Int) ⊕ (Int × Int × Int)) :=
  bnk (fX12_isStory x11 σ1) (fun r29 => if r29 = 0 then (fX12_judge_j218 x3 s0 x7 x8 x9 x10 σ1) else (if x9 = (-9) then (fX12_judge_j189 x3 s0 x7 x8 x10 x11 σ1) else (ck (inr (8 * x9)) (ck (inr ((8 * x9) + x11)) (ck (0 ≤ (8 * x9) + x11 ∧ (8 * x9) + x11 < 64) (if gI σ1 1357 0 (((8 * x9) + x11).toNat) = 0 then (fX12_judge_j189 x3 s0 x7 x8 x10 x11 σ1) else (if s0 ≤ 4 then (fX12_judge_j189 x3 s0 x7 x8 x10 x11 σ1) else (fX12_judge_j191 x3 x7 x8 x10 x11 4 σ1))))))))
noncomputable def fX12_judge_j129 (x3 : Int) (x6 : Int) (x7 : Int) (x8 : Int) (x9 : Int) (x10 : Int) (x11 : Int) (s0 : Int) (σ1 : St) : Option ((Int × Int × Int × Int × Int) ⊕ (Int × Int × Int)) :=
  if x6 ≤ s0 then (fX12_judge_j145 x3 x7 x8 x9 x10 x11 x6 σ1) else (fX12_judge_j145 x3 x7 x8 x9 x10 x11 s0 σ1)
noncomputable def fX12_judge_j96 (x3 : Int) (x6 : Int) (x7 : Int) (x8 : Int) (x9 : Int) (x10 : Int) (x11 : Int) (σ1 : St) : Option ((Int × Int × Int × Int × Int) ⊕ (Int × Int × Int)) :=
  fX12_judge_j129 x3 x6 x7 x8 x9 x10 x11 1 σ1
noncomputable def fX12_judge_l39 (x3 : Int) (σ1 : St) (x6 : Int) (x7 : Int) (x8 : Int) (x9 : Int) (x10 : Int) : Option ((Int × Int × Int × Int × Int) ⊕ (Int × Int × Int)) :=
  if 16 ≤ x10 then (some (.inr ((x6, x7, x8)))) else (ck (inr (4 * x10)) (if lcm_ (jand (jshr x3 (4 * x10)) 15) 0 = 0 then (some (.inr ((x6, x7, x8)))) else (ck (inr (4 * x10)) (ck (inr ((l2i (jand (jshr x3 (4 * x10)) 15)) - 1)) (bnk (fX12_isStory ((l2i (jand (jshr x3 (4 * x10)) 15)) - 1) σ1) (fun r50 => if r50 = 0 then (fX12_judge_j96 x3 x6 x7 x8 x9 x10 ((l2i (jand (jshr x3 (4 * x10)) 15)) - 1) σ1) else (if iand (ishr x7 ((l2i (jand (jshr x3 (4 * x10)) 15)) - 1)) 1 = 1 then (fX12_judge_j96 x3 x6 x7 x8 x9 x10 ((l2i (jand (jshr x3 (4 * x10)) 15)) - 1) σ1) else (bnk (fX12_isReady ((l2i (jand (jshr x3 (4 * x10)) 15)) - 1) σ1) (fun r54 => if r54 = 0 then (fX12_judge_j129 x3 x6 x7 x8 x9 x10 ((l2i (jand (jshr x3 (4 * x10)) 15)) - 1) 2 σ1) else (ck (0 ≤ (l2i (jand (jshr x3 (4 * x10)) 15)) - 1 ∧ (l2i (jand (jshr x3 (4 * x10)) 15)) - 1 < 8) (if gI σ1 1359 0 (((l2i (jand (jshr x3 (4 * x10)) 15)) - 1).toNat) = 0 then (fX12_judge_j129 x3 x6 x7 x8 x9 x10 ((l2i (jand (jshr x3 (4 * x10)) 15)) - 1) 3 σ1) else (fX12_judge_j129 x3 x6 x7 x8 x9 x10 ((l2i (jand (jshr x3 (4 * x10)) 15)) - 1) 9 σ1))))))))))))
noncomputable def fX12_judge_j39 (x3 : Int) (x6 : Int) (x7 : Int) (x8 : Int) (x9 : Int) (x10 : Int) (σ1 : St) : Option (Int × St) :=
  bnk (wh (fun s => fX12_judge_l39 x3 σ1 s.1 s.2.1 s.2.2.1 s.2.2.2.1 s.2.2.2.2) ((x6, x7, x8, x9, x10))) (fun e => fX12_judge_j224 e.1 e.2.1 e.2.2 σ1)
noncomputable def fX12_judge (x1 : Int) (x2 : Int) (x3 : Int) (σ : St) : Option (Int × St) :=
  bnk (fX12_mayReel x1 x2 σ) (fun r61 => if 0 ≤ r61 then (bnd (fX12_layMay x1 x2 σ) (fun _ σ66 => fX12_judge_j39 x3 9 0 0 ((-9)) 0 σ66)) else (some (r61, σ)))
set_option maxRecDepth 20000 in
set_option maxHeartbeats 4000000 in
theorem ct_X12_judge (x1 : Int) (x2 : Int) (x3 : Int) (hx1 : inr x1) (hx2 : inr x2) (hx3 : inq x3) : Ct yX12_judge cX12_judge 13 (some .int) 7 (fun ad => [vo ad 12 (some 0), vi x1, vi x2, vj x3]) (fX12_judge x1 x2 x3) enI okI (fun _ => True) := by
  refine Ct.of (by decide) (fun ad => Nat.le_of_ble_eq_true rfl) ?_
  intro κ ad σ X C T hpre h
  have C : Cx κ RX12 cX12_judge 13 (some .int) 7 := C
  unfold fX12_judge at h
  have J285 : ∀ (s0 : Int) (σ1 : St), inr s0 → σ1.2.2.2 = σ.2.2.2 → wpO (fX12_judge_j285 s0 σ1) (fun q => X q.1 q.2) → Z κ (0, 0) (Qm κ ad σ enI okI X) 285 [] [vi s0] ad σ1 := by
    intro s0 σ1 hs0 eN1 h
    unfold fX12_judge_j285 at h
    refine z_rng (fun hI1 hJ2 => ?_)
    refine z_istore (lv2 := [(6, vi s0)]) C dX12_judge_285 (by decide) rfl ?_
    refine z_iload C 0 dX12_judge_287 rfl ?_
    refine z_bipush C dX12_judge_289 (by decide) ?_
    refine z_icmp_ne C 298 hs0 (by decide) dX12_judge_291 (by decide) (fun q3 => ?_) (fun q3 => ?_)
    · have h := (wpO_ite.mp h).2 q3
      refine z_iload C 0 dX12_judge_298 rfl ?_
      have h := wpO_some.mp h
      exact z_ireturn T C dX12_judge_300 hs0 eN1 h
    · have h := (wpO_ite.mp h).1 q3
      refine z_iconst C dX12_judge_294 ?_
      refine z_goto C 300 dX12_judge_295 (by decide) ?_
      have h := wpO_some.mp h
      exact z_ireturn T C dX12_judge_300 (by decide) eN1 h
  have J283 : ∀ (x6 : Int) (σ1 : St), inr x6 → σ1.2.2.2 = σ.2.2.2 → wpO (fX12_judge_j283 x6 σ1) (fun q => X q.1 q.2) → Z κ (0, 0) (Qm κ ad σ enI okI X) 283 [(6, vi x6)] [] ad σ1 := by
    intro x6 σ1 hx6 eN1 h
    unfold fX12_judge_j283 at h
    refine z_rng (fun hI4 hJ5 => ?_)
    refine z_iload C 0 dX12_judge_283 rfl ?_
    refine z_sub [] rfl ?_
    exact J285 x6 σ1 hx6 eN1 h
  have J255 : ∀ (x7 : Int) (s0 : Int) (σ1 : St), inr x7 → inr s0 → σ1.2.2.2 = σ.2.2.2 → wpO (fX12_judge_j255 x7 s0 σ1) (fun q => X q.1 q.2) → Z κ (0, 0) (Qm κ ad σ enI okI X) 255 [(0, vo ad 12 (some 0)), (7, vi x7)] [vi s0] ad σ1 := by
    intro x7 s0 σ1 hx7 hs0 eN1 h
    unfold fX12_judge_j255 at h
    refine z_rng (fun hI6 hJ7 => ?_)
    refine z_istore (lv2 := [(6, vi s0), (0, vo ad 12 (some 0)), (7, vi x7)]) C dX12_judge_255 (by decide) rfl ?_
    refine z_iload C 0 dX12_judge_257 rfl ?_
    refine z_bipush C dX12_judge_259 (by decide) ?_
    refine z_icmp_le C 283 hs0 (by decide) dX12_judge_261 (by decide) (fun q8 => ?_) (fun q8 => ?_)
    · have h := (wpO_ite.mp h).1 q8
      refine z_sub [0] rfl ?_
      exact J283 s0 σ1 hs0 eN1 h
    · have h := (wpO_ite.mp h).2 q8
      refine z_iload C 2 dX12_judge_264 rfl ?_
      refine z_aload_n C 1 dX12_judge_266 rfl ?_
      refine z_gIv (v := gI σ1 1362 0 0) C li_X12_407 (sg_12 T) rfl dX12_judge_267 ?_
      refine z_iand C dX12_judge_270 ?_
      refine z_aload_n C 1 dX12_judge_271 rfl ?_
      refine z_gIv (v := gI σ1 1362 0 0) C li_X12_407 (sg_12 T) rfl dX12_judge_272 ?_
      refine z_icmp_eq C 283 (inr_iand _ _) (hI6 1362 0 _) dX12_judge_275 (by decide) (fun q9 => ?_) (fun q9 => ?_)
      · have h := (wpO_ite.mp h).1 q9
        refine z_sub [0] rfl ?_
        exact J283 s0 σ1 hs0 eN1 h
      · have h := (wpO_ite.mp h).2 q9
        refine z_bipush C dX12_judge_278 (by decide) ?_
        refine z_goto C 285 dX12_judge_280 (by decide) ?_
        refine z_sub [] rfl ?_
        exact J285 6 σ1 (by decide) eN1 h
  have J253 : ∀ (x6 : Int) (x7 : Int) (σ1 : St), inr x6 → inr x7 → σ1.2.2.2 = σ.2.2.2 → wpO (fX12_judge_j253 x6 x7 σ1) (fun q => X q.1 q.2) → Z κ (0, 0) (Qm κ ad σ enI okI X) 253 [(0, vo ad 12 (some 0)), (6, vi x6), (7, vi x7)] [] ad σ1 := by
    intro x6 x7 σ1 hx6 hx7 eN1 h
    unfold fX12_judge_j253 at h
    refine z_rng (fun hI10 hJ11 => ?_)
    refine z_iload C 1 dX12_judge_253 rfl ?_
    refine z_sub [0, 2] rfl ?_
    exact J255 x7 x6 σ1 hx7 hx6 eN1 h
  have J224 : ∀ (x6 : Int) (x7 : Int) (x8 : Int) (σ1 : St), inr x6 → inr x7 → inr x8 → σ1.2.2.2 = σ.2.2.2 → wpO (fX12_judge_j224 x6 x7 x8 σ1) (fun q => X q.1 q.2) → Z κ (0, 0) (Qm κ ad σ enI okI X) 224 [(0, vo ad 12 (some 0)), (6, vi x6), (7, vi x7), (8, vi x8)] [] ad σ1 := by
    intro x6 x7 x8 σ1 hx6 hx7 hx8 eN1 h
    unfold fX12_judge_j224 at h
    refine z_rng (fun hI12 hJ13 => ?_)
    refine z_iload C 1 dX12_judge_224 rfl ?_
    refine z_iconst C dX12_judge_226 ?_
    refine z_icmp_le C 253 hx6 (by decide) dX12_judge_227 (by decide) (fun q14 => ?_) (fun q14 => ?_)
    · have h := (wpO_ite.mp h).1 q14
      refine z_sub [0, 1, 2] rfl ?_
      exact J253 x6 x7 σ1 hx6 hx7 eN1 h
    · have h := (wpO_ite.mp h).2 q14
      refine z_iload C 3 dX12_judge_230 rfl ?_
      refine z_i2l C hx8 dX12_judge_232 ?_
      refine z_aload_n C 0 dX12_judge_233 rfl ?_
      refine z_gIv (v := gI σ1 1355 0 0) C li_X12_150 (sg_12 T) rfl dX12_judge_234 ?_
      refine z_i2l C (hI12 1355 0 _) dX12_judge_237 ?_
      refine z_aload_n C 0 dX12_judge_238 rfl ?_
      refine z_gIv (v := gI σ1 1356 0 0) C li_X12_153 (sg_12 T) rfl dX12_judge_239 ?_
      refine z_i2l C (hI12 1356 0 _) dX12_judge_242 ?_
      refine z_cSp (st := []) T C (ct_X12_in x8 (gI σ1 1355 0 0) (gI σ1 1356 0 0) (inq_i hx8) (inq_i (hI12 1355 0 _)) (inq_i (hI12 1356 0 _))) lm_X12_245 ls_X12_in dX12_judge_243 rfl rfl trivial (by decide) (Nat.le_of_ble_eq_true rfl) csOK_0 h (fun r15 hr16 h => ?_)
      show Z κ (0, 0) _ 246 _ [vi r15] ad σ1
      refine z_if_ne C 253 (inr_b hr16) dX12_judge_246 (by decide) (fun q17 => ?_) (fun q17 => ?_)
      · have h := (wpO_ite.mp h).2 q17
        refine z_sub [0, 1, 2] rfl ?_
        exact J253 x6 x7 σ1 hx6 hx7 eN1 h
      · have h := (wpO_ite.mp h).1 q17
        refine z_iconst C dX12_judge_249 ?_
        refine z_goto C 255 dX12_judge_250 (by decide) ?_
        refine z_sub [0, 2] rfl ?_
        exact J255 x7 5 σ1 hx7 (by decide) eN1 h
  have J39 : ∀ (x3 : Int) (x6 : Int) (x7 : Int) (x8 : Int) (x9 : Int) (x10 : Int) (σ1 : St), inq x3 → inr x6 → inr x7 → inr x8 → inr x9 → inr x10 → σ1.2.2.2 = σ.2.2.2 → wpO (fX12_judge_j39 x3 x6 x7 x8 x9 x10 σ1) (fun q => X q.1 q.2) → Z κ (0, 0) (Qm κ ad σ enI okI X) 39 [(0, vo ad 12 (some 0)), (3, vj x3), (6, vi x6), (7, vi x7), (8, vi x8), (9, vi x9), (10, vi x10)] [] ad σ1 := by
    intro x3 x6 x7 x8 x9 x10 σ1 hx3 hx6 hx7 hx8 hx9 hx10 eN1 h
    unfold fX12_judge_j39 at h
    have step : ∀ (P39 : (Int × Int × Int × Int × Int) → Prop) (Q39 : (Int × Int × Int) → Prop), (∀ (x6 : Int) (x7 : Int) (x8 : Int) (x9 : Int) (x10 : Int), P39 ((x6, x7, x8, x9, x10)) → inr x6 → inr x7 → inr x8 → inr x9 → inr x10 → Z κ (0, 0) (Qm κ ad σ enI okI X) 39 [(0, vo ad 12 (some 0)), (3, vj x3), (6, vi x6), (7, vi x7), (8, vi x8), (9, vi x9), (10, vi x10)] [] ad σ1) → (∀ (x6 : Int) (x7 : Int) (x8 : Int), Q39 ((x6, x7, x8)) → inr x6 → inr x7 → inr x8 → Z κ (0, 0) (Qm κ ad σ enI okI X) 224 [(0, vo ad 12 (some 0)), (6, vi x6), (7, vi x7), (8, vi x8)] [] ad σ1) → ∀ (x6 : Int) (x7 : Int) (x8 : Int) (x9 : Int) (x10 : Int), inr x6 → inr x7 → inr x8 → inr x9 → inr x10 → wpO (fX12_judge_l39 x3 σ1 x6 x7 x8 x9 x10) (onS P39 Q39) → Z κ (0, 0) (Qm κ ad σ enI okI X) 39 [(0, vo ad 12 (some 0)), (3, vj x3), (6, vi x6), (7, vi x7), (8, vi x8), (9, vi x9), (10, vi x10)] [] ad σ1 := by
      intro P39 Q39 hP39 hE39_224 x6 x7 x8 x9 x10 hx6 hx7 hx8 hx9 hx10 h
      unfold fX12_judge_l39 at h
      have J218 : ∀ (x6 : Int) (x7 : Int) (x8 : Int) (x9 : Int) (x10 : Int), inr x6 → inr x7 → inr x8 → inr x9 → inr x10 → wpO (fX12_judge_j218 x3 x6 x7 x8 x9 x10 σ1) (onS P39 Q39) → Z κ (0, 0) (Qm κ ad σ enI okI X) 218 [(0, vo ad 12 (some 0)), (3, vj x3), (6, vi x6), (7, vi x7), (8, vi x8), (9, vi x9), (10, vi x10)] [] ad σ1 := by
        intro x6 x7 x8 x9 x10 hx6 hx7 hx8 hx9 hx10 h
        unfold fX12_judge_j218 at h
        refine z_rng (fun hI18 hJ19 => ?_)
        obtain ⟨hk20, h⟩ := wpO_ck.mp h
        refine z_iinc (lv2 := [(10, vi (x10 + 1)), (0, vo ad 12 (some 0)), (3, vj x3), (6, vi x6), (7, vi x7), (8, vi x8), (9, vi x9)]) C 6 dX12_judge_218 rfl (by decide) rfl ?_
        refine z_goto C 39 dX12_judge_221 (by decide) ?_
        refine z_sub [1, 2, 3, 4, 5, 6, 0] rfl ?_
        have h := wpO_some.mp h
        exact hP39 x6 x7 x8 x9 (x10 + 1) h hx6 hx7 hx8 hx9 hk20
      have J191 : ∀ (x7 : Int) (x8 : Int) (x10 : Int) (x11 : Int) (s0 : Int), inr x7 → inr x8 → inr x10 → inr x11 → inr s0 → wpO (fX12_judge_j191 x3 x7 x8 x10 x11 s0 σ1) (onS P39 Q39) → Z κ (0, 0) (Qm κ ad σ enI okI X) 191 [(0, vo ad 12 (some 0)), (3, vj x3), (7, vi x7), (8, vi x8), (10, vi x10), (11, vi x11)] [vi s0] ad σ1 := by
        intro x7 x8 x10 x11 s0 hx7 hx8 hx10 hx11 hs0 h
        unfold fX12_judge_j191 at h
        refine z_rng (fun hI21 hJ22 => ?_)
        refine z_istore (lv2 := [(6, vi s0), (0, vo ad 12 (some 0)), (3, vj x3), (7, vi x7), (8, vi x8), (10, vi x10), (11, vi x11)]) C dX12_judge_191 (by decide) rfl ?_
        refine z_iload C 3 dX12_judge_193 rfl ?_
        refine z_iconst C dX12_judge_195 ?_
        refine z_iload C 6 dX12_judge_196 rfl ?_
        refine z_ishl C dX12_judge_198 ?_
        refine z_ior C dX12_judge_199 ?_
        refine z_istore (lv2 := [(7, vi (ior x7 (ishl 1 x11))), (6, vi s0), (0, vo ad 12 (some 0)), (3, vj x3), (8, vi x8), (10, vi x10), (11, vi x11)]) C dX12_judge_200 (by decide) rfl ?_
        refine z_iload C 4 dX12_judge_202 rfl ?_
        refine z_aload_n C 2 dX12_judge_204 rfl ?_
        refine z_gA T C li_X12_165 (sg_12 T) dX12_judge_205 ?_
        refine z_iload C 6 dX12_judge_208 rfl ?_
        obtain ⟨hb23, h⟩ := wpO_ck.mp h
        refine z_iav (v := gI σ1 1360 0 x11.toNat) C ar_1360 (sg_1360 T) hx11 hb23 rfl dX12_judge_210 ?_
        obtain ⟨hk24, h⟩ := wpO_ck.mp h
        refine z_iadd C dX12_judge_211 ?_
        refine z_istore (lv2 := [(8, vi (x8 + (gI σ1 1360 0 x11.toNat))), (7, vi (ior x7 (ishl 1 x11))), (6, vi s0), (0, vo ad 12 (some 0)), (3, vj x3), (10, vi x10), (11, vi x11)]) C dX12_judge_212 (by decide) rfl ?_
        refine z_iload C 6 dX12_judge_214 rfl ?_
        refine z_istore (lv2 := [(9, vi x11), (8, vi (x8 + (gI σ1 1360 0 x11.toNat))), (7, vi (ior x7 (ishl 1 x11))), (6, vi s0), (0, vo ad 12 (some 0)), (3, vj x3), (10, vi x10), (11, vi x11)]) C dX12_judge_216 (by decide) rfl ?_
        refine z_sub [4, 5, 3, 2, 1, 0, 6] rfl ?_
        exact J218 s0 (ior x7 (ishl 1 x11)) (x8 + (gI σ1 1360 0 x11.toNat)) x11 x10 hs0 (inr_ior _ _) hk24 hx11 hx10 h
      have J189 : ∀ (x6 : Int) (x7 : Int) (x8 : Int) (x10 : Int) (x11 : Int), inr x6 → inr x7 → inr x8 → inr x10 → inr x11 → wpO (fX12_judge_j189 x3 x6 x7 x8 x10 x11 σ1) (onS P39 Q39) → Z κ (0, 0) (Qm κ ad σ enI okI X) 189 [(0, vo ad 12 (some 0)), (3, vj x3), (6, vi x6), (7, vi x7), (8, vi x8), (10, vi x10), (11, vi x11)] [] ad σ1 := by
        intro x6 x7 x8 x10 x11 hx6 hx7 hx8 hx10 hx11 h
        unfold fX12_judge_j189 at h
        refine z_rng (fun hI25 hJ26 => ?_)
        refine z_iload C 2 dX12_judge_189 rfl ?_
        refine z_sub [0, 1, 3, 4, 5, 6] rfl ?_
        exact J191 x7 x8 x10 x11 x6 hx7 hx8 hx10 hx11 hx6 h
      have J145 : ∀ (x7 : Int) (x8 : Int) (x9 : Int) (x10 : Int) (x11 : Int) (s0 : Int), inr x7 → inr x8 → inr x9 → inr x10 → inr x11 → inr s0 → wpO (fX12_judge_j145 x3 x7 x8 x9 x10 x11 s0 σ1) (onS P39 Q39) → Z κ (0, 0) (Qm κ ad σ enI okI X) 145 [(0, vo ad 12 (some 0)), (3, vj x3), (7, vi x7), (8, vi x8), (9, vi x9), (10, vi x10), (11, vi x11)] [vi s0] ad σ1 := by
        intro x7 x8 x9 x10 x11 s0 hx7 hx8 hx9 hx10 hx11 hs0 h
        unfold fX12_judge_j145 at h
        refine z_rng (fun hI27 hJ28 => ?_)
        refine z_istore (lv2 := [(6, vi s0), (0, vo ad 12 (some 0)), (3, vj x3), (7, vi x7), (8, vi x8), (9, vi x9), (10, vi x10), (11, vi x11)]) C dX12_judge_145 (by decide) rfl ?_
        refine z_aload_n C 1 dX12_judge_147 rfl ?_
        refine z_iload C 7 dX12_judge_148 rfl ?_
        refine z_cVp (st := []) T C (ct_X12_isStory x11 hx11) lm_X12_316 lv_vX12_isStory dX12_judge_150 [vi x11] rfl rfl rfl rfl rfl (sg_12 T) trivial (by decide) (Nat.le_of_ble_eq_true rfl) csOK_0 h (fun r29 hr30 h => ?_)
        show Z κ (0, 0) _ 153 _ [vi r29] ad σ1
        refine z_if_eq C 218 (inr_b hr30) dX12_judge_153 (by decide) (fun q31 => ?_) (fun q31 => ?_)
        · have h := (wpO_ite.mp h).1 q31
          refine z_sub [1, 2, 0, 3, 4, 5, 6] rfl ?_
          exact J218 s0 x7 x8 x9 x10 hs0 hx7 hx8 hx9 hx10 h
        · have h := (wpO_ite.mp h).2 q31
          refine z_iload C 5 dX12_judge_156 rfl ?_
          refine z_bipush C dX12_judge_158 (by decide) ?_
          refine z_icmp_eq C 189 hx9 (by decide) dX12_judge_160 (by decide) (fun q32 => ?_) (fun q32 => ?_)
          · have h := (wpO_ite.mp h).1 q32
            refine z_sub [1, 2, 0, 3, 4, 6, 7] rfl ?_
            exact J189 s0 x7 x8 x10 x11 hs0 hx7 hx8 hx10 hx11 h
          · have h := (wpO_ite.mp h).2 q32
            refine z_aload_n C 1 dX12_judge_163 rfl ?_
            refine z_gA T C li_X12_156 (sg_12 T) dX12_judge_164 ?_
            refine z_bipush C dX12_judge_167 (by decide) ?_
            refine z_iload C 5 dX12_judge_169 rfl ?_
            obtain ⟨hk33, h⟩ := wpO_ck.mp h
            refine z_imul C dX12_judge_171 ?_
            refine z_iload C 7 dX12_judge_172 rfl ?_
            obtain ⟨hk34, h⟩ := wpO_ck.mp h
            refine z_iadd C dX12_judge_174 ?_
            obtain ⟨hb35, h⟩ := wpO_ck.mp h
            refine z_bav (v := gI σ1 1357 0 (((8 * x9) + x11).toNat)) C ar_1357 (sg_1357 T) hk34 hb35 rfl dX12_judge_175 ?_
            refine z_if_eq C 189 (hI27 1357 0 _) dX12_judge_176 (by decide) (fun q36 => ?_) (fun q36 => ?_)
            · have h := (wpO_ite.mp h).1 q36
              refine z_sub [1, 2, 0, 3, 4, 6, 7] rfl ?_
              exact J189 s0 x7 x8 x10 x11 hs0 hx7 hx8 hx10 hx11 h
            · have h := (wpO_ite.mp h).2 q36
              refine z_iload C 0 dX12_judge_179 rfl ?_
              refine z_iconst C dX12_judge_181 ?_
              refine z_icmp_le C 189 hs0 (by decide) dX12_judge_182 (by decide) (fun q37 => ?_) (fun q37 => ?_)
              · have h := (wpO_ite.mp h).1 q37
                refine z_sub [1, 2, 0, 3, 4, 6, 7] rfl ?_
                exact J189 s0 x7 x8 x10 x11 hs0 hx7 hx8 hx10 hx11 h
              · have h := (wpO_ite.mp h).2 q37
                refine z_iconst C dX12_judge_185 ?_
                refine z_goto C 191 dX12_judge_186 (by decide) ?_
                refine z_sub [1, 2, 3, 4, 6, 7] rfl ?_
                exact J191 x7 x8 x10 x11 4 hx7 hx8 hx10 hx11 (by decide) h
      have J129 : ∀ (x6 : Int) (x7 : Int) (x8 : Int) (x9 : Int) (x10 : Int) (x11 : Int) (s0 : Int), inr x6 → inr x7 → inr x8 → inr x9 → inr x10 → inr x11 → inr s0 → wpO (fX12_judge_j129 x3 x6 x7 x8 x9 x10 x11 s0 σ1) (onS P39 Q39) → Z κ (0, 0) (Qm κ ad σ enI okI X) 129 [(0, vo ad 12 (some 0)), (3, vj x3), (6, vi x6), (7, vi x7), (8, vi x8), (9, vi x9), (10, vi x10), (11, vi x11)] [vi s0] ad σ1 := by
        intro x6 x7 x8 x9 x10 x11 s0 hx6 hx7 hx8 hx9 hx10 hx11 hs0 h
        unfold fX12_judge_j129 at h
        refine z_rng (fun hI38 hJ39 => ?_)
        refine z_istore (lv2 := [(12, vi s0), (0, vo ad 12 (some 0)), (3, vj x3), (6, vi x6), (7, vi x7), (8, vi x8), (9, vi x9), (10, vi x10), (11, vi x11)]) C dX12_judge_129 (by decide) rfl ?_
        refine z_iload C 0 dX12_judge_131 rfl ?_
        refine z_iload C 3 dX12_judge_133 rfl ?_
        refine z_icmp_ge C 143 hs0 hx6 dX12_judge_135 (by decide) (fun q40 => ?_) (fun q40 => ?_)
        · have h := (wpO_ite.mp h).1 q40
          refine z_iload C 3 dX12_judge_143 rfl ?_
          refine z_sub [1, 2, 4, 5, 6, 7, 8] rfl ?_
          exact J145 x7 x8 x9 x10 x11 x6 hx7 hx8 hx9 hx10 hx11 hx6 h
        · have h := (wpO_ite.mp h).2 q40
          refine z_iload C 0 dX12_judge_138 rfl ?_
          refine z_goto C 145 dX12_judge_140 (by decide) ?_
          refine z_sub [1, 2, 4, 5, 6, 7, 8] rfl ?_
          exact J145 x7 x8 x9 x10 x11 s0 hx7 hx8 hx9 hx10 hx11 hs0 h
      have J96 : ∀ (x6 : Int) (x7 : Int) (x8 : Int) (x9 : Int) (x10 : Int) (x11 : Int), inr x6 → inr x7 → inr x8 → inr x9 → inr x10 → inr x11 → wpO (fX12_judge_j96 x3 x6 x7 x8 x9 x10 x11 σ1) (onS P39 Q39) → Z κ (0, 0) (Qm κ ad σ enI okI X) 96 [(0, vo ad 12 (some 0)), (3, vj x3), (6, vi x6), (7, vi x7), (8, vi x8), (9, vi x9), (10, vi x10), (11, vi x11)] [] ad σ1 := by
        intro x6 x7 x8 x9 x10 x11 hx6 hx7 hx8 hx9 hx10 hx11 h
        unfold fX12_judge_j96 at h
        refine z_rng (fun hI41 hJ42 => ?_)
        refine z_iconst C dX12_judge_96 ?_
        refine z_goto C 129 dX12_judge_97 (by decide) ?_
        exact J129 x6 x7 x8 x9 x10 x11 1 hx6 hx7 hx8 hx9 hx10 hx11 (by decide) h
      refine z_rng (fun hI43 hJ44 => ?_)
      refine z_iload C 6 dX12_judge_39 rfl ?_
      refine z_bipush C dX12_judge_41 (by decide) ?_
      refine z_icmp_ge C 224 hx10 (by decide) dX12_judge_43 (by decide) (fun q45 => ?_) (fun q45 => ?_)
      · have h := (wpO_ite.mp h).1 q45
        refine z_sub [0, 2, 3, 4] rfl ?_
        have h := wpO_some.mp h
        exact hE39_224 x6 x7 x8 h hx6 hx7 hx8
      · have h := (wpO_ite.mp h).2 q45
        refine z_lload_n C 1 dX12_judge_46 rfl ?_
        refine z_iconst C dX12_judge_47 ?_
        refine z_iload C 6 dX12_judge_48 rfl ?_
        obtain ⟨hk46, h⟩ := wpO_ck.mp h
        refine z_imul C dX12_judge_50 ?_
        refine z_lshr C dX12_judge_51 ?_
        refine z_ldc2_w C lc_X12_284 dX12_judge_52 ?_
        refine z_land C dX12_judge_55 ?_
        refine z_lconst (z := 0) C dX12_judge_56 (by decide) ?_
        refine z_lcmp C (inq_jand _ _) (by decide) dX12_judge_57 ?_
        refine z_if_eq C 224 (inr_lcm _ _) dX12_judge_58 (by decide) (fun q47 => ?_) (fun q47 => ?_)
        · have h := (wpO_ite.mp h).1 q47
          refine z_sub [0, 2, 3, 4] rfl ?_
          have h := wpO_some.mp h
          exact hE39_224 x6 x7 x8 h hx6 hx7 hx8
        · have h := (wpO_ite.mp h).2 q47
          refine z_lload_n C 1 dX12_judge_61 rfl ?_
          refine z_iconst C dX12_judge_62 ?_
          refine z_iload C 6 dX12_judge_63 rfl ?_
          obtain ⟨hk48, h⟩ := wpO_ck.mp h
          refine z_imul C dX12_judge_65 ?_
          refine z_lshr C dX12_judge_66 ?_
          refine z_ldc2_w C lc_X12_284 dX12_judge_67 ?_
          refine z_land C dX12_judge_70 ?_
          refine z_l2i C dX12_judge_71 ?_
          refine z_iconst C dX12_judge_72 ?_
          obtain ⟨hk49, h⟩ := wpO_ck.mp h
          refine z_isub C dX12_judge_73 ?_
          refine z_istore (lv2 := [(11, vi ((l2i (jand (jshr x3 (4 * x10)) 15)) - 1)), (0, vo ad 12 (some 0)), (3, vj x3), (6, vi x6), (7, vi x7), (8, vi x8), (9, vi x9), (10, vi x10)]) C dX12_judge_74 (by decide) rfl ?_
          refine z_aload_n C 1 dX12_judge_76 rfl ?_
          refine z_iload C 0 dX12_judge_77 rfl ?_
          refine z_cVp (st := []) T C (ct_X12_isStory ((l2i (jand (jshr x3 (4 * x10)) 15)) - 1) hk49) lm_X12_316 lv_vX12_isStory dX12_judge_79 [vi ((l2i (jand (jshr x3 (4 * x10)) 15)) - 1)] rfl rfl rfl rfl rfl (sg_12 T) trivial (by decide) (Nat.le_of_ble_eq_true rfl) csOK_0 h (fun r50 hr51 h => ?_)
          show Z κ (0, 0) _ 82 _ [vi r50] ad σ1
          refine z_if_eq C 96 (inr_b hr51) dX12_judge_82 (by decide) (fun q52 => ?_) (fun q52 => ?_)
          · have h := (wpO_ite.mp h).1 q52
            refine z_sub [1, 2, 3, 4, 5, 6, 7, 0] rfl ?_
            exact J96 x6 x7 x8 x9 x10 ((l2i (jand (jshr x3 (4 * x10)) 15)) - 1) hx6 hx7 hx8 hx9 hx10 hk49 h
          · have h := (wpO_ite.mp h).2 q52
            refine z_iload C 4 dX12_judge_85 rfl ?_
            refine z_iload C 0 dX12_judge_87 rfl ?_
            refine z_ishr C dX12_judge_89 ?_
            refine z_iconst C dX12_judge_90 ?_
            refine z_iand C dX12_judge_91 ?_
            refine z_iconst C dX12_judge_92 ?_
            refine z_icmp_ne C 100 (inr_iand _ _) (by decide) dX12_judge_93 (by decide) (fun q53 => ?_) (fun q53 => ?_)
            · have h := (wpO_ite.mp h).2 q53
              refine z_aload_n C 1 dX12_judge_100 rfl ?_
              refine z_iload C 0 dX12_judge_101 rfl ?_
              refine z_cVp (st := []) T C (ct_X12_isReady ((l2i (jand (jshr x3 (4 * x10)) 15)) - 1) hk49) lm_X12_329 lv_vX12_isReady dX12_judge_103 [vi ((l2i (jand (jshr x3 (4 * x10)) 15)) - 1)] rfl rfl rfl rfl rfl (sg_12 T) trivial (by decide) (Nat.le_of_ble_eq_true rfl) csOK_0 h (fun r54 hr55 h => ?_)
              show Z κ (0, 0) _ 106 _ [vi r54] ad σ1
              refine z_if_ne C 113 (inr_b hr55) dX12_judge_106 (by decide) (fun q56 => ?_) (fun q56 => ?_)
              · have h := (wpO_ite.mp h).2 q56
                refine z_aload_n C 1 dX12_judge_113 rfl ?_
                refine z_gA T C li_X12_162 (sg_12 T) dX12_judge_114 ?_
                refine z_iload C 0 dX12_judge_117 rfl ?_
                obtain ⟨hb57, h⟩ := wpO_ck.mp h
                refine z_bav (v := gI σ1 1359 0 (((l2i (jand (jshr x3 (4 * x10)) 15)) - 1).toNat)) C ar_1359 (sg_1359 T) hk49 hb57 rfl dX12_judge_119 ?_
                refine z_if_ne C 127 (hI43 1359 0 _) dX12_judge_120 (by decide) (fun q58 => ?_) (fun q58 => ?_)
                · have h := (wpO_ite.mp h).2 q58
                  refine z_bipush C dX12_judge_127 (by decide) ?_
                  refine z_sub [1, 2, 3, 4, 5, 6, 7, 0] rfl ?_
                  exact J129 x6 x7 x8 x9 x10 ((l2i (jand (jshr x3 (4 * x10)) 15)) - 1) 9 hx6 hx7 hx8 hx9 hx10 hk49 (by decide) h
                · have h := (wpO_ite.mp h).1 q58
                  refine z_iconst C dX12_judge_123 ?_
                  refine z_goto C 129 dX12_judge_124 (by decide) ?_
                  refine z_sub [1, 2, 3, 4, 5, 6, 7, 0] rfl ?_
                  exact J129 x6 x7 x8 x9 x10 ((l2i (jand (jshr x3 (4 * x10)) 15)) - 1) 3 hx6 hx7 hx8 hx9 hx10 hk49 (by decide) h
              · have h := (wpO_ite.mp h).1 q56
                refine z_iconst C dX12_judge_109 ?_
                refine z_goto C 129 dX12_judge_110 (by decide) ?_
                refine z_sub [1, 2, 3, 4, 5, 6, 7, 0] rfl ?_
                exact J129 x6 x7 x8 x9 x10 ((l2i (jand (jshr x3 (4 * x10)) 15)) - 1) 2 hx6 hx7 hx8 hx9 hx10 hk49 (by decide) h
            · have h := (wpO_ite.mp h).1 q53
              refine z_sub [1, 2, 3, 4, 5, 6, 7, 0] rfl ?_
              exact J96 x6 x7 x8 x9 x10 ((l2i (jand (jshr x3 (4 * x10)) 15)) - 1) hx6 hx7 hx8 hx9 hx10 hk49 h
    exact wh_ind (P := fun s : (Int × Int × Int × Int × Int) => inr s.1 → inr s.2.1 → inr s.2.2.1 → inr s.2.2.2.1 → inr s.2.2.2.2 → Z κ (0, 0) (Qm κ ad σ enI okI X) 39 [(0, vo ad 12 (some 0)), (3, vj x3), (6, vi s.1), (7, vi s.2.1), (8, vi s.2.2.1), (9, vi s.2.2.2.1), (10, vi s.2.2.2.2)] [] ad σ1) (fun s hs g0 g1 g2 g3 g4 => step _ _ (fun _ _ _ _ _ hp => hp) (fun x6 x7 x8 hq hx6 hx7 hx8 => J224 x6 x7 x8 σ1 hx6 hx7 hx8 eN1 hq) s.1 s.2.1 s.2.2.1 s.2.2.2.1 s.2.2.2.2 g0 g1 g2 g3 g4 hs) ((x6, x7, x8, x9, x10)) (wpO_bnk.mp h) hx6 hx7 hx8 hx9 hx10
  show Z κ (0, 0) (Qm κ ad σ enI okI X) 0 [(0, vo ad 12 (some 0)), (1, vi x1), (2, vi x2), (3, vj x3)] [] ad σ
  refine z_rng (fun hI59 hJ60 => ?_)
  refine z_aload_n C 0 dX12_judge_0 rfl ?_
  refine z_iload_n C 1 dX12_judge_1 rfl ?_
  refine z_iload_n C 2 dX12_judge_2 rfl ?_
  refine z_cVp (st := []) T C (ct_X12_mayReel x1 x2 hx1 hx2) lm_X12_428 lv_vX12_mayReel dX12_judge_3 [vi x1, vi x2] rfl rfl rfl rfl rfl (sg_12 T) trivial (by decide) (Nat.le_of_ble_eq_true rfl) csOK_0 h (fun r61 hr62 h => ?_)
  show Z κ (0, 0) _ 6 _ [vi r61] ad σ
  refine z_istore (lv2 := [(5, vi r61), (0, vo ad 12 (some 0)), (1, vi x1), (2, vi x2), (3, vj x3)]) C dX12_judge_6 (by decide) rfl ?_
  refine z_iload C 0 dX12_judge_8 rfl ?_
  refine z_if_ge C 16 hr62 dX12_judge_10 (by decide) (fun q63 => ?_) (fun q63 => ?_)
  · have h := (wpO_ite.mp h).1 q63
    refine z_aload_n C 1 dX12_judge_16 rfl ?_
    refine z_iload_n C 2 dX12_judge_17 rfl ?_
    refine z_iload_n C 3 dX12_judge_18 rfl ?_
    refine z_cV (st := []) T C (ct_X12_layMay x1 x2 hx1 hx2) lm_X12_410 lv_vX12_layMay dX12_judge_19 [vi x1, vi x2] rfl rfl rfl rfl rfl (sg_12 T) trivial (by decide) (Nat.le_of_ble_eq_true rfl) csOK_0 h (fun r64 σ66 hr65 eN67 h => ?_)
    show Z κ (0, 0) _ 22 _ [] ad σ66
    refine z_rng (fun hI68 hJ69 => ?_)
    refine z_bipush C dX12_judge_22 (by decide) ?_
    refine z_istore (lv2 := [(6, vi 9), (5, vi r61), (0, vo ad 12 (some 0)), (1, vi x1), (2, vi x2), (3, vj x3)]) C dX12_judge_24 (by decide) rfl ?_
    refine z_iconst C dX12_judge_26 ?_
    refine z_istore (lv2 := [(7, vi 0), (6, vi 9), (5, vi r61), (0, vo ad 12 (some 0)), (1, vi x1), (2, vi x2), (3, vj x3)]) C dX12_judge_27 (by decide) rfl ?_
    refine z_iconst C dX12_judge_29 ?_
    refine z_istore (lv2 := [(8, vi 0), (7, vi 0), (6, vi 9), (5, vi r61), (0, vo ad 12 (some 0)), (1, vi x1), (2, vi x2), (3, vj x3)]) C dX12_judge_30 (by decide) rfl ?_
    refine z_bipush C dX12_judge_32 (by decide) ?_
    refine z_istore (lv2 := [(9, vi ((-9))), (8, vi 0), (7, vi 0), (6, vi 9), (5, vi r61), (0, vo ad 12 (some 0)), (1, vi x1), (2, vi x2), (3, vj x3)]) C dX12_judge_34 (by decide) rfl ?_
    refine z_iconst C dX12_judge_36 ?_
    refine z_istore (lv2 := [(10, vi 0), (9, vi ((-9))), (8, vi 0), (7, vi 0), (6, vi 9), (5, vi r61), (0, vo ad 12 (some 0)), (1, vi x1), (2, vi x2), (3, vj x3)]) C dX12_judge_37 (by decide) rfl ?_
    refine z_sub [6, 9, 4, 3, 2, 1, 0] rfl ?_
    exact J39 x3 9 0 0 ((-9)) 0 σ66 hx3 (by decide) (by decide) (by decide) (by decide) (by decide) eN67 h
  · have h := (wpO_ite.mp h).2 q63
    refine z_iload C 0 dX12_judge_13 rfl ?_
    have h := wpO_some.mp h
    exact z_ireturn T C dX12_judge_15 hr62 rfl h
noncomputable def fX12_keep_j70 (σ1 : St) : Option (Unit × St) :=
  some ((), σ1)
noncomputable def fX12_keep_l44 (x1 : Int) (x5 : Int) (σ1 : St) : Option ((Int × St) ⊕ St) :=
  if x1 ≤ x5 then (some (.inr σ1)) else (ck (0 ≤ x5 ∧ x5 < 9) (ck (0 ≤ x5 ∧ x5 < 8) (ck (inr (x5 + 1)) (some (.inl ((x5 + 1, sI σ1 1364 0 x5.toNat (gI σ1 1363 0 x5.toNat))))))))
noncomputable def fX12_keep_j44 (x1 : Int) (x5 : Int) (σ1 : St) : Option (Unit × St) :=
  bnk (wh (fun s => fX12_keep_l44 x1 s.1 s.2) ((x5, σ1))) (fun e => fX12_keep_j70 e)
noncomputable def fX12_keep (x1 : Int) (x2 : Int) (x3 : Int) (x4 : Int) (σ : St) : Option (Unit × St) :=
  if x3 < gI σ 1355 0 0 then (fX12_keep_j70 σ) else (if iand x2 (gI σ 1362 0 0) = gI σ 1362 0 0 then (if x4 ≤ gI σ 1366 0 0 then (fX12_keep_j70 σ) else (fX12_keep_j44 x1 0 (sI (sI σ 1366 0 0 x4) 1365 0 0 x1))) else (fX12_keep_j70 σ))
set_option maxRecDepth 20000 in
set_option maxHeartbeats 4000000 in
theorem ct_X12_keep (x1 : Int) (x2 : Int) (x3 : Int) (x4 : Int) (hx1 : inr x1) (hx2 : inr x2) (hx3 : inr x3) (hx4 : inr x4) : Ct yX12_keep cX12_keep 6 none 0 (fun ad => [vo ad 12 (some 0), vi x1, vi x2, vi x3, vi x4]) (fX12_keep x1 x2 x3 x4) enV okV (fun _ => True) := by
  refine Ct.of (by decide) (fun ad => Nat.le_of_ble_eq_true rfl) ?_
  intro κ ad σ X C T hpre h
  have C : Cx κ RX12 cX12_keep 6 none 0 := C
  unfold fX12_keep at h
  have J70 : ∀ (σ1 : St), σ1.2.2.2 = σ.2.2.2 → wpO (fX12_keep_j70 σ1) (fun q => X q.1 q.2) → Z κ (0, 0) (Qm κ ad σ enV okV X) 70 [] [] ad σ1 := by
    intro σ1 eN1 h
    unfold fX12_keep_j70 at h
    refine z_rng (fun hI1 hJ2 => ?_)
    have h := wpO_some.mp h
    exact z_return T C dX12_keep_70 eN1 h
  have J44 : ∀ (x1 : Int) (x5 : Int) (σ1 : St), inr x1 → inr x5 → σ1.2.2.2 = σ.2.2.2 → wpO (fX12_keep_j44 x1 x5 σ1) (fun q => X q.1 q.2) → Z κ (0, 0) (Qm κ ad σ enV okV X) 44 [(0, vo ad 12 (some 0)), (1, vi x1), (5, vi x5)] [] ad σ1 := by
    intro x1 x5 σ1 hx1 hx5 eN1 h
    unfold fX12_keep_j44 at h
    have step : ∀ (P44 : (Int × St) → Prop) (Q44 : St → Prop), (∀ (x5 : Int) (σ1 : St), P44 ((x5, σ1)) → inr x5 → σ1.2.2.2 = σ.2.2.2 → Z κ (0, 0) (Qm κ ad σ enV okV X) 44 [(0, vo ad 12 (some 0)), (1, vi x1), (5, vi x5)] [] ad σ1) → (∀ (σ1 : St), Q44 (σ1) → σ1.2.2.2 = σ.2.2.2 → Z κ (0, 0) (Qm κ ad σ enV okV X) 70 [] [] ad σ1) → ∀ (x5 : Int) (σ1 : St), inr x5 → σ1.2.2.2 = σ.2.2.2 → wpO (fX12_keep_l44 x1 x5 σ1) (onS P44 Q44) → Z κ (0, 0) (Qm κ ad σ enV okV X) 44 [(0, vo ad 12 (some 0)), (1, vi x1), (5, vi x5)] [] ad σ1 := by
      intro P44 Q44 hP44 hE44_70 x5 σ1 hx5 eN1 h
      unfold fX12_keep_l44 at h
      refine z_rng (fun hI3 hJ4 => ?_)
      refine z_iload C 2 dX12_keep_44 rfl ?_
      refine z_iload_n C 1 dX12_keep_46 rfl ?_
      refine z_icmp_ge C 70 hx5 hx1 dX12_keep_47 (by decide) (fun q5 => ?_) (fun q5 => ?_)
      · have h := (wpO_ite.mp h).1 q5
        refine z_sub [] rfl ?_
        have h := wpO_some.mp h
        exact hE44_70 σ1 h eN1
      · have h := (wpO_ite.mp h).2 q5
        refine z_aload_n C 0 dX12_keep_50 rfl ?_
        refine z_gA T C li_X12_174 (sg_12 T) dX12_keep_51 ?_
        refine z_iload C 2 dX12_keep_54 rfl ?_
        refine z_aload_n C 0 dX12_keep_56 rfl ?_
        refine z_gA T C li_X12_171 (sg_12 T) dX12_keep_57 ?_
        refine z_iload C 2 dX12_keep_60 rfl ?_
        obtain ⟨hb6, h⟩ := wpO_ck.mp h
        refine z_iav (v := gI σ1 1363 0 x5.toNat) C ar_1363 (sg_1363 T) hx5 hb6 rfl dX12_keep_62 ?_
        obtain ⟨hb7, h⟩ := wpO_ck.mp h
        refine z_iastore C ar_1364 (sg_1364 T) hx5 hb7 (hI3 1363 0 _) dX12_keep_63 ?_
        obtain ⟨hk8, h⟩ := wpO_ck.mp h
        refine z_iinc (lv2 := [(5, vi (x5 + 1)), (0, vo ad 12 (some 0)), (1, vi x1)]) C 2 dX12_keep_64 rfl (by decide) rfl ?_
        refine z_goto C 44 dX12_keep_67 (by decide) ?_
        refine z_sub [1, 2, 0] rfl ?_
        have h := wpO_some.mp h
        exact hP44 (x5 + 1) (sI σ1 1364 0 x5.toNat (gI σ1 1363 0 x5.toNat)) h hk8 eN1
    exact wh_ind (P := fun s : (Int × St) => inr s.1 → s.2.2.2.2 = σ.2.2.2 → Z κ (0, 0) (Qm κ ad σ enV okV X) 44 [(0, vo ad 12 (some 0)), (1, vi x1), (5, vi s.1)] [] ad s.2) (fun s hs g0 g1 => step _ _ (fun _ _ hp => hp) (fun σ1 hq eN1 => J70 σ1 eN1 hq) s.1 s.2 g0 g1 hs) ((x5, σ1)) (wpO_bnk.mp h) hx5 eN1
  show Z κ (0, 0) (Qm κ ad σ enV okV X) 0 [(0, vo ad 12 (some 0)), (1, vi x1), (2, vi x2), (3, vi x3), (4, vi x4)] [] ad σ
  refine z_rng (fun hI9 hJ10 => ?_)
  refine z_iload_n C 3 dX12_keep_0 rfl ?_
  refine z_aload_n C 0 dX12_keep_1 rfl ?_
  refine z_gIv (v := gI σ 1355 0 0) C li_X12_150 (sg_12 T) rfl dX12_keep_2 ?_
  refine z_icmp_lt C 70 hx3 (hI9 1355 0 _) dX12_keep_5 (by decide) (fun q11 => ?_) (fun q11 => ?_)
  · have h := (wpO_ite.mp h).1 q11
    refine z_sub [] rfl ?_
    exact J70 σ rfl h
  · have h := (wpO_ite.mp h).2 q11
    refine z_iload_n C 2 dX12_keep_8 rfl ?_
    refine z_aload_n C 0 dX12_keep_9 rfl ?_
    refine z_gIv (v := gI σ 1362 0 0) C li_X12_407 (sg_12 T) rfl dX12_keep_10 ?_
    refine z_iand C dX12_keep_13 ?_
    refine z_aload_n C 0 dX12_keep_14 rfl ?_
    refine z_gIv (v := gI σ 1362 0 0) C li_X12_407 (sg_12 T) rfl dX12_keep_15 ?_
    refine z_icmp_ne C 70 (inr_iand _ _) (hI9 1362 0 _) dX12_keep_18 (by decide) (fun q12 => ?_) (fun q12 => ?_)
    · have h := (wpO_ite.mp h).2 q12
      refine z_sub [] rfl ?_
      exact J70 σ rfl h
    · have h := (wpO_ite.mp h).1 q12
      refine z_iload C 4 dX12_keep_21 rfl ?_
      refine z_aload_n C 0 dX12_keep_23 rfl ?_
      refine z_gIv (v := gI σ 1366 0 0) C li_X12_414 (sg_12 T) rfl dX12_keep_24 ?_
      refine z_icmp_le C 70 hx4 (hI9 1366 0 _) dX12_keep_27 (by decide) (fun q13 => ?_) (fun q13 => ?_)
      · have h := (wpO_ite.mp h).1 q13
        refine z_sub [] rfl ?_
        exact J70 σ rfl h
      · have h := (wpO_ite.mp h).2 q13
        refine z_aload_n C 0 dX12_keep_30 rfl ?_
        refine z_iload C 4 dX12_keep_31 rfl ?_
        refine z_pI C lq_X12_414 (sg_12 T) hx4 dX12_keep_33 ?_
        refine z_aload_n C 0 dX12_keep_36 rfl ?_
        refine z_iload_n C 1 dX12_keep_37 rfl ?_
        refine z_pI C lq_X12_417 (sg_12 T) hx1 dX12_keep_38 ?_
        refine z_iconst C dX12_keep_41 ?_
        refine z_istore (lv2 := [(5, vi 0), (0, vo ad 12 (some 0)), (1, vi x1), (2, vi x2), (3, vi x3), (4, vi x4)]) C dX12_keep_42 (by decide) rfl ?_
        refine z_sub [1, 2, 0] rfl ?_
        exact J44 x1 0 (sI (sI σ 1366 0 0 x4) 1365 0 0 x1) hx1 (by decide) rfl h
noncomputable def fX12_mayFollow_j31 (x2 : Int) (x3 : Int) (x4 : Int) (s0 : Int) (σ : St) : Option Int :=
  ck (0 ≤ x4 ∧ x4 < 8) (if gI σ 1359 0 x4.toNat = 0 then (some 0) else (if iand (ishr x2 x4) 1 = 0 then (if s0 = 0 then (ck (0 ≤ x4 ∧ x4 < 8) (ck (inr (x3 + (gI σ 1360 0 x4.toNat))) (if gI σ 1356 0 0 < x3 + (gI σ 1360 0 x4.toNat) then (some 0) else (some 1)))) else (some 0)) else (some 0)))
noncomputable def fX12_mayFollow_j30 (x2 : Int) (x3 : Int) (x4 : Int) (σ : St) : Option Int :=
  fX12_mayFollow_j31 x2 x3 x4 0 σ
noncomputable def fX12_mayFollow (x1 : Int) (x2 : Int) (x3 : Int) (x4 : Int) (σ : St) : Option Int :=
  if x1 ≤ 0 then (fX12_mayFollow_j30 x2 x3 x4 σ) else (ck (inr (x1 - 1)) (ck (0 ≤ x1 - 1 ∧ x1 - 1 < 9) (ck (inr (8 * (gI σ 1363 0 ((x1 - 1).toNat)))) (ck (inr ((8 * (gI σ 1363 0 ((x1 - 1).toNat))) + x4)) (ck (0 ≤ (8 * (gI σ 1363 0 ((x1 - 1).toNat))) + x4 ∧ (8 * (gI σ 1363 0 ((x1 - 1).toNat))) + x4 < 64) (if gI σ 1357 0 (((8 * (gI σ 1363 0 ((x1 - 1).toNat))) + x4).toNat) = 0 then (fX12_mayFollow_j30 x2 x3 x4 σ) else (fX12_mayFollow_j31 x2 x3 x4 1 σ)))))))
set_option maxRecDepth 20000 in
set_option maxHeartbeats 4000000 in
theorem ct_X12_mayFollow (x1 : Int) (x2 : Int) (x3 : Int) (x4 : Int) (hx1 : inr x1) (hx2 : inr x2) (hx3 : inr x3) (hx4 : inr x4) : Ct yX12_mayFollow cX12_mayFollow 6 (some .boolean) 0 (fun ad => [vo ad 12 (some 0), vi x1, vi x2, vi x3, vi x4]) (pu (fX12_mayFollow x1 x2 x3 x4)) enI okB (fun _ => True) := by
  refine Ct.of (by decide) (fun ad => Nat.le_of_ble_eq_true rfl) ?_
  intro κ ad σ X C T hpre h
  have C : Cx κ RX12 cX12_mayFollow 6 (some .boolean) 0 := C
  have h := wpO_pu.mp h
  unfold fX12_mayFollow at h
  have J31 : ∀ (x2 : Int) (x3 : Int) (x4 : Int) (s0 : Int), inr x2 → inr x3 → inr x4 → inr s0 → wpO (fX12_mayFollow_j31 x2 x3 x4 s0 σ) (fun r => X r σ) → Z κ (0, 0) (Qm κ ad σ enI okB X) 31 [(0, vo ad 12 (some 0)), (2, vi x2), (3, vi x3), (4, vi x4)] [vi s0] ad σ := by
    intro x2 x3 x4 s0 hx2 hx3 hx4 hs0 h
    unfold fX12_mayFollow_j31 at h
    refine z_rng (fun hI1 hJ2 => ?_)
    refine z_istore (lv2 := [(5, vi s0), (0, vo ad 12 (some 0)), (2, vi x2), (3, vi x3), (4, vi x4)]) C dX12_mayFollow_31 (by decide) rfl ?_
    refine z_aload_n C 1 dX12_mayFollow_33 rfl ?_
    refine z_gA T C li_X12_162 (sg_12 T) dX12_mayFollow_34 ?_
    refine z_iload C 4 dX12_mayFollow_37 rfl ?_
    obtain ⟨hb3, h⟩ := wpO_ck.mp h
    refine z_bav (v := gI σ 1359 0 x4.toNat) C ar_1359 (sg_1359 T) hx4 hb3 rfl dX12_mayFollow_39 ?_
    refine z_if_eq C 77 (hI1 1359 0 _) dX12_mayFollow_40 (by decide) (fun q4 => ?_) (fun q4 => ?_)
    · have h := (wpO_ite.mp h).1 q4
      refine z_iconst C dX12_mayFollow_77 ?_
      have h := wpO_some.mp h
      exact z_breturn T C dX12_mayFollow_78 (by decide) rfl h
    · have h := (wpO_ite.mp h).2 q4
      refine z_iload_n C 2 dX12_mayFollow_43 rfl ?_
      refine z_iload C 4 dX12_mayFollow_44 rfl ?_
      refine z_ishr C dX12_mayFollow_46 ?_
      refine z_iconst C dX12_mayFollow_47 ?_
      refine z_iand C dX12_mayFollow_48 ?_
      refine z_if_ne C 77 (inr_iand _ _) dX12_mayFollow_49 (by decide) (fun q5 => ?_) (fun q5 => ?_)
      · have h := (wpO_ite.mp h).2 q5
        refine z_iconst C dX12_mayFollow_77 ?_
        have h := wpO_some.mp h
        exact z_breturn T C dX12_mayFollow_78 (by decide) rfl h
      · have h := (wpO_ite.mp h).1 q5
        refine z_iload C 0 dX12_mayFollow_52 rfl ?_
        refine z_if_ne C 77 hs0 dX12_mayFollow_54 (by decide) (fun q6 => ?_) (fun q6 => ?_)
        · have h := (wpO_ite.mp h).2 q6
          refine z_iconst C dX12_mayFollow_77 ?_
          have h := wpO_some.mp h
          exact z_breturn T C dX12_mayFollow_78 (by decide) rfl h
        · have h := (wpO_ite.mp h).1 q6
          refine z_iload_n C 3 dX12_mayFollow_57 rfl ?_
          refine z_aload_n C 1 dX12_mayFollow_58 rfl ?_
          refine z_gA T C li_X12_165 (sg_12 T) dX12_mayFollow_59 ?_
          refine z_iload C 4 dX12_mayFollow_62 rfl ?_
          obtain ⟨hb7, h⟩ := wpO_ck.mp h
          refine z_iav (v := gI σ 1360 0 x4.toNat) C ar_1360 (sg_1360 T) hx4 hb7 rfl dX12_mayFollow_64 ?_
          obtain ⟨hk8, h⟩ := wpO_ck.mp h
          refine z_iadd C dX12_mayFollow_65 ?_
          refine z_aload_n C 1 dX12_mayFollow_66 rfl ?_
          refine z_gIv (v := gI σ 1356 0 0) C li_X12_153 (sg_12 T) rfl dX12_mayFollow_67 ?_
          refine z_icmp_gt C 77 hk8 (hI1 1356 0 _) dX12_mayFollow_70 (by decide) (fun q9 => ?_) (fun q9 => ?_)
          · have h := (wpO_ite.mp h).1 q9
            refine z_iconst C dX12_mayFollow_77 ?_
            have h := wpO_some.mp h
            exact z_breturn T C dX12_mayFollow_78 (by decide) rfl h
          · have h := (wpO_ite.mp h).2 q9
            refine z_iconst C dX12_mayFollow_73 ?_
            refine z_goto C 78 dX12_mayFollow_74 (by decide) ?_
            have h := wpO_some.mp h
            exact z_breturn T C dX12_mayFollow_78 (by decide) rfl h
  have J30 : ∀ (x2 : Int) (x3 : Int) (x4 : Int), inr x2 → inr x3 → inr x4 → wpO (fX12_mayFollow_j30 x2 x3 x4 σ) (fun r => X r σ) → Z κ (0, 0) (Qm κ ad σ enI okB X) 30 [(0, vo ad 12 (some 0)), (2, vi x2), (3, vi x3), (4, vi x4)] [] ad σ := by
    intro x2 x3 x4 hx2 hx3 hx4 h
    unfold fX12_mayFollow_j30 at h
    refine z_rng (fun hI10 hJ11 => ?_)
    refine z_iconst C dX12_mayFollow_30 ?_
    exact J31 x2 x3 x4 0 hx2 hx3 hx4 (by decide) h
  show Z κ (0, 0) (Qm κ ad σ enI okB X) 0 [(0, vo ad 12 (some 0)), (1, vi x1), (2, vi x2), (3, vi x3), (4, vi x4)] [] ad σ
  refine z_rng (fun hI12 hJ13 => ?_)
  refine z_iload_n C 1 dX12_mayFollow_0 rfl ?_
  refine z_if_le C 30 hx1 dX12_mayFollow_1 (by decide) (fun q14 => ?_) (fun q14 => ?_)
  · have h := (wpO_ite.mp h).1 q14
    refine z_sub [0, 2, 3, 4] rfl ?_
    exact J30 x2 x3 x4 hx2 hx3 hx4 h
  · have h := (wpO_ite.mp h).2 q14
    refine z_aload_n C 0 dX12_mayFollow_4 rfl ?_
    refine z_gA T C li_X12_156 (sg_12 T) dX12_mayFollow_5 ?_
    refine z_bipush C dX12_mayFollow_8 (by decide) ?_
    refine z_aload_n C 0 dX12_mayFollow_10 rfl ?_
    refine z_gA T C li_X12_171 (sg_12 T) dX12_mayFollow_11 ?_
    refine z_iload_n C 1 dX12_mayFollow_14 rfl ?_
    refine z_iconst C dX12_mayFollow_15 ?_
    obtain ⟨hk15, h⟩ := wpO_ck.mp h
    refine z_isub C dX12_mayFollow_16 ?_
    obtain ⟨hb16, h⟩ := wpO_ck.mp h
    refine z_iav (v := gI σ 1363 0 ((x1 - 1).toNat)) C ar_1363 (sg_1363 T) hk15 hb16 rfl dX12_mayFollow_17 ?_
    obtain ⟨hk17, h⟩ := wpO_ck.mp h
    refine z_imul C dX12_mayFollow_18 ?_
    refine z_iload C 4 dX12_mayFollow_19 rfl ?_
    obtain ⟨hk18, h⟩ := wpO_ck.mp h
    refine z_iadd C dX12_mayFollow_21 ?_
    obtain ⟨hb19, h⟩ := wpO_ck.mp h
    refine z_bav (v := gI σ 1357 0 (((8 * (gI σ 1363 0 ((x1 - 1).toNat))) + x4).toNat)) C ar_1357 (sg_1357 T) hk18 hb19 rfl dX12_mayFollow_22 ?_
    refine z_if_eq C 30 (hI12 1357 0 _) dX12_mayFollow_23 (by decide) (fun q20 => ?_) (fun q20 => ?_)
    · have h := (wpO_ite.mp h).1 q20
      refine z_sub [0, 2, 3, 4] rfl ?_
      exact J30 x2 x3 x4 hx2 hx3 hx4 h
    · have h := (wpO_ite.mp h).2 q20
      refine z_iconst C dX12_mayFollow_26 ?_
      refine z_goto C 31 dX12_mayFollow_27 (by decide) ?_
      refine z_sub [0, 2, 3, 4] rfl ?_
      exact J31 x2 x3 x4 1 hx2 hx3 hx4 (by decide) h
noncomputable def fX12_layReel_j203 (σ1 : St) : Option (Unit × St) :=
  some ((), σ1)
noncomputable def fX12_layReel_j68 (x3 : Int) (x4 : Int) (x5 : Int) (x6 : Int) (x7 : Int) (x8 : Int) (σ1 : St) : Option ((Int × Int × Int × Int × Int × Int × St) ⊕ St) :=
  if gI σ1 1326 0 0 ≤ x7 then (if x3 ≤ 0 then (some (.inl ((x3, x4, x5, x6, x7, 0, σ1)))) else (ck (inr (x3 + (-1))) (ck (0 ≤ x3 + (-1) ∧ x3 + (-1) < 9) (ck (0 ≤ gI σ1 1363 0 ((x3 + (-1)).toNat) ∧ gI σ1 1363 0 ((x3 + (-1)).toNat) < 8) (ck (inr (x5 - (gI σ1 1360 0 ((gI σ1 1363 0 ((x3 + (-1)).toNat)).toNat)))) (ck (0 ≤ gI σ1 1363 0 ((x3 + (-1)).toNat) ∧ gI σ1 1363 0 ((x3 + (-1)).toNat) < 8) (ck (inr (x6 - (gI σ1 1361 0 ((gI σ1 1363 0 ((x3 + (-1)).toNat)).toNat)))) (ck (inr ((gI σ1 1363 0 ((x3 + (-1)).toNat)) + 1)) (some (.inl ((x3 + (-1), iand x4 (ixor (ishl 1 (gI σ1 1363 0 ((x3 + (-1)).toNat))) ((-1))), x5 - (gI σ1 1360 0 ((gI σ1 1363 0 ((x3 + (-1)).toNat)).toNat)), x6 - (gI σ1 1361 0 ((gI σ1 1363 0 ((x3 + (-1)).toNat)).toNat)), (gI σ1 1363 0 ((x3 + (-1)).toNat)) + 1, x8, σ1)))))))))))) else (ck (0 ≤ x3 ∧ x3 < 9) (ck (inr (x3 + 1)) (ck (0 ≤ x7 ∧ x7 < 8) (ck (inr (x5 + (gI σ1 1360 0 x7.toNat))) (ck (0 ≤ x7 ∧ x7 < 8) (ck (inr (x6 + (gI σ1 1361 0 x7.toNat))) (bnd (fX12_keep (x3 + 1) (ior x4 (ishl 1 x7)) (x5 + (gI σ1 1360 0 x7.toNat)) (x6 + (gI σ1 1361 0 x7.toNat)) (sI σ1 1363 0 x3.toNat x7)) (fun _ σ22 => some (.inl ((x3 + 1, ior x4 (ishl 1 x7), x5 + (gI σ1 1360 0 x7.toNat), x6 + (gI σ1 1361 0 x7.toNat), 0, x8, σ22)))))))))))
noncomputable def fX12_layReel_l39 (x3 : Int) (x4 : Int) (x5 : Int) (x6 : Int) (x8 : Int) (σ1 : St) (x7 : Int) : Option (Int ⊕ Int) :=
  if gI σ1 1326 0 0 ≤ x7 then (some (.inr x7)) else (bnk (fX12_mayFollow x3 x4 x5 x7 σ1) (fun r30 => if r30 = 0 then (ck (inr (x7 + 1)) (some (.inl (x7 + 1)))) else (some (.inr x7))))
noncomputable def fX12_layReel_j39 (x3 : Int) (x4 : Int) (x5 : Int) (x6 : Int) (x7 : Int) (x8 : Int) (σ1 : St) : Option ((Int × Int × Int × Int × Int × Int × St) ⊕ St) :=
  bnk (wh (fun s => fX12_layReel_l39 x3 x4 x5 x6 x8 σ1 s) x7) (fun e => fX12_layReel_j68 x3 x4 x5 x6 e x8 σ1)
noncomputable def fX12_layReel_l34 (x3 : Int) (x4 : Int) (x5 : Int) (x6 : Int) (x7 : Int) (x8 : Int) (σ1 : St) : Option ((Int × Int × Int × Int × Int × Int × St) ⊕ St) :=
  if x8 = 0 then (some (.inr σ1)) else (fX12_layReel_j39 x3 x4 x5 x6 x7 x8 σ1)
noncomputable def fX12_layReel_j34 (x3 : Int) (x4 : Int) (x5 : Int) (x6 : Int) (x7 : Int) (x8 : Int) (σ1 : St) : Option (Unit × St) :=
  bnk (wh (fun s => fX12_layReel_l34 s.1 s.2.1 s.2.2.1 s.2.2.2.1 s.2.2.2.2.1 s.2.2.2.2.2.1 s.2.2.2.2.2.2) ((x3, x4, x5, x6, x7, x8, σ1))) (fun e => fX12_layReel_j203 e)
noncomputable def fX12_layReel (x1 : Int) (x2 : Int) (σ : St) : Option (Unit × St) :=
  bnd (fX12_layMay x1 x2 σ) (fun _ σ41 => fX12_layReel_j34 0 0 0 0 0 1 (sI (sI σ41 1366 0 0 ((-9))) 1365 0 0 0))
set_option maxRecDepth 20000 in
set_option maxHeartbeats 4000000 in
theorem ct_X12_layReel (x1 : Int) (x2 : Int) (hx1 : inr x1) (hx2 : inr x2) : Ct yX12_layReel cX12_layReel 10 none 7 (fun ad => [vo ad 12 (some 0), vi x1, vi x2]) (fX12_layReel x1 x2) enV okV (fun _ => True) := by
  refine Ct.of (by decide) (fun ad => Nat.le_of_ble_eq_true rfl) ?_
  intro κ ad σ X C T hpre h
  have C : Cx κ RX12 cX12_layReel 10 none 7 := C
  unfold fX12_layReel at h
  have J203 : ∀ (σ1 : St), σ1.2.2.2 = σ.2.2.2 → wpO (fX12_layReel_j203 σ1) (fun q => X q.1 q.2) → Z κ (0, 0) (Qm κ ad σ enV okV X) 203 [] [] ad σ1 := by
    intro σ1 eN1 h
    unfold fX12_layReel_j203 at h
    refine z_rng (fun hI1 hJ2 => ?_)
    have h := wpO_some.mp h
    exact z_return T C dX12_layReel_203 eN1 h
  have J34 : ∀ (x3 : Int) (x4 : Int) (x5 : Int) (x6 : Int) (x7 : Int) (x8 : Int) (σ1 : St), inr x3 → inr x4 → inr x5 → inr x6 → inr x7 → inr x8 → σ1.2.2.2 = σ.2.2.2 → wpO (fX12_layReel_j34 x3 x4 x5 x6 x7 x8 σ1) (fun q => X q.1 q.2) → Z κ (0, 0) (Qm κ ad σ enV okV X) 34 [(0, vo ad 12 (some 0)), (3, vi x3), (4, vi x4), (5, vi x5), (6, vi x6), (7, vi x7), (8, vi x8)] [] ad σ1 := by
    intro x3 x4 x5 x6 x7 x8 σ1 hx3 hx4 hx5 hx6 hx7 hx8 eN1 h
    unfold fX12_layReel_j34 at h
    have step : ∀ (P34 : (Int × Int × Int × Int × Int × Int × St) → Prop) (Q34 : St → Prop), (∀ (x3 : Int) (x4 : Int) (x5 : Int) (x6 : Int) (x7 : Int) (x8 : Int) (σ1 : St), P34 ((x3, x4, x5, x6, x7, x8, σ1)) → inr x3 → inr x4 → inr x5 → inr x6 → inr x7 → inr x8 → σ1.2.2.2 = σ.2.2.2 → Z κ (0, 0) (Qm κ ad σ enV okV X) 34 [(0, vo ad 12 (some 0)), (3, vi x3), (4, vi x4), (5, vi x5), (6, vi x6), (7, vi x7), (8, vi x8)] [] ad σ1) → (∀ (σ1 : St), Q34 (σ1) → σ1.2.2.2 = σ.2.2.2 → Z κ (0, 0) (Qm κ ad σ enV okV X) 203 [] [] ad σ1) → ∀ (x3 : Int) (x4 : Int) (x5 : Int) (x6 : Int) (x7 : Int) (x8 : Int) (σ1 : St), inr x3 → inr x4 → inr x5 → inr x6 → inr x7 → inr x8 → σ1.2.2.2 = σ.2.2.2 → wpO (fX12_layReel_l34 x3 x4 x5 x6 x7 x8 σ1) (onS P34 Q34) → Z κ (0, 0) (Qm κ ad σ enV okV X) 34 [(0, vo ad 12 (some 0)), (3, vi x3), (4, vi x4), (5, vi x5), (6, vi x6), (7, vi x7), (8, vi x8)] [] ad σ1 := by
      intro P34 Q34 hP34 hE34_203 x3 x4 x5 x6 x7 x8 σ1 hx3 hx4 hx5 hx6 hx7 hx8 eN1 h
      unfold fX12_layReel_l34 at h
      have J68 : ∀ (x3 : Int) (x4 : Int) (x5 : Int) (x6 : Int) (x7 : Int) (x8 : Int) (σ1 : St), inr x3 → inr x4 → inr x5 → inr x6 → inr x7 → inr x8 → σ1.2.2.2 = σ.2.2.2 → wpO (fX12_layReel_j68 x3 x4 x5 x6 x7 x8 σ1) (onS P34 Q34) → Z κ (0, 0) (Qm κ ad σ enV okV X) 68 [(0, vo ad 12 (some 0)), (3, vi x3), (4, vi x4), (5, vi x5), (6, vi x6), (7, vi x7), (8, vi x8)] [] ad σ1 := by
        intro x3 x4 x5 x6 x7 x8 σ1 hx3 hx4 hx5 hx6 hx7 hx8 eN1 h
        unfold fX12_layReel_j68 at h
        refine z_rng (fun hI3 hJ4 => ?_)
        refine z_iload C 5 dX12_layReel_68 rfl ?_
        refine z_aload_n C 0 dX12_layReel_70 rfl ?_
        refine z_gIv (v := gI σ1 1326 0 0) C li_X12_311 (sg_12 T) rfl dX12_layReel_71 ?_
        refine z_icmp_ge C 138 hx7 (hI3 1326 0 _) dX12_layReel_74 (by decide) (fun q5 => ?_) (fun q5 => ?_)
        · have h := (wpO_ite.mp h).1 q5
          refine z_iload_n C 1 dX12_layReel_138 rfl ?_
          refine z_if_le C 197 hx3 dX12_layReel_139 (by decide) (fun q6 => ?_) (fun q6 => ?_)
          · have h := (wpO_ite.mp h).1 q6
            refine z_iconst C dX12_layReel_197 ?_
            refine z_istore (lv2 := [(8, vi 0), (0, vo ad 12 (some 0)), (3, vi x3), (4, vi x4), (5, vi x5), (6, vi x6), (7, vi x7)]) C dX12_layReel_198 (by decide) rfl ?_
            refine z_goto C 34 dX12_layReel_200 (by decide) ?_
            refine z_sub [1, 2, 3, 4, 5, 6, 0] rfl ?_
            have h := wpO_some.mp h
            exact hP34 x3 x4 x5 x6 x7 0 σ1 h hx3 hx4 hx5 hx6 hx7 (by decide) eN1
          · have h := (wpO_ite.mp h).2 q6
            obtain ⟨hk7, h⟩ := wpO_ck.mp h
            refine z_iinc (lv2 := [(3, vi (x3 + (-1))), (0, vo ad 12 (some 0)), (4, vi x4), (5, vi x5), (6, vi x6), (7, vi x7), (8, vi x8)]) C 1 dX12_layReel_142 rfl (by decide) rfl ?_
            refine z_aload_n C 1 dX12_layReel_145 rfl ?_
            refine z_gA T C li_X12_171 (sg_12 T) dX12_layReel_146 ?_
            refine z_iload_n C 0 dX12_layReel_149 rfl ?_
            obtain ⟨hb8, h⟩ := wpO_ck.mp h
            refine z_iav (v := gI σ1 1363 0 ((x3 + (-1)).toNat)) C ar_1363 (sg_1363 T) hk7 hb8 rfl dX12_layReel_150 ?_
            refine z_istore (lv2 := [(9, vi (gI σ1 1363 0 ((x3 + (-1)).toNat))), (3, vi (x3 + (-1))), (0, vo ad 12 (some 0)), (4, vi x4), (5, vi x5), (6, vi x6), (7, vi x7), (8, vi x8)]) C dX12_layReel_151 (by decide) rfl ?_
            refine z_iload C 3 dX12_layReel_153 rfl ?_
            refine z_iconst C dX12_layReel_155 ?_
            refine z_iload C 0 dX12_layReel_156 rfl ?_
            refine z_ishl C dX12_layReel_158 ?_
            refine z_iconst C dX12_layReel_159 ?_
            refine z_ixor C dX12_layReel_160 ?_
            refine z_iand C dX12_layReel_161 ?_
            refine z_istore (lv2 := [(4, vi (iand x4 (ixor (ishl 1 (gI σ1 1363 0 ((x3 + (-1)).toNat))) ((-1))))), (9, vi (gI σ1 1363 0 ((x3 + (-1)).toNat))), (3, vi (x3 + (-1))), (0, vo ad 12 (some 0)), (5, vi x5), (6, vi x6), (7, vi x7), (8, vi x8)]) C dX12_layReel_162 (by decide) rfl ?_
            refine z_iload C 4 dX12_layReel_164 rfl ?_
            refine z_aload_n C 3 dX12_layReel_166 rfl ?_
            refine z_gA T C li_X12_165 (sg_12 T) dX12_layReel_167 ?_
            refine z_iload C 1 dX12_layReel_170 rfl ?_
            obtain ⟨hb9, h⟩ := wpO_ck.mp h
            refine z_iav (v := gI σ1 1360 0 ((gI σ1 1363 0 ((x3 + (-1)).toNat)).toNat)) C ar_1360 (sg_1360 T) (hI3 1363 0 _) hb9 rfl dX12_layReel_172 ?_
            obtain ⟨hk10, h⟩ := wpO_ck.mp h
            refine z_isub C dX12_layReel_173 ?_
            refine z_istore (lv2 := [(5, vi (x5 - (gI σ1 1360 0 ((gI σ1 1363 0 ((x3 + (-1)).toNat)).toNat)))), (4, vi (iand x4 (ixor (ishl 1 (gI σ1 1363 0 ((x3 + (-1)).toNat))) ((-1))))), (9, vi (gI σ1 1363 0 ((x3 + (-1)).toNat))), (3, vi (x3 + (-1))), (0, vo ad 12 (some 0)), (6, vi x6), (7, vi x7), (8, vi x8)]) C dX12_layReel_174 (by decide) rfl ?_
            refine z_iload C 5 dX12_layReel_176 rfl ?_
            refine z_aload_n C 4 dX12_layReel_178 rfl ?_
            refine z_gA T C li_X12_168 (sg_12 T) dX12_layReel_179 ?_
            refine z_iload C 2 dX12_layReel_182 rfl ?_
            obtain ⟨hb11, h⟩ := wpO_ck.mp h
            refine z_iav (v := gI σ1 1361 0 ((gI σ1 1363 0 ((x3 + (-1)).toNat)).toNat)) C ar_1361 (sg_1361 T) (hI3 1363 0 _) hb11 rfl dX12_layReel_184 ?_
            obtain ⟨hk12, h⟩ := wpO_ck.mp h
            refine z_isub C dX12_layReel_185 ?_
            refine z_istore (lv2 := [(6, vi (x6 - (gI σ1 1361 0 ((gI σ1 1363 0 ((x3 + (-1)).toNat)).toNat)))), (5, vi (x5 - (gI σ1 1360 0 ((gI σ1 1363 0 ((x3 + (-1)).toNat)).toNat)))), (4, vi (iand x4 (ixor (ishl 1 (gI σ1 1363 0 ((x3 + (-1)).toNat))) ((-1))))), (9, vi (gI σ1 1363 0 ((x3 + (-1)).toNat))), (3, vi (x3 + (-1))), (0, vo ad 12 (some 0)), (7, vi x7), (8, vi x8)]) C dX12_layReel_186 (by decide) rfl ?_
            refine z_iload C 3 dX12_layReel_188 rfl ?_
            refine z_iconst C dX12_layReel_190 ?_
            obtain ⟨hk13, h⟩ := wpO_ck.mp h
            refine z_iadd C dX12_layReel_191 ?_
            refine z_istore (lv2 := [(7, vi ((gI σ1 1363 0 ((x3 + (-1)).toNat)) + 1)), (6, vi (x6 - (gI σ1 1361 0 ((gI σ1 1363 0 ((x3 + (-1)).toNat)).toNat)))), (5, vi (x5 - (gI σ1 1360 0 ((gI σ1 1363 0 ((x3 + (-1)).toNat)).toNat)))), (4, vi (iand x4 (ixor (ishl 1 (gI σ1 1363 0 ((x3 + (-1)).toNat))) ((-1))))), (9, vi (gI σ1 1363 0 ((x3 + (-1)).toNat))), (3, vi (x3 + (-1))), (0, vo ad 12 (some 0)), (8, vi x8)]) C dX12_layReel_192 (by decide) rfl ?_
            refine z_goto C 34 dX12_layReel_194 (by decide) ?_
            refine z_sub [6, 5, 3, 2, 1, 0, 7] rfl ?_
            have h := wpO_some.mp h
            exact hP34 (x3 + (-1)) (iand x4 (ixor (ishl 1 (gI σ1 1363 0 ((x3 + (-1)).toNat))) ((-1)))) (x5 - (gI σ1 1360 0 ((gI σ1 1363 0 ((x3 + (-1)).toNat)).toNat))) (x6 - (gI σ1 1361 0 ((gI σ1 1363 0 ((x3 + (-1)).toNat)).toNat))) ((gI σ1 1363 0 ((x3 + (-1)).toNat)) + 1) x8 σ1 h hk7 (inr_iand _ _) hk10 hk12 hk13 hx8 eN1
        · have h := (wpO_ite.mp h).2 q5
          refine z_aload_n C 0 dX12_layReel_77 rfl ?_
          refine z_gA T C li_X12_171 (sg_12 T) dX12_layReel_78 ?_
          refine z_iload_n C 1 dX12_layReel_81 rfl ?_
          refine z_iload C 5 dX12_layReel_82 rfl ?_
          obtain ⟨hb14, h⟩ := wpO_ck.mp h
          refine z_iastore C ar_1363 (sg_1363 T) hx3 hb14 hx7 dX12_layReel_84 ?_
          obtain ⟨hk15, h⟩ := wpO_ck.mp h
          refine z_iinc (lv2 := [(3, vi (x3 + 1)), (0, vo ad 12 (some 0)), (4, vi x4), (5, vi x5), (6, vi x6), (7, vi x7), (8, vi x8)]) C 1 dX12_layReel_85 rfl (by decide) rfl ?_
          refine z_iload C 2 dX12_layReel_88 rfl ?_
          refine z_iconst C dX12_layReel_90 ?_
          refine z_iload C 5 dX12_layReel_91 rfl ?_
          refine z_ishl C dX12_layReel_93 ?_
          refine z_ior C dX12_layReel_94 ?_
          refine z_istore (lv2 := [(4, vi (ior x4 (ishl 1 x7))), (3, vi (x3 + 1)), (0, vo ad 12 (some 0)), (5, vi x5), (6, vi x6), (7, vi x7), (8, vi x8)]) C dX12_layReel_95 (by decide) rfl ?_
          refine z_iload C 3 dX12_layReel_97 rfl ?_
          refine z_aload_n C 2 dX12_layReel_99 rfl ?_
          refine z_gA T C li_X12_165 (sg_12 T) dX12_layReel_100 ?_
          refine z_iload C 5 dX12_layReel_103 rfl ?_
          obtain ⟨hb16, h⟩ := wpO_ck.mp h
          refine z_iav (v := gI σ1 1360 0 x7.toNat) C ar_1360 (sg_1360 T) hx7 hb16 (gn (by decide) rfl) dX12_layReel_105 ?_
          obtain ⟨hk17, h⟩ := wpO_ck.mp h
          refine z_iadd C dX12_layReel_106 ?_
          refine z_istore (lv2 := [(5, vi (x5 + (gI σ1 1360 0 x7.toNat))), (4, vi (ior x4 (ishl 1 x7))), (3, vi (x3 + 1)), (0, vo ad 12 (some 0)), (6, vi x6), (7, vi x7), (8, vi x8)]) C dX12_layReel_107 (by decide) rfl ?_
          refine z_iload C 4 dX12_layReel_109 rfl ?_
          refine z_aload_n C 3 dX12_layReel_111 rfl ?_
          refine z_gA T C li_X12_168 (sg_12 T) dX12_layReel_112 ?_
          refine z_iload C 5 dX12_layReel_115 rfl ?_
          obtain ⟨hb18, h⟩ := wpO_ck.mp h
          refine z_iav (v := gI σ1 1361 0 x7.toNat) C ar_1361 (sg_1361 T) hx7 hb18 (gn (by decide) rfl) dX12_layReel_117 ?_
          obtain ⟨hk19, h⟩ := wpO_ck.mp h
          refine z_iadd C dX12_layReel_118 ?_
          refine z_istore (lv2 := [(6, vi (x6 + (gI σ1 1361 0 x7.toNat))), (5, vi (x5 + (gI σ1 1360 0 x7.toNat))), (4, vi (ior x4 (ishl 1 x7))), (3, vi (x3 + 1)), (0, vo ad 12 (some 0)), (7, vi x7), (8, vi x8)]) C dX12_layReel_119 (by decide) rfl ?_
          refine z_aload_n C 4 dX12_layReel_121 rfl ?_
          refine z_iload_n C 3 dX12_layReel_122 rfl ?_
          refine z_iload C 2 dX12_layReel_123 rfl ?_
          refine z_iload C 1 dX12_layReel_125 rfl ?_
          refine z_iload C 0 dX12_layReel_127 rfl ?_
          refine z_cV (st := []) T C (ct_X12_keep (x3 + 1) (ior x4 (ishl 1 x7)) (x5 + (gI σ1 1360 0 x7.toNat)) (x6 + (gI σ1 1361 0 x7.toNat)) hk15 (inr_ior _ _) hk17 hk19) lm_X12_424 lv_vX12_keep dX12_layReel_129 [vi (x3 + 1), vi (ior x4 (ishl 1 x7)), vi (x5 + (gI σ1 1360 0 x7.toNat)), vi (x6 + (gI σ1 1361 0 x7.toNat))] rfl rfl rfl rfl rfl (sg_12 T) trivial (by decide) (Nat.le_of_ble_eq_true rfl) csOK_0 h (fun r20 σ22 hr21 eN23 h => ?_)
          have eN24 := eN23.trans eN1
          show Z κ (0, 0) _ 132 _ [] ad σ22
          refine z_rng (fun hI25 hJ26 => ?_)
          refine z_iconst C dX12_layReel_132 ?_
          refine z_istore (lv2 := [(7, vi 0), (6, vi (x6 + (gI σ1 1361 0 x7.toNat))), (5, vi (x5 + (gI σ1 1360 0 x7.toNat))), (4, vi (ior x4 (ishl 1 x7))), (3, vi (x3 + 1)), (0, vo ad 12 (some 0)), (8, vi x8)]) C dX12_layReel_133 (by decide) rfl ?_
          refine z_goto C 34 dX12_layReel_135 (by decide) ?_
          refine z_sub [5, 4, 3, 2, 1, 0, 6] rfl ?_
          have h := wpO_some.mp h
          exact hP34 (x3 + 1) (ior x4 (ishl 1 x7)) (x5 + (gI σ1 1360 0 x7.toNat)) (x6 + (gI σ1 1361 0 x7.toNat)) 0 x8 σ22 h hk15 (inr_ior _ _) hk17 hk19 (by decide) hx8 eN24
      have J39 : ∀ (x3 : Int) (x4 : Int) (x5 : Int) (x6 : Int) (x7 : Int) (x8 : Int) (σ1 : St), inr x3 → inr x4 → inr x5 → inr x6 → inr x7 → inr x8 → σ1.2.2.2 = σ.2.2.2 → wpO (fX12_layReel_j39 x3 x4 x5 x6 x7 x8 σ1) (onS P34 Q34) → Z κ (0, 0) (Qm κ ad σ enV okV X) 39 [(0, vo ad 12 (some 0)), (3, vi x3), (4, vi x4), (5, vi x5), (6, vi x6), (7, vi x7), (8, vi x8)] [] ad σ1 := by
        intro x3 x4 x5 x6 x7 x8 σ1 hx3 hx4 hx5 hx6 hx7 hx8 eN1 h
        unfold fX12_layReel_j39 at h
        have step : ∀ (P39 : Int → Prop) (Q39 : Int → Prop), (∀ (x7 : Int), P39 x7 → inr x7 → Z κ (0, 0) (Qm κ ad σ enV okV X) 39 [(0, vo ad 12 (some 0)), (3, vi x3), (4, vi x4), (5, vi x5), (6, vi x6), (7, vi x7), (8, vi x8)] [] ad σ1) → (∀ (x7 : Int), Q39 (x7) → inr x7 → Z κ (0, 0) (Qm κ ad σ enV okV X) 68 [(0, vo ad 12 (some 0)), (3, vi x3), (4, vi x4), (5, vi x5), (6, vi x6), (7, vi x7), (8, vi x8)] [] ad σ1) → ∀ (x7 : Int), inr x7 → wpO (fX12_layReel_l39 x3 x4 x5 x6 x8 σ1 x7) (onS P39 Q39) → Z κ (0, 0) (Qm κ ad σ enV okV X) 39 [(0, vo ad 12 (some 0)), (3, vi x3), (4, vi x4), (5, vi x5), (6, vi x6), (7, vi x7), (8, vi x8)] [] ad σ1 := by
          intro P39 Q39 hP39 hE39_68 x7 hx7 h
          unfold fX12_layReel_l39 at h
          refine z_rng (fun hI27 hJ28 => ?_)
          refine z_iload C 5 dX12_layReel_39 rfl ?_
          refine z_aload_n C 0 dX12_layReel_41 rfl ?_
          refine z_gIv (v := gI σ1 1326 0 0) C li_X12_311 (sg_12 T) rfl dX12_layReel_42 ?_
          refine z_icmp_ge C 68 hx7 (hI27 1326 0 _) dX12_layReel_45 (by decide) (fun q29 => ?_) (fun q29 => ?_)
          · have h := (wpO_ite.mp h).1 q29
            have h := wpO_some.mp h
            exact hE39_68 x7 h hx7
          · have h := (wpO_ite.mp h).2 q29
            refine z_aload_n C 0 dX12_layReel_48 rfl ?_
            refine z_iload_n C 1 dX12_layReel_49 rfl ?_
            refine z_iload C 2 dX12_layReel_50 rfl ?_
            refine z_iload C 3 dX12_layReel_52 rfl ?_
            refine z_iload C 5 dX12_layReel_54 rfl ?_
            refine z_cVp (st := []) T C (ct_X12_mayFollow x3 x4 x5 x7 hx3 hx4 hx5 hx7) lm_X12_420 lv_vX12_mayFollow dX12_layReel_56 [vi x3, vi x4, vi x5, vi x7] rfl rfl rfl rfl rfl (sg_12 T) trivial (by decide) (Nat.le_of_ble_eq_true rfl) csOK_0 h (fun r30 hr31 h => ?_)
            show Z κ (0, 0) _ 59 _ [vi r30] ad σ1
            refine z_if_ne C 68 (inr_b hr31) dX12_layReel_59 (by decide) (fun q32 => ?_) (fun q32 => ?_)
            · have h := (wpO_ite.mp h).2 q32
              have h := wpO_some.mp h
              exact hE39_68 x7 h hx7
            · have h := (wpO_ite.mp h).1 q32
              obtain ⟨hk33, h⟩ := wpO_ck.mp h
              refine z_iinc (lv2 := [(7, vi (x7 + 1)), (0, vo ad 12 (some 0)), (3, vi x3), (4, vi x4), (5, vi x5), (6, vi x6), (8, vi x8)]) C 5 dX12_layReel_62 rfl (by decide) rfl ?_
              refine z_goto C 39 dX12_layReel_65 (by decide) ?_
              refine z_sub [1, 2, 3, 4, 5, 0, 6] rfl ?_
              have h := wpO_some.mp h
              exact hP39 (x7 + 1) h hk33
        exact wh_ind (P := fun s : Int => inr s → Z κ (0, 0) (Qm κ ad σ enV okV X) 39 [(0, vo ad 12 (some 0)), (3, vi x3), (4, vi x4), (5, vi x5), (6, vi x6), (7, vi s), (8, vi x8)] [] ad σ1) (fun s hs g0 => step _ _ (fun _ hp => hp) (fun x7 hq hx7 => J68 x3 x4 x5 x6 x7 x8 σ1 hx3 hx4 hx5 hx6 hx7 hx8 eN1 hq) s g0 hs) x7 (wpO_bnk.mp h) hx7
      refine z_rng (fun hI34 hJ35 => ?_)
      refine z_iload C 6 dX12_layReel_34 rfl ?_
      refine z_if_eq C 203 hx8 dX12_layReel_36 (by decide) (fun q36 => ?_) (fun q36 => ?_)
      · have h := (wpO_ite.mp h).1 q36
        refine z_sub [] rfl ?_
        have h := wpO_some.mp h
        exact hE34_203 σ1 h eN1
      · have h := (wpO_ite.mp h).2 q36
        exact J39 x3 x4 x5 x6 x7 x8 σ1 hx3 hx4 hx5 hx6 hx7 hx8 eN1 h
    exact wh_ind (P := fun s : (Int × Int × Int × Int × Int × Int × St) => inr s.1 → inr s.2.1 → inr s.2.2.1 → inr s.2.2.2.1 → inr s.2.2.2.2.1 → inr s.2.2.2.2.2.1 → s.2.2.2.2.2.2.2.2.2 = σ.2.2.2 → Z κ (0, 0) (Qm κ ad σ enV okV X) 34 [(0, vo ad 12 (some 0)), (3, vi s.1), (4, vi s.2.1), (5, vi s.2.2.1), (6, vi s.2.2.2.1), (7, vi s.2.2.2.2.1), (8, vi s.2.2.2.2.2.1)] [] ad s.2.2.2.2.2.2) (fun s hs g0 g1 g2 g3 g4 g5 g6 => step _ _ (fun _ _ _ _ _ _ _ hp => hp) (fun σ1 hq eN1 => J203 σ1 eN1 hq) s.1 s.2.1 s.2.2.1 s.2.2.2.1 s.2.2.2.2.1 s.2.2.2.2.2.1 s.2.2.2.2.2.2 g0 g1 g2 g3 g4 g5 g6 hs) ((x3, x4, x5, x6, x7, x8, σ1)) (wpO_bnk.mp h) hx3 hx4 hx5 hx6 hx7 hx8 eN1
  show Z κ (0, 0) (Qm κ ad σ enV okV X) 0 [(0, vo ad 12 (some 0)), (1, vi x1), (2, vi x2)] [] ad σ
  refine z_rng (fun hI37 hJ38 => ?_)
  refine z_aload_n C 0 dX12_layReel_0 rfl ?_
  refine z_iload_n C 1 dX12_layReel_1 rfl ?_
  refine z_iload_n C 2 dX12_layReel_2 rfl ?_
  refine z_cV (st := []) T C (ct_X12_layMay x1 x2 hx1 hx2) lm_X12_410 lv_vX12_layMay dX12_layReel_3 [vi x1, vi x2] rfl rfl rfl rfl rfl (sg_12 T) trivial (by decide) (Nat.le_of_ble_eq_true rfl) csOK_0 h (fun r39 σ41 hr40 eN42 h => ?_)
  show Z κ (0, 0) _ 6 _ [] ad σ41
  refine z_rng (fun hI43 hJ44 => ?_)
  refine z_aload_n C 0 dX12_layReel_6 rfl ?_
  refine z_bipush C dX12_layReel_7 (by decide) ?_
  refine z_pI C lq_X12_414 (sg_12 T) (by decide) dX12_layReel_9 ?_
  refine z_aload_n C 0 dX12_layReel_12 rfl ?_
  refine z_iconst C dX12_layReel_13 ?_
  refine z_pI C lq_X12_417 (sg_12 T) (by decide) dX12_layReel_14 ?_
  refine z_iconst C dX12_layReel_17 ?_
  refine z_istore_n (lv2 := [(3, vi 0), (0, vo ad 12 (some 0)), (1, vi x1), (2, vi x2)]) C dX12_layReel_18 (by decide) rfl ?_
  refine z_iconst C dX12_layReel_19 ?_
  refine z_istore (lv2 := [(4, vi 0), (3, vi 0), (0, vo ad 12 (some 0)), (1, vi x1), (2, vi x2)]) C dX12_layReel_20 (by decide) rfl ?_
  refine z_iconst C dX12_layReel_22 ?_
  refine z_istore (lv2 := [(5, vi 0), (4, vi 0), (3, vi 0), (0, vo ad 12 (some 0)), (1, vi x1), (2, vi x2)]) C dX12_layReel_23 (by decide) rfl ?_
  refine z_iconst C dX12_layReel_25 ?_
  refine z_istore (lv2 := [(6, vi 0), (5, vi 0), (4, vi 0), (3, vi 0), (0, vo ad 12 (some 0)), (1, vi x1), (2, vi x2)]) C dX12_layReel_26 (by decide) rfl ?_
  refine z_iconst C dX12_layReel_28 ?_
  refine z_istore (lv2 := [(7, vi 0), (6, vi 0), (5, vi 0), (4, vi 0), (3, vi 0), (0, vo ad 12 (some 0)), (1, vi x1), (2, vi x2)]) C dX12_layReel_29 (by decide) rfl ?_
  refine z_iconst C dX12_layReel_31 ?_
  refine z_istore (lv2 := [(8, vi 1), (7, vi 0), (6, vi 0), (5, vi 0), (4, vi 0), (3, vi 0), (0, vo ad 12 (some 0)), (1, vi x1), (2, vi x2)]) C dX12_layReel_32 (by decide) rfl ?_
  refine z_sub [6, 5, 4, 3, 2, 1, 0] rfl ?_
  exact J34 0 0 0 0 0 1 (sI (sI σ41 1366 0 0 ((-9))) 1365 0 0 0) (by decide) (by decide) (by decide) (by decide) (by decide) (by decide) eN42 h
noncomputable def fX12_left (x1 : Int) (σ : St) : Option Int :=
  ck (inr ((gI σ 1349 0 0) - 1)) (bnk (fX12_in x1 0 ((gI σ 1349 0 0) - 1)) (fun r4 => if r4 = 0 then (some ((-1))) else (ck (0 ≤ x1 ∧ x1 < 8) (some (gI σ 1354 0 x1.toNat)))))
set_option maxRecDepth 20000 in
set_option maxHeartbeats 4000000 in
theorem ct_X12_left (x1 : Int) (hx1 : inr x1) : Ct yX12_left cX12_left 2 (some .int) 1 (fun ad => [vo ad 12 (some 0), vi x1]) (pu (fX12_left x1)) enI okI (fun _ => True) := by
  refine Ct.of (by decide) (fun ad => Nat.le_of_ble_eq_true rfl) ?_
  intro κ ad σ X C T hpre h
  have C : Cx κ RX12 cX12_left 2 (some .int) 1 := C
  have h := wpO_pu.mp h
  unfold fX12_left at h
  show Z κ (0, 0) (Qm κ ad σ enI okI X) 0 [(0, vo ad 12 (some 0)), (1, vi x1)] [] ad σ
  refine z_rng (fun hI1 hJ2 => ?_)
  refine z_iload_n C 1 dX12_left_0 rfl ?_
  refine z_i2l C hx1 dX12_left_1 ?_
  refine z_lconst (z := 0) C dX12_left_2 (by decide) ?_
  refine z_aload_n C 0 dX12_left_3 rfl ?_
  refine z_gIv (v := gI σ 1349 0 0) C li_X12_397 (sg_12 T) rfl dX12_left_4 ?_
  refine z_iconst C dX12_left_7 ?_
  obtain ⟨hk3, h⟩ := wpO_ck.mp h
  refine z_isub C dX12_left_8 ?_
  refine z_i2l C hk3 dX12_left_9 ?_
  refine z_cSp (st := []) T C (ct_X12_in x1 0 ((gI σ 1349 0 0) - 1) (inq_i hx1) (by decide) (inq_i hk3)) lm_X12_245 ls_X12_in dX12_left_10 rfl rfl trivial (by decide) (Nat.le_of_ble_eq_true rfl) csOK_0 h (fun r4 hr5 h => ?_)
  show Z κ (0, 0) _ 13 _ [vi r4] ad σ
  refine z_if_eq C 25 (inr_b hr5) dX12_left_13 (by decide) (fun q6 => ?_) (fun q6 => ?_)
  · have h := (wpO_ite.mp h).1 q6
    refine z_iconst C dX12_left_25 ?_
    have h := wpO_some.mp h
    exact z_ireturn T C dX12_left_26 (by decide) rfl h
  · have h := (wpO_ite.mp h).2 q6
    refine z_aload_n C 0 dX12_left_16 rfl ?_
    refine z_gA T C li_X12_147 (sg_12 T) dX12_left_17 ?_
    refine z_iload_n C 1 dX12_left_20 rfl ?_
    obtain ⟨hb7, h⟩ := wpO_ck.mp h
    refine z_iav (v := gI σ 1354 0 x1.toNat) C ar_1354 (sg_1354 T) hx1 hb7 rfl dX12_left_21 ?_
    refine z_goto C 26 dX12_left_22 (by decide) ?_
    have h := wpO_some.mp h
    exact z_ireturn T C dX12_left_26 (hI1 1354 0 _) rfl h
noncomputable def fX12_length_j86 (x3 : Int) (s1 : Int) (σ1 : St) : Option (Int × St) :=
  some (x3, sI σ1 1355 0 0 s1)
noncomputable def fX12_length_j70 (x1 : Int) (x2 : Int) (x3 : Int) (s1 : Int) (σ1 : St) : Option (Int × St) :=
  if x1 = 0 then (fX12_length_j86 x3 x2 (sI σ1 1356 0 0 s1)) else (fX12_length_j86 x3 (gI σ1 1355 0 0) (sI σ1 1356 0 0 s1))
noncomputable def fX12_length_j56 (x1 : Int) (x2 : Int) (s0 : Int) (σ1 : St) : Option (Int × St) :=
  if x1 = 0 then (fX12_length_j70 x1 x2 s0 (gI σ1 1356 0 0) σ1) else (fX12_length_j70 x1 x2 s0 x2 σ1)
noncomputable def fX12_length_j41 (x1 : Int) (x2 : Int) (σ1 : St) : Option (Int × St) :=
  if x1 = 0 then (fX12_length_j56 x1 x2 (gI σ1 1355 0 0) σ1) else (fX12_length_j56 x1 x2 (gI σ1 1356 0 0) σ1)
noncomputable def fX12_length (x1 : Int) (x2 : Int) (σ : St) : Option (Int × St) :=
  bnk (fX12_in x2 1 3000) (fun r14 => if r14 = 0 then (some ((-2), σ)) else (if x1 = 0 then (if x2 ≤ gI σ 1356 0 0 then (fX12_length_j41 x1 x2 σ) else (some ((-3), σ))) else (if gI σ 1355 0 0 ≤ x2 then (fX12_length_j41 x1 x2 σ) else (some ((-3), σ)))))
set_option maxRecDepth 20000 in
set_option maxHeartbeats 4000000 in
theorem ct_X12_length (x1 : Int) (x2 : Int) (hx1 : x1 = 0 ∨ x1 = 1) (hx2 : inr x2) : Ct yX12_length cX12_length 4 (some .int) 1 (fun ad => [vo ad 12 (some 0), vi x1, vi x2]) (fX12_length x1 x2) enI okI (fun _ => True) := by
  refine Ct.of (by decide) (fun ad => Nat.le_of_ble_eq_true rfl) ?_
  intro κ ad σ X C T hpre h
  have C : Cx κ RX12 cX12_length 4 (some .int) 1 := C
  unfold fX12_length at h
  have J86 : ∀ (x3 : Int) (s1 : Int) (σ1 : St), inr x3 → inr s1 → σ1.2.2.2 = σ.2.2.2 → wpO (fX12_length_j86 x3 s1 σ1) (fun q => X q.1 q.2) → Z κ (0, 0) (Qm κ ad σ enI okI X) 86 [(3, vi x3)] [vi s1, vo ad 12 (some 0)] ad σ1 := by
    intro x3 s1 σ1 hx3 hs1 eN1 h
    unfold fX12_length_j86 at h
    refine z_rng (fun hI1 hJ2 => ?_)
    refine z_pI C lq_X12_150 (sg_12 T) hs1 dX12_length_86 ?_
    refine z_iload_n C 0 dX12_length_89 rfl ?_
    have h := wpO_some.mp h
    exact z_ireturn T C dX12_length_90 hx3 eN1 h
  have J70 : ∀ (x1 : Int) (x2 : Int) (x3 : Int) (s1 : Int) (σ1 : St), inr x1 → inr x2 → inr x3 → inr s1 → σ1.2.2.2 = σ.2.2.2 → wpO (fX12_length_j70 x1 x2 x3 s1 σ1) (fun q => X q.1 q.2) → Z κ (0, 0) (Qm κ ad σ enI okI X) 70 [(0, vo ad 12 (some 0)), (1, vi x1), (2, vi x2), (3, vi x3)] [vi s1, vo ad 12 (some 0)] ad σ1 := by
    intro x1 x2 x3 s1 σ1 hx1 hx2 hx3 hs1 eN1 h
    unfold fX12_length_j70 at h
    refine z_rng (fun hI3 hJ4 => ?_)
    refine z_pI C lq_X12_153 (sg_12 T) hs1 dX12_length_70 ?_
    refine z_aload_n C 0 dX12_length_73 rfl ?_
    refine z_iload_n C 1 dX12_length_74 rfl ?_
    refine z_if_eq C 85 hx1 dX12_length_75 (by decide) (fun q5 => ?_) (fun q5 => ?_)
    · have h := (wpO_ite.mp h).1 q5
      refine z_iload_n C 2 dX12_length_85 rfl ?_
      refine z_sub [3] rfl ?_
      exact J86 x3 x2 (sI σ1 1356 0 0 s1) hx3 hx2 eN1 h
    · have h := (wpO_ite.mp h).2 q5
      refine z_aload_n C 0 dX12_length_78 rfl ?_
      refine z_gIv (v := gI σ1 1355 0 0) C li_X12_150 (sg_12 T) (gn (by decide) rfl) dX12_length_79 ?_
      refine z_goto C 86 dX12_length_82 (by decide) ?_
      refine z_sub [3] rfl ?_
      exact J86 x3 (gI σ1 1355 0 0) (sI σ1 1356 0 0 s1) hx3 (hI3 1355 0 _) eN1 h
  have J56 : ∀ (x1 : Int) (x2 : Int) (s0 : Int) (σ1 : St), inr x1 → inr x2 → inr s0 → σ1.2.2.2 = σ.2.2.2 → wpO (fX12_length_j56 x1 x2 s0 σ1) (fun q => X q.1 q.2) → Z κ (0, 0) (Qm κ ad σ enI okI X) 56 [(0, vo ad 12 (some 0)), (1, vi x1), (2, vi x2)] [vi s0] ad σ1 := by
    intro x1 x2 s0 σ1 hx1 hx2 hs0 eN1 h
    unfold fX12_length_j56 at h
    refine z_rng (fun hI6 hJ7 => ?_)
    refine z_istore_n (lv2 := [(3, vi s0), (0, vo ad 12 (some 0)), (1, vi x1), (2, vi x2)]) C dX12_length_56 (by decide) rfl ?_
    refine z_aload_n C 1 dX12_length_57 rfl ?_
    refine z_iload_n C 2 dX12_length_58 rfl ?_
    refine z_if_eq C 66 hx1 dX12_length_59 (by decide) (fun q8 => ?_) (fun q8 => ?_)
    · have h := (wpO_ite.mp h).1 q8
      refine z_aload_n C 1 dX12_length_66 rfl ?_
      refine z_gIv (v := gI σ1 1356 0 0) C li_X12_153 (sg_12 T) rfl dX12_length_67 ?_
      refine z_sub [1, 2, 3, 0] rfl ?_
      exact J70 x1 x2 s0 (gI σ1 1356 0 0) σ1 hx1 hx2 hs0 (hI6 1356 0 _) eN1 h
    · have h := (wpO_ite.mp h).2 q8
      refine z_iload_n C 3 dX12_length_62 rfl ?_
      refine z_goto C 70 dX12_length_63 (by decide) ?_
      refine z_sub [1, 2, 3, 0] rfl ?_
      exact J70 x1 x2 s0 x2 σ1 hx1 hx2 hs0 hx2 eN1 h
  have J41 : ∀ (x1 : Int) (x2 : Int) (σ1 : St), inr x1 → inr x2 → σ1.2.2.2 = σ.2.2.2 → wpO (fX12_length_j41 x1 x2 σ1) (fun q => X q.1 q.2) → Z κ (0, 0) (Qm κ ad σ enI okI X) 41 [(0, vo ad 12 (some 0)), (1, vi x1), (2, vi x2)] [] ad σ1 := by
    intro x1 x2 σ1 hx1 hx2 eN1 h
    unfold fX12_length_j41 at h
    refine z_rng (fun hI9 hJ10 => ?_)
    refine z_iload_n C 1 dX12_length_41 rfl ?_
    refine z_if_eq C 52 hx1 dX12_length_42 (by decide) (fun q11 => ?_) (fun q11 => ?_)
    · have h := (wpO_ite.mp h).1 q11
      refine z_aload_n C 0 dX12_length_52 rfl ?_
      refine z_gIv (v := gI σ1 1355 0 0) C li_X12_150 (sg_12 T) rfl dX12_length_53 ?_
      exact J56 x1 x2 (gI σ1 1355 0 0) σ1 hx1 hx2 (hI9 1355 0 _) eN1 h
    · have h := (wpO_ite.mp h).2 q11
      refine z_aload_n C 0 dX12_length_45 rfl ?_
      refine z_gIv (v := gI σ1 1356 0 0) C li_X12_153 (sg_12 T) rfl dX12_length_46 ?_
      refine z_goto C 56 dX12_length_49 (by decide) ?_
      exact J56 x1 x2 (gI σ1 1356 0 0) σ1 hx1 hx2 (hI9 1356 0 _) eN1 h
  show Z κ (0, 0) (Qm κ ad σ enI okI X) 0 [(0, vo ad 12 (some 0)), (1, vi x1), (2, vi x2)] [] ad σ
  refine z_rng (fun hI12 hJ13 => ?_)
  refine z_iload_n C 2 dX12_length_0 rfl ?_
  refine z_i2l C hx2 dX12_length_1 ?_
  refine z_lconst (z := 1) C dX12_length_2 (by decide) ?_
  refine z_ldc2_w C lc_X12_405 dX12_length_3 ?_
  refine z_cSp (st := []) T C (ct_X12_in x2 1 3000 (inq_i hx2) (by decide) (by decide)) lm_X12_245 ls_X12_in dX12_length_6 rfl rfl trivial (by decide) (Nat.le_of_ble_eq_true rfl) csOK_0 h (fun r14 hr15 h => ?_)
  show Z κ (0, 0) _ 9 _ [vi r14] ad σ
  refine z_if_ne C 15 (inr_b hr15) dX12_length_9 (by decide) (fun q16 => ?_) (fun q16 => ?_)
  · have h := (wpO_ite.mp h).2 q16
    refine z_iload_n C 1 dX12_length_15 rfl ?_
    refine z_if_eq C 30 (inr_b hx1) dX12_length_16 (by decide) (fun q17 => ?_) (fun q17 => ?_)
    · have h := (wpO_ite.mp h).1 q17
      refine z_iload_n C 2 dX12_length_30 rfl ?_
      refine z_aload_n C 0 dX12_length_31 rfl ?_
      refine z_gIv (v := gI σ 1356 0 0) C li_X12_153 (sg_12 T) rfl dX12_length_32 ?_
      refine z_icmp_le C 41 hx2 (hI12 1356 0 _) dX12_length_35 (by decide) (fun q18 => ?_) (fun q18 => ?_)
      · have h := (wpO_ite.mp h).1 q18
        exact J41 x1 x2 σ (inr_b hx1) hx2 rfl h
      · have h := (wpO_ite.mp h).2 q18
        refine z_bipush C dX12_length_38 (by decide) ?_
        have h := wpO_some.mp h
        exact z_ireturn T C dX12_length_40 (by decide) rfl h
    · have h := (wpO_ite.mp h).2 q17
      refine z_iload_n C 2 dX12_length_19 rfl ?_
      refine z_aload_n C 0 dX12_length_20 rfl ?_
      refine z_gIv (v := gI σ 1355 0 0) C li_X12_150 (sg_12 T) rfl dX12_length_21 ?_
      refine z_icmp_ge C 41 hx2 (hI12 1355 0 _) dX12_length_24 (by decide) (fun q19 => ?_) (fun q19 => ?_)
      · have h := (wpO_ite.mp h).1 q19
        exact J41 x1 x2 σ (inr_b hx1) hx2 rfl h
      · have h := (wpO_ite.mp h).2 q19
        refine z_goto C 38 dX12_length_27 (by decide) ?_
        refine z_bipush C dX12_length_38 (by decide) ?_
        have h := wpO_some.mp h
        exact z_ireturn T C dX12_length_40 (by decide) rfl h
  · have h := (wpO_ite.mp h).1 q16
    refine z_bipush C dX12_length_12 (by decide) ?_
    have h := wpO_some.mp h
    exact z_ireturn T C dX12_length_14 (by decide) rfl h
noncomputable def fX12_lie (x1 : Int) (x2 : Int) (x3 : Int) (σ : St) : Option Int :=
  bnk (fX12_isShot x1 σ) (fun r3 => if r3 = 0 then (some ((-1))) else (bnk (fX12_isPlace x2) (fun r6 => if r6 = 0 then (some ((-1))) else (bnk (fX12_isHour x3) (fun r9 => if r9 = 0 then (some ((-2))) else (bnk (fX12_lieOf x1 x2 x3 σ) (fun r12 => some r12)))))))
set_option maxRecDepth 20000 in
set_option maxHeartbeats 4000000 in
theorem ct_X12_lie (x1 : Int) (x2 : Int) (x3 : Int) (hx1 : inr x1) (hx2 : inr x2) (hx3 : inr x3) : Ct yX12_lie cX12_lie 4 (some .int) 3 (fun ad => [vo ad 12 (some 0), vi x1, vi x2, vi x3]) (pu (fX12_lie x1 x2 x3)) enI okI (fun _ => True) := by
  refine Ct.of (by decide) (fun ad => Nat.le_of_ble_eq_true rfl) ?_
  intro κ ad σ X C T hpre h
  have C : Cx κ RX12 cX12_lie 4 (some .int) 3 := C
  have h := wpO_pu.mp h
  unfold fX12_lie at h
  show Z κ (0, 0) (Qm κ ad σ enI okI X) 0 [(0, vo ad 12 (some 0)), (1, vi x1), (2, vi x2), (3, vi x3)] [] ad σ
  refine z_rng (fun hI1 hJ2 => ?_)
  refine z_aload_n C 0 dX12_lie_0 rfl ?_
  refine z_iload_n C 1 dX12_lie_1 rfl ?_
  refine z_cVp (st := []) T C (ct_X12_isShot x1 hx1) lm_X12_290 lv_vX12_isShot dX12_lie_2 [vi x1] rfl rfl rfl rfl rfl (sg_12 T) trivial (by decide) (Nat.le_of_ble_eq_true rfl) csOK_0 h (fun r3 hr4 h => ?_)
  show Z κ (0, 0) _ 5 _ [vi r3] ad σ
  refine z_if_eq C 15 (inr_b hr4) dX12_lie_5 (by decide) (fun q5 => ?_) (fun q5 => ?_)
  · have h := (wpO_ite.mp h).1 q5
    refine z_iconst C dX12_lie_15 ?_
    have h := wpO_some.mp h
    exact z_ireturn T C dX12_lie_16 (by decide) rfl h
  · have h := (wpO_ite.mp h).2 q5
    refine z_iload_n C 2 dX12_lie_8 rfl ?_
    refine z_cSp (st := []) T C (ct_X12_isPlace x2 hx2) lm_X12_258 ls_X12_isPlace dX12_lie_9 rfl rfl trivial (by decide) (Nat.le_of_ble_eq_true rfl) csOK_0 h (fun r6 hr7 h => ?_)
    show Z κ (0, 0) _ 12 _ [vi r6] ad σ
    refine z_if_ne C 17 (inr_b hr7) dX12_lie_12 (by decide) (fun q8 => ?_) (fun q8 => ?_)
    · have h := (wpO_ite.mp h).2 q8
      refine z_iload_n C 3 dX12_lie_17 rfl ?_
      refine z_cSp (st := []) T C (ct_X12_isHour x3 hx3) lm_X12_262 ls_X12_isHour dX12_lie_18 rfl rfl trivial (by decide) (Nat.le_of_ble_eq_true rfl) csOK_0 h (fun r9 hr10 h => ?_)
      show Z κ (0, 0) _ 21 _ [vi r9] ad σ
      refine z_if_eq C 34 (inr_b hr10) dX12_lie_21 (by decide) (fun q11 => ?_) (fun q11 => ?_)
      · have h := (wpO_ite.mp h).1 q11
        refine z_bipush C dX12_lie_34 (by decide) ?_
        have h := wpO_some.mp h
        exact z_ireturn T C dX12_lie_36 (by decide) rfl h
      · have h := (wpO_ite.mp h).2 q11
        refine z_aload_n C 0 dX12_lie_24 rfl ?_
        refine z_iload_n C 1 dX12_lie_25 rfl ?_
        refine z_iload_n C 2 dX12_lie_26 rfl ?_
        refine z_iload_n C 3 dX12_lie_27 rfl ?_
        refine z_cVp (st := []) T C (ct_X12_lieOf x1 x2 x3 hx1 hx2 hx3) lm_X12_307 lv_vX12_lieOf dX12_lie_28 [vi x1, vi x2, vi x3] rfl rfl rfl rfl rfl (sg_12 T) trivial (by decide) (Nat.le_of_ble_eq_true rfl) csOK_0 h (fun r12 hr13 h => ?_)
        show Z κ (0, 0) _ 31 _ [vi r12] ad σ
        refine z_goto C 36 dX12_lie_31 (by decide) ?_
        have h := wpO_some.mp h
        exact z_ireturn T C dX12_lie_36 hr13 rfl h
    · have h := (wpO_ite.mp h).1 q8
      refine z_iconst C dX12_lie_15 ?_
      have h := wpO_some.mp h
      exact z_ireturn T C dX12_lie_16 (by decide) rfl h
noncomputable def fX12_lose (x1 : Int) (σ : St) : Option (Int × St) :=
  bnk (fX12_isShot x1 σ) (fun r3 => if r3 = 0 then (some ((-1), σ)) else (bnk (fX12_whereOf x1 (gI σ 1300 0 0) σ) (fun r6 => if r6 = 4 then (some ((-3), σ)) else (ck (0 ≤ x1 ∧ x1 < 40) (some (r6, sI σ 1320 0 x1.toNat (gI σ 1300 0 0)))))))
set_option maxRecDepth 20000 in
set_option maxHeartbeats 4000000 in
theorem ct_X12_lose (x1 : Int) (hx1 : inr x1) : Ct yX12_lose cX12_lose 3 (some .int) 2 (fun ad => [vo ad 12 (some 0), vi x1]) (fX12_lose x1) enI okI (fun _ => True) := by
  refine Ct.of (by decide) (fun ad => Nat.le_of_ble_eq_true rfl) ?_
  intro κ ad σ X C T hpre h
  have C : Cx κ RX12 cX12_lose 3 (some .int) 2 := C
  unfold fX12_lose at h
  show Z κ (0, 0) (Qm κ ad σ enI okI X) 0 [(0, vo ad 12 (some 0)), (1, vi x1)] [] ad σ
  refine z_rng (fun hI1 hJ2 => ?_)
  refine z_aload_n C 0 dX12_lose_0 rfl ?_
  refine z_iload_n C 1 dX12_lose_1 rfl ?_
  refine z_cVp (st := []) T C (ct_X12_isShot x1 hx1) lm_X12_290 lv_vX12_isShot dX12_lose_2 [vi x1] rfl rfl rfl rfl rfl (sg_12 T) trivial (by decide) (Nat.le_of_ble_eq_true rfl) csOK_0 h (fun r3 hr4 h => ?_)
  show Z κ (0, 0) _ 5 _ [vi r3] ad σ
  refine z_if_ne C 10 (inr_b hr4) dX12_lose_5 (by decide) (fun q5 => ?_) (fun q5 => ?_)
  · have h := (wpO_ite.mp h).2 q5
    refine z_aload_n C 0 dX12_lose_10 rfl ?_
    refine z_iload_n C 1 dX12_lose_11 rfl ?_
    refine z_aload_n C 0 dX12_lose_12 rfl ?_
    refine z_gIv (v := gI σ 1300 0 0) C li_X12_255 (sg_12 T) rfl dX12_lose_13 ?_
    refine z_cVp (st := []) T C (ct_X12_whereOf x1 (gI σ 1300 0 0) hx1 (hI1 1300 0 _)) lm_X12_297 lv_vX12_whereOf dX12_lose_16 [vi x1, vi (gI σ 1300 0 0)] rfl rfl rfl rfl rfl (sg_12 T) trivial (by decide) (Nat.le_of_ble_eq_true rfl) csOK_0 h (fun r6 hr7 h => ?_)
    show Z κ (0, 0) _ 19 _ [vi r6] ad σ
    refine z_istore_n (lv2 := [(2, vi r6), (0, vo ad 12 (some 0)), (1, vi x1)]) C dX12_lose_19 (by decide) rfl ?_
    refine z_iload_n C 0 dX12_lose_20 rfl ?_
    refine z_iconst C dX12_lose_21 ?_
    refine z_icmp_ne C 28 hr7 (by decide) dX12_lose_22 (by decide) (fun q8 => ?_) (fun q8 => ?_)
    · have h := (wpO_ite.mp h).2 q8
      refine z_aload_n C 1 dX12_lose_28 rfl ?_
      refine z_gA T C li_X12_62 (sg_12 T) dX12_lose_29 ?_
      refine z_iload_n C 2 dX12_lose_32 rfl ?_
      refine z_aload_n C 1 dX12_lose_33 rfl ?_
      refine z_gIv (v := gI σ 1300 0 0) C li_X12_255 (sg_12 T) rfl dX12_lose_34 ?_
      obtain ⟨hb9, h⟩ := wpO_ck.mp h
      refine z_iastore C ar_1320 (sg_1320 T) hx1 hb9 (hI1 1300 0 _) dX12_lose_37 ?_
      refine z_iload_n C 0 dX12_lose_38 rfl ?_
      have h := wpO_some.mp h
      exact z_ireturn T C dX12_lose_39 hr7 rfl h
    · have h := (wpO_ite.mp h).1 q8
      refine z_bipush C dX12_lose_25 (by decide) ?_
      have h := wpO_some.mp h
      exact z_ireturn T C dX12_lose_27 (by decide) rfl h
  · have h := (wpO_ite.mp h).1 q5
    refine z_iconst C dX12_lose_8 ?_
    have h := wpO_some.mp h
    exact z_ireturn T C dX12_lose_9 (by decide) rfl h
noncomputable def fX12_man (x1 : Int) (x2 : Int) (x3 : Int) (σ : St) : Option (Int × St) :=
  bnk (fX12_in x1 0 3) (fun r3 => if r3 = 0 then (some ((-1), σ)) else (bnk (fX12_isPlace x2) (fun r6 => if r6 = 0 then (some ((-1), σ)) else (bnk (fX12_isHour x3) (fun r9 => if r9 = 0 then (some ((-2), σ)) else (ck (0 ≤ x1 ∧ x1 < 4) (ck (0 ≤ x1 ∧ x1 < 4) (some (1, sI (sI σ 1367 0 x1.toNat x2) 1368 0 x1.toNat x3)))))))))
set_option maxRecDepth 20000 in
set_option maxHeartbeats 4000000 in
theorem ct_X12_man (x1 : Int) (x2 : Int) (x3 : Int) (hx1 : inr x1) (hx2 : inr x2) (hx3 : inr x3) : Ct yX12_man cX12_man 4 (some .int) 2 (fun ad => [vo ad 12 (some 0), vi x1, vi x2, vi x3]) (fX12_man x1 x2 x3) enI okI (fun _ => True) := by
  refine Ct.of (by decide) (fun ad => Nat.le_of_ble_eq_true rfl) ?_
  intro κ ad σ X C T hpre h
  have C : Cx κ RX12 cX12_man 4 (some .int) 2 := C
  unfold fX12_man at h
  show Z κ (0, 0) (Qm κ ad σ enI okI X) 0 [(0, vo ad 12 (some 0)), (1, vi x1), (2, vi x2), (3, vi x3)] [] ad σ
  refine z_rng (fun hI1 hJ2 => ?_)
  refine z_iload_n C 1 dX12_man_0 rfl ?_
  refine z_i2l C hx1 dX12_man_1 ?_
  refine z_lconst (z := 0) C dX12_man_2 (by decide) ?_
  refine z_ldc2_w C lc_X12_434 dX12_man_3 ?_
  refine z_cSp (st := []) T C (ct_X12_in x1 0 3 (inq_i hx1) (by decide) (by decide)) lm_X12_245 ls_X12_in dX12_man_6 rfl rfl trivial (by decide) (Nat.le_of_ble_eq_true rfl) csOK_0 h (fun r3 hr4 h => ?_)
  show Z κ (0, 0) _ 9 _ [vi r3] ad σ
  refine z_if_eq C 19 (inr_b hr4) dX12_man_9 (by decide) (fun q5 => ?_) (fun q5 => ?_)
  · have h := (wpO_ite.mp h).1 q5
    refine z_iconst C dX12_man_19 ?_
    have h := wpO_some.mp h
    exact z_ireturn T C dX12_man_20 (by decide) rfl h
  · have h := (wpO_ite.mp h).2 q5
    refine z_iload_n C 2 dX12_man_12 rfl ?_
    refine z_cSp (st := []) T C (ct_X12_isPlace x2 hx2) lm_X12_258 ls_X12_isPlace dX12_man_13 rfl rfl trivial (by decide) (Nat.le_of_ble_eq_true rfl) csOK_0 h (fun r6 hr7 h => ?_)
    show Z κ (0, 0) _ 16 _ [vi r6] ad σ
    refine z_if_ne C 21 (inr_b hr7) dX12_man_16 (by decide) (fun q8 => ?_) (fun q8 => ?_)
    · have h := (wpO_ite.mp h).2 q8
      refine z_iload_n C 3 dX12_man_21 rfl ?_
      refine z_cSp (st := []) T C (ct_X12_isHour x3 hx3) lm_X12_262 ls_X12_isHour dX12_man_22 rfl rfl trivial (by decide) (Nat.le_of_ble_eq_true rfl) csOK_0 h (fun r9 hr10 h => ?_)
      show Z κ (0, 0) _ 25 _ [vi r9] ad σ
      refine z_if_ne C 31 (inr_b hr10) dX12_man_25 (by decide) (fun q11 => ?_) (fun q11 => ?_)
      · have h := (wpO_ite.mp h).2 q11
        refine z_aload_n C 0 dX12_man_31 rfl ?_
        refine z_gA T C li_X12_177 (sg_12 T) dX12_man_32 ?_
        refine z_iload_n C 1 dX12_man_35 rfl ?_
        refine z_iload_n C 2 dX12_man_36 rfl ?_
        obtain ⟨hb12, h⟩ := wpO_ck.mp h
        refine z_iastore C ar_1367 (sg_1367 T) hx1 hb12 hx2 dX12_man_37 ?_
        refine z_aload_n C 0 dX12_man_38 rfl ?_
        refine z_gA T C li_X12_180 (sg_12 T) dX12_man_39 ?_
        refine z_iload_n C 1 dX12_man_42 rfl ?_
        refine z_iload_n C 3 dX12_man_43 rfl ?_
        obtain ⟨hb13, h⟩ := wpO_ck.mp h
        refine z_iastore C ar_1368 (sg_1368 T) hx1 hb13 hx3 dX12_man_44 ?_
        refine z_iconst C dX12_man_45 ?_
        have h := wpO_some.mp h
        exact z_ireturn T C dX12_man_46 (by decide) rfl h
      · have h := (wpO_ite.mp h).1 q11
        refine z_bipush C dX12_man_28 (by decide) ?_
        have h := wpO_some.mp h
        exact z_ireturn T C dX12_man_30 (by decide) rfl h
    · have h := (wpO_ite.mp h).1 q8
      refine z_iconst C dX12_man_19 ?_
      have h := wpO_some.mp h
      exact z_ireturn T C dX12_man_20 (by decide) rfl h
noncomputable def fX12_must_j24 (x1 : Int) (x2 : Int) (s0 : Int) (σ1 : St) : Option (Int × St) :=
  ck (0 ≤ x1 ∧ x1 < 8) (ck (x2 = 0 ∨ x2 = 1) (some (s0, sI σ1 1334 0 x1.toNat x2)))
noncomputable def fX12_must (x1 : Int) (x2 : Int) (σ : St) : Option (Int × St) :=
  bnk (fX12_isStory x1 σ) (fun r7 => if r7 = 0 then (some ((-1), σ)) else (ck (0 ≤ x1 ∧ x1 < 8) (if gI σ 1334 0 x1.toNat = 0 then (fX12_must_j24 x1 x2 0 σ) else (fX12_must_j24 x1 x2 1 σ))))
set_option maxRecDepth 20000 in
set_option maxHeartbeats 4000000 in
theorem ct_X12_must (x1 : Int) (x2 : Int) (hx1 : inr x1) (hx2 : x2 = 0 ∨ x2 = 1) : Ct yX12_must cX12_must 4 (some .int) 2 (fun ad => [vo ad 12 (some 0), vi x1, vi x2]) (fX12_must x1 x2) enI okI (fun _ => True) := by
  refine Ct.of (by decide) (fun ad => Nat.le_of_ble_eq_true rfl) ?_
  intro κ ad σ X C T hpre h
  have C : Cx κ RX12 cX12_must 4 (some .int) 2 := C
  unfold fX12_must at h
  have J24 : ∀ (x1 : Int) (x2 : Int) (s0 : Int) (σ1 : St), inr x1 → inr x2 → inr s0 → σ1.2.2.2 = σ.2.2.2 → wpO (fX12_must_j24 x1 x2 s0 σ1) (fun q => X q.1 q.2) → Z κ (0, 0) (Qm κ ad σ enI okI X) 24 [(0, vo ad 12 (some 0)), (1, vi x1), (2, vi x2)] [vi s0] ad σ1 := by
    intro x1 x2 s0 σ1 hx1 hx2 hs0 eN1 h
    unfold fX12_must_j24 at h
    refine z_rng (fun hI1 hJ2 => ?_)
    refine z_istore_n (lv2 := [(3, vi s0), (0, vo ad 12 (some 0)), (1, vi x1), (2, vi x2)]) C dX12_must_24 (by decide) rfl ?_
    refine z_aload_n C 1 dX12_must_25 rfl ?_
    refine z_gA T C li_X12_101 (sg_12 T) dX12_must_26 ?_
    refine z_iload_n C 2 dX12_must_29 rfl ?_
    refine z_iload_n C 3 dX12_must_30 rfl ?_
    obtain ⟨hb3, h⟩ := wpO_ck.mp h
    obtain ⟨hb4, h⟩ := wpO_ck.mp h
    refine z_bastore C ar_1334 (sg_1334 T) hx1 hb3 hx2 hb4 dX12_must_31 ?_
    refine z_iload_n C 0 dX12_must_32 rfl ?_
    have h := wpO_some.mp h
    exact z_ireturn T C dX12_must_33 hs0 eN1 h
  show Z κ (0, 0) (Qm κ ad σ enI okI X) 0 [(0, vo ad 12 (some 0)), (1, vi x1), (2, vi x2)] [] ad σ
  refine z_rng (fun hI5 hJ6 => ?_)
  refine z_aload_n C 0 dX12_must_0 rfl ?_
  refine z_iload_n C 1 dX12_must_1 rfl ?_
  refine z_cVp (st := []) T C (ct_X12_isStory x1 hx1) lm_X12_316 lv_vX12_isStory dX12_must_2 [vi x1] rfl rfl rfl rfl rfl (sg_12 T) trivial (by decide) (Nat.le_of_ble_eq_true rfl) csOK_0 h (fun r7 hr8 h => ?_)
  show Z κ (0, 0) _ 5 _ [vi r7] ad σ
  refine z_if_ne C 10 (inr_b hr8) dX12_must_5 (by decide) (fun q9 => ?_) (fun q9 => ?_)
  · have h := (wpO_ite.mp h).2 q9
    refine z_aload_n C 0 dX12_must_10 rfl ?_
    refine z_gA T C li_X12_101 (sg_12 T) dX12_must_11 ?_
    refine z_iload_n C 1 dX12_must_14 rfl ?_
    obtain ⟨hb10, h⟩ := wpO_ck.mp h
    refine z_bav (v := gI σ 1334 0 x1.toNat) C ar_1334 (sg_1334 T) hx1 hb10 rfl dX12_must_15 ?_
    refine z_if_eq C 23 (hI5 1334 0 _) dX12_must_16 (by decide) (fun q11 => ?_) (fun q11 => ?_)
    · have h := (wpO_ite.mp h).1 q11
      refine z_iconst C dX12_must_23 ?_
      exact J24 x1 x2 0 σ hx1 (inr_b hx2) (by decide) rfl h
    · have h := (wpO_ite.mp h).2 q11
      refine z_iconst C dX12_must_19 ?_
      refine z_goto C 24 dX12_must_20 (by decide) ?_
      exact J24 x1 x2 1 σ hx1 (inr_b hx2) (by decide) rfl h
  · have h := (wpO_ite.mp h).1 q9
    refine z_iconst C dX12_must_8 ?_
    have h := wpO_some.mp h
    exact z_ireturn T C dX12_must_9 (by decide) rfl h
noncomputable def fX12_of (x1 : Int) (x2 : Int) (σ : St) : Option Int :=
  bnk (fX12_isStory x1 σ) (fun r3 => if r3 = 0 then (some ((-1))) else (if x2 = 0 then (ck (0 ≤ x1 ∧ x1 < 8) (some (gI σ 1331 0 x1.toNat))) else (if x2 = 1 then (bnk (fX12_feetOf x1 σ) (fun r9 => some r9)) else (if x2 = 2 then (bnk (fX12_disorderOf x1 σ) (fun r12 => some r12)) else (if x2 = 3 then (bnk (fX12_manyOf x1 0 σ) (fun r15 => some r15)) else (if x2 = 4 then (bnk (fX12_manyOf x1 1 σ) (fun r18 => some r18)) else (if x2 = 5 then (bnk (fX12_manyOf x1 2 σ) (fun r21 => some r21)) else (if x2 = 6 then (bnk (fX12_isReady x1 σ) (fun r24 => if r24 = 0 then (some 0) else (some 1))) else (some ((-2)))))))))))
set_option maxRecDepth 20000 in
set_option maxHeartbeats 4000000 in
theorem ct_X12_of (x1 : Int) (x2 : Int) (hx1 : inr x1) (hx2 : inr x2) : Ct yX12_of cX12_of 3 (some .int) 4 (fun ad => [vo ad 12 (some 0), vi x1, vi x2]) (pu (fX12_of x1 x2)) enI okI (fun _ => True) := by
  refine Ct.of (by decide) (fun ad => Nat.le_of_ble_eq_true rfl) ?_
  intro κ ad σ X C T hpre h
  have C : Cx κ RX12 cX12_of 3 (some .int) 4 := C
  have h := wpO_pu.mp h
  unfold fX12_of at h
  show Z κ (0, 0) (Qm κ ad σ enI okI X) 0 [(0, vo ad 12 (some 0)), (1, vi x1), (2, vi x2)] [] ad σ
  refine z_rng (fun hI1 hJ2 => ?_)
  refine z_aload_n C 0 dX12_of_0 rfl ?_
  refine z_iload_n C 1 dX12_of_1 rfl ?_
  refine z_cVp (st := []) T C (ct_X12_isStory x1 hx1) lm_X12_316 lv_vX12_isStory dX12_of_2 [vi x1] rfl rfl rfl rfl rfl (sg_12 T) trivial (by decide) (Nat.le_of_ble_eq_true rfl) csOK_0 h (fun r3 hr4 h => ?_)
  show Z κ (0, 0) _ 5 _ [vi r3] ad σ
  refine z_if_ne C 10 (inr_b hr4) dX12_of_5 (by decide) (fun q5 => ?_) (fun q5 => ?_)
  · have h := (wpO_ite.mp h).2 q5
    refine z_iload_n C 2 dX12_of_10 rfl ?_
    by_cases q6 : x2 = 0
    · have h := (wpO_ite.mp h).1 q6
      refine z_tableIn (off := 41) C 52 hx2 dX12_of_11 (by omega) (by omega) (by rw [q6]; rfl) (by decide) ?_
      refine z_aload_n C 0 dX12_of_52 rfl ?_
      refine z_gA T C li_X12_92 (sg_12 T) dX12_of_53 ?_
      refine z_iload_n C 1 dX12_of_56 rfl ?_
      obtain ⟨hb7, h⟩ := wpO_ck.mp h
      refine z_iav (v := gI σ 1331 0 x1.toNat) C ar_1331 (sg_1331 T) hx1 hb7 rfl dX12_of_57 ?_
      have h := wpO_some.mp h
      exact z_ireturn T C dX12_of_58 (hI1 1331 0 _) rfl h
    have h := (wpO_ite.mp h).2 q6
    by_cases q8 : x2 = 1
    · have h := (wpO_ite.mp h).1 q8
      refine z_tableIn (off := 48) C 59 hx2 dX12_of_11 (by omega) (by omega) (by rw [q8]; rfl) (by decide) ?_
      refine z_aload_n C 0 dX12_of_59 rfl ?_
      refine z_iload_n C 1 dX12_of_60 rfl ?_
      refine z_cVp (st := []) T C (ct_X12_feetOf x1 hx1) lm_X12_319 lv_vX12_feetOf dX12_of_61 [vi x1] rfl rfl rfl rfl rfl (sg_12 T) trivial (by decide) (Nat.le_of_ble_eq_true rfl) csOK_0 h (fun r9 hr10 h => ?_)
      show Z κ (0, 0) _ 64 _ [vi r9] ad σ
      have h := wpO_some.mp h
      exact z_ireturn T C dX12_of_64 hr10 rfl h
    have h := (wpO_ite.mp h).2 q8
    by_cases q11 : x2 = 2
    · have h := (wpO_ite.mp h).1 q11
      refine z_tableIn (off := 54) C 65 hx2 dX12_of_11 (by omega) (by omega) (by rw [q11]; rfl) (by decide) ?_
      refine z_aload_n C 0 dX12_of_65 rfl ?_
      refine z_iload_n C 1 dX12_of_66 rfl ?_
      refine z_cVp (st := []) T C (ct_X12_disorderOf x1 hx1) lm_X12_323 lv_vX12_disorderOf dX12_of_67 [vi x1] rfl rfl rfl rfl rfl (sg_12 T) trivial (by decide) (Nat.le_of_ble_eq_true rfl) csOK_0 h (fun r12 hr13 h => ?_)
      show Z κ (0, 0) _ 70 _ [vi r12] ad σ
      have h := wpO_some.mp h
      exact z_ireturn T C dX12_of_70 hr13 rfl h
    have h := (wpO_ite.mp h).2 q11
    by_cases q14 : x2 = 3
    · have h := (wpO_ite.mp h).1 q14
      refine z_tableIn (off := 60) C 71 hx2 dX12_of_11 (by omega) (by omega) (by rw [q14]; rfl) (by decide) ?_
      refine z_aload_n C 0 dX12_of_71 rfl ?_
      refine z_iload_n C 1 dX12_of_72 rfl ?_
      refine z_iconst C dX12_of_73 ?_
      refine z_cVp (st := []) T C (ct_X12_manyOf x1 0 hx1 (by decide)) lm_X12_326 lv_vX12_manyOf dX12_of_74 [vi x1, vi 0] rfl rfl rfl rfl rfl (sg_12 T) trivial (by decide) (Nat.le_of_ble_eq_true rfl) csOK_0 h (fun r15 hr16 h => ?_)
      show Z κ (0, 0) _ 77 _ [vi r15] ad σ
      have h := wpO_some.mp h
      exact z_ireturn T C dX12_of_77 hr16 rfl h
    have h := (wpO_ite.mp h).2 q14
    by_cases q17 : x2 = 4
    · have h := (wpO_ite.mp h).1 q17
      refine z_tableIn (off := 67) C 78 hx2 dX12_of_11 (by omega) (by omega) (by rw [q17]; rfl) (by decide) ?_
      refine z_aload_n C 0 dX12_of_78 rfl ?_
      refine z_iload_n C 1 dX12_of_79 rfl ?_
      refine z_iconst C dX12_of_80 ?_
      refine z_cVp (st := []) T C (ct_X12_manyOf x1 1 hx1 (by decide)) lm_X12_326 lv_vX12_manyOf dX12_of_81 [vi x1, vi 1] rfl rfl rfl rfl rfl (sg_12 T) trivial (by decide) (Nat.le_of_ble_eq_true rfl) csOK_0 h (fun r18 hr19 h => ?_)
      show Z κ (0, 0) _ 84 _ [vi r18] ad σ
      have h := wpO_some.mp h
      exact z_ireturn T C dX12_of_84 hr19 rfl h
    have h := (wpO_ite.mp h).2 q17
    by_cases q20 : x2 = 5
    · have h := (wpO_ite.mp h).1 q20
      refine z_tableIn (off := 74) C 85 hx2 dX12_of_11 (by omega) (by omega) (by rw [q20]; rfl) (by decide) ?_
      refine z_aload_n C 0 dX12_of_85 rfl ?_
      refine z_iload_n C 1 dX12_of_86 rfl ?_
      refine z_iconst C dX12_of_87 ?_
      refine z_cVp (st := []) T C (ct_X12_manyOf x1 2 hx1 (by decide)) lm_X12_326 lv_vX12_manyOf dX12_of_88 [vi x1, vi 2] rfl rfl rfl rfl rfl (sg_12 T) trivial (by decide) (Nat.le_of_ble_eq_true rfl) csOK_0 h (fun r21 hr22 h => ?_)
      show Z κ (0, 0) _ 91 _ [vi r21] ad σ
      have h := wpO_some.mp h
      exact z_ireturn T C dX12_of_91 hr22 rfl h
    have h := (wpO_ite.mp h).2 q20
    by_cases q23 : x2 = 6
    · have h := (wpO_ite.mp h).1 q23
      refine z_tableIn (off := 81) C 92 hx2 dX12_of_11 (by omega) (by omega) (by rw [q23]; rfl) (by decide) ?_
      refine z_aload_n C 0 dX12_of_92 rfl ?_
      refine z_iload_n C 1 dX12_of_93 rfl ?_
      refine z_cVp (st := []) T C (ct_X12_isReady x1 hx1) lm_X12_329 lv_vX12_isReady dX12_of_94 [vi x1] rfl rfl rfl rfl rfl (sg_12 T) trivial (by decide) (Nat.le_of_ble_eq_true rfl) csOK_0 h (fun r24 hr25 h => ?_)
      show Z κ (0, 0) _ 97 _ [vi r24] ad σ
      refine z_if_eq C 104 (inr_b hr25) dX12_of_97 (by decide) (fun q26 => ?_) (fun q26 => ?_)
      · have h := (wpO_ite.mp h).1 q26
        refine z_iconst C dX12_of_104 ?_
        have h := wpO_some.mp h
        exact z_ireturn T C dX12_of_105 (by decide) rfl h
      · have h := (wpO_ite.mp h).2 q26
        refine z_iconst C dX12_of_100 ?_
        refine z_goto C 105 dX12_of_101 (by decide) ?_
        have h := wpO_some.mp h
        exact z_ireturn T C dX12_of_105 (by decide) rfl h
    have h := (wpO_ite.mp h).2 q23
    refine z_tableOut C 106 hx2 dX12_of_11 (by omega) (by decide) ?_
    refine z_bipush C dX12_of_106 (by decide) ?_
    have h := wpO_some.mp h
    exact z_ireturn T C dX12_of_108 (by decide) rfl h
  · have h := (wpO_ite.mp h).1 q5
    refine z_iconst C dX12_of_8 ?_
    have h := wpO_some.mp h
    exact z_ireturn T C dX12_of_9 (by decide) rfl h
