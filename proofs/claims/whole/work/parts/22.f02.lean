noncomputable def fX11_expected (x1 : Int) (x2 : Int) (σ : St) : Option Int :=
  bnk (fX11_shotNumbered x1 σ) (fun r3 => mop r3 (fun j5 => ck (j5 < gN σ 7) (if x2 = 0 then (some (gI σ 811 j5 0)) else (some (gI σ 812 j5 0)))) (some ((-1))))
set_option maxRecDepth 20000 in
set_option maxHeartbeats 4000000 in
theorem ct_X11_expected (x1 : Int) (x2 : Int) (hx1 : inr x1) (hx2 : x2 = 0 ∨ x2 = 1) : Ct yX11_expected cX11_expected 4 (some .int) 2 (fun ad => [vo ad 11 (some 0), vi x1, vi x2]) (pu (fX11_expected x1 x2)) enI okI (fun _ => True) := by
  refine Ct.of (by decide) (fun ad => Nat.le_of_ble_eq_true rfl) ?_
  intro κ ad σ X C T hpre h
  have C : Cx κ RX11 cX11_expected 4 (some .int) 2 := C
  have h := wpO_pu.mp h
  unfold fX11_expected at h
  show Z κ (0, 0) (Qm κ ad σ enI okI X) 0 [(0, vo ad 11 (some 0)), (1, vi x1), (2, vi x2)] [] ad σ
  refine z_rng (fun hI1 hJ2 => ?_)
  refine z_aload_n C 0 dX11_expected_0 rfl ?_
  refine z_iload_n C 1 dX11_expected_1 rfl ?_
  refine z_cVp (st := []) T C (ct_X11_shotNumbered x1 hx1) lm_X11_144 lv_vX11_shotNumbered dX11_expected_2 [vi x1] rfl rfl rfl rfl rfl (sg_11 T) trivial (by decide) (Nat.le_of_ble_eq_true rfl) csOK_0 h (fun r3 hr4 h => ?_)
  show Z κ (0, 0) _ 5 _ [vo ad 7 r3] ad σ
  refine z_astore_n (lv2 := [(3, vo ad 7 r3), (0, vo ad 11 (some 0)), (1, vi x1), (2, vi x2)]) C dX11_expected_5 (by decide) rfl ?_
  refine z_aload_n C 0 dX11_expected_6 rfl ?_
  refine z_ifnonnull C 12 dX11_expected_7 (by decide) (fun j5 hr6 => ?_) (fun hr6 => ?_)
  · have h := (wpO_mop.mp h).1 j5 hr6
    subst hr6
    obtain ⟨hj7, h⟩ := wpO_ck.mp h
    refine z_iload_n C 3 dX11_expected_12 rfl ?_
    refine z_if_eq C 23 (inr_b hx2) dX11_expected_13 (by decide) (fun q8 => ?_) (fun q8 => ?_)
    · have h := (wpO_ite.mp h).1 q8
      refine z_aload_n C 0 dX11_expected_23 rfl ?_
      refine z_gIv (v := gI σ 811 j5 0) C li_X11_173 (nN rfl (toN rfl hj7)) rfl dX11_expected_24 ?_
      have h := wpO_some.mp h
      exact z_ireturn T C dX11_expected_27 (hI1 811 j5 _) rfl h
    · have h := (wpO_ite.mp h).2 q8
      refine z_aload_n C 0 dX11_expected_16 rfl ?_
      refine z_gIv (v := gI σ 812 j5 0) C li_X11_176 (nN rfl (toN rfl hj7)) rfl dX11_expected_17 ?_
      refine z_goto C 27 dX11_expected_20 (by decide) ?_
      have h := wpO_some.mp h
      exact z_ireturn T C dX11_expected_27 (hI1 812 j5 _) rfl h
  · have h := (wpO_mop.mp h).2 hr6
    subst hr6
    refine z_iconst C dX11_expected_10 ?_
    have h := wpO_some.mp h
    exact z_ireturn T C dX11_expected_11 (by decide) rfl h
noncomputable def fX11_isDayOfYear (x0 : Int) : Option Int :=
  bnk (fX11_within x0 0 364) (fun r1 => some r1)
set_option maxRecDepth 20000 in
set_option maxHeartbeats 4000000 in
theorem ct_X11_isDayOfYear (x0 : Int) (hx0 : inr x0) : Ct yX11_isDayOfYear cX11_isDayOfYear 1 (some .boolean) 1 (fun ad => [vi x0]) (pu (fun _ => fX11_isDayOfYear x0)) enI okB (fun _ => True) := by
  refine Ct.of (by decide) (fun ad => Nat.le_of_ble_eq_true rfl) ?_
  intro κ ad σ X C T hpre h
  have C : Cx κ RX11 cX11_isDayOfYear 1 (some .boolean) 1 := C
  have h := wpO_pu.mp h
  unfold fX11_isDayOfYear at h
  show Z κ (0, 0) (Qm κ ad σ enI okB X) 0 [(0, vi x0)] [] ad σ
  refine z_iload_n C 0 dX11_isDayOfYear_0 rfl ?_
  refine z_iconst C dX11_isDayOfYear_1 ?_
  refine z_sipush C dX11_isDayOfYear_2 (by decide) ?_
  refine z_cSp (st := []) T C (ct_X11_within x0 0 364 hx0 (by decide) (by decide)) lm_X11_83 ls_X11_within dX11_isDayOfYear_5 rfl rfl trivial (by decide) (Nat.le_of_ble_eq_true rfl) csOK_0 h (fun r1 hr2 h => ?_)
  show Z κ (0, 0) _ 8 _ [vi r1] ad σ
  have h := wpO_some.mp h
  exact z_breturn T C dX11_isDayOfYear_8 hr2 rfl h
noncomputable def fX1_learn (x1 : Int) (x2 : Int) (x3 : Int) (x4 : Int) (σ : St) : Option (Unit × St) :=
  ck (0 ≤ x1 ∧ x1 < 8) (ck (0 ≤ x1 ∧ x1 < 8) (ck (0 ≤ x1 ∧ x1 < 8) (some ((), sI (sI (sI σ 200 0 x1.toNat x2) 201 0 x1.toNat x3) 202 0 x1.toNat x4))))
set_option maxRecDepth 20000 in
set_option maxHeartbeats 4000000 in
theorem ct_X1_learn (x1 : Int) (x2 : Int) (x3 : Int) (x4 : Int) (hx1 : inr x1) (hx2 : inr x2) (hx3 : inr x3) (hx4 : inr x4) : Ct yX1_learn cX1_learn 5 none 0 (fun ad => [vo ad 1 (some 0), vi x1, vi x2, vi x3, vi x4]) (fX1_learn x1 x2 x3 x4) enV okV (fun _ => True) := by
  refine Ct.of (by decide) (fun ad => Nat.le_of_ble_eq_true rfl) ?_
  intro κ ad σ X C T hpre h
  have C : Cx κ RX1 cX1_learn 5 none 0 := C
  unfold fX1_learn at h
  show Z κ (0, 0) (Qm κ ad σ enV okV X) 0 [(0, vo ad 1 (some 0)), (1, vi x1), (2, vi x2), (3, vi x3), (4, vi x4)] [] ad σ
  refine z_rng (fun hI1 hJ2 => ?_)
  refine z_aload_n C 0 dX1_learn_0 rfl ?_
  refine z_gA T C li_X1_9 (sg_1 T) dX1_learn_1 ?_
  refine z_iload_n C 1 dX1_learn_4 rfl ?_
  refine z_iload_n C 2 dX1_learn_5 rfl ?_
  obtain ⟨hb3, h⟩ := wpO_ck.mp h
  refine z_iastore C ar_200 (sg_200 T) hx1 hb3 hx2 dX1_learn_6 ?_
  refine z_aload_n C 0 dX1_learn_7 rfl ?_
  refine z_gA T C li_X1_15 (sg_1 T) dX1_learn_8 ?_
  refine z_iload_n C 1 dX1_learn_11 rfl ?_
  refine z_iload_n C 3 dX1_learn_12 rfl ?_
  obtain ⟨hb4, h⟩ := wpO_ck.mp h
  refine z_iastore C ar_201 (sg_201 T) hx1 hb4 hx3 dX1_learn_13 ?_
  refine z_aload_n C 0 dX1_learn_14 rfl ?_
  refine z_gA T C li_X1_18 (sg_1 T) dX1_learn_15 ?_
  refine z_iload_n C 1 dX1_learn_18 rfl ?_
  refine z_iload C 4 dX1_learn_19 rfl ?_
  obtain ⟨hb5, h⟩ := wpO_ck.mp h
  refine z_iastore C ar_202 (sg_202 T) hx1 hb5 hx4 dX1_learn_21 ?_
  have h := wpO_some.mp h
  exact z_return T C dX1_learn_22 rfl h
noncomputable def fX11_fact (x1 : Int) (x2 : Int) (x3 : Int) (x4 : Int) (σ : St) : Option (Int × St) :=
  bnk (fX11_within x1 0 7) (fun r3 => if r3 = 0 then (some ((-1), σ)) else (bnk (fX11_within x2 0 255) (fun r6 => if r6 = 0 then (some ((-2), σ)) else (bnk (fX11_isDayOfYear x3) (fun r9 => if r9 = 0 then (some ((-2), σ)) else (bnk (fX11_isDayOfYear x4) (fun r12 => if r12 = 0 then (some ((-2), σ)) else (bnd (fX1_learn x1 x2 x3 x4 σ) (fun _ σ17 => some (1, σ17))))))))))
set_option maxRecDepth 20000 in
set_option maxHeartbeats 4000000 in
theorem ct_X11_fact (x1 : Int) (x2 : Int) (x3 : Int) (x4 : Int) (hx1 : inr x1) (hx2 : inr x2) (hx3 : inr x3) (hx4 : inr x4) : Ct yX11_fact cX11_fact 5 (some .int) 2 (fun ad => [vo ad 11 (some 0), vi x1, vi x2, vi x3, vi x4]) (fX11_fact x1 x2 x3 x4) enI okI (fun _ => True) := by
  refine Ct.of (by decide) (fun ad => Nat.le_of_ble_eq_true rfl) ?_
  intro κ ad σ X C T hpre h
  have C : Cx κ RX11 cX11_fact 5 (some .int) 2 := C
  unfold fX11_fact at h
  show Z κ (0, 0) (Qm κ ad σ enI okI X) 0 [(0, vo ad 11 (some 0)), (1, vi x1), (2, vi x2), (3, vi x3), (4, vi x4)] [] ad σ
  refine z_rng (fun hI1 hJ2 => ?_)
  refine z_iload_n C 1 dX11_fact_0 rfl ?_
  refine z_iconst C dX11_fact_1 ?_
  refine z_bipush C dX11_fact_2 (by decide) ?_
  refine z_cSp (st := []) T C (ct_X11_within x1 0 7 hx1 (by decide) (by decide)) lm_X11_83 ls_X11_within dX11_fact_4 rfl rfl trivial (by decide) (Nat.le_of_ble_eq_true rfl) csOK_0 h (fun r3 hr4 h => ?_)
  show Z κ (0, 0) _ 7 _ [vi r3] ad σ
  refine z_if_ne C 12 (inr_b hr4) dX11_fact_7 (by decide) (fun q5 => ?_) (fun q5 => ?_)
  · have h := (wpO_ite.mp h).2 q5
    refine z_iload_n C 2 dX11_fact_12 rfl ?_
    refine z_iconst C dX11_fact_13 ?_
    refine z_sipush C dX11_fact_14 (by decide) ?_
    refine z_cSp (st := []) T C (ct_X11_within x2 0 255 hx2 (by decide) (by decide)) lm_X11_83 ls_X11_within dX11_fact_17 rfl rfl trivial (by decide) (Nat.le_of_ble_eq_true rfl) csOK_0 h (fun r6 hr7 h => ?_)
    show Z κ (0, 0) _ 20 _ [vi r6] ad σ
    refine z_if_eq C 38 (inr_b hr7) dX11_fact_20 (by decide) (fun q8 => ?_) (fun q8 => ?_)
    · have h := (wpO_ite.mp h).1 q8
      refine z_bipush C dX11_fact_38 (by decide) ?_
      have h := wpO_some.mp h
      exact z_ireturn T C dX11_fact_40 (by decide) rfl h
    · have h := (wpO_ite.mp h).2 q8
      refine z_iload_n C 3 dX11_fact_23 rfl ?_
      refine z_cSp (st := []) T C (ct_X11_isDayOfYear x3 hx3) lm_X11_185 ls_X11_isDayOfYear dX11_fact_24 rfl rfl trivial (by decide) (Nat.le_of_ble_eq_true rfl) csOK_0 h (fun r9 hr10 h => ?_)
      show Z κ (0, 0) _ 27 _ [vi r9] ad σ
      refine z_if_eq C 38 (inr_b hr10) dX11_fact_27 (by decide) (fun q11 => ?_) (fun q11 => ?_)
      · have h := (wpO_ite.mp h).1 q11
        refine z_bipush C dX11_fact_38 (by decide) ?_
        have h := wpO_some.mp h
        exact z_ireturn T C dX11_fact_40 (by decide) rfl h
      · have h := (wpO_ite.mp h).2 q11
        refine z_iload C 4 dX11_fact_30 rfl ?_
        refine z_cSp (st := []) T C (ct_X11_isDayOfYear x4 hx4) lm_X11_185 ls_X11_isDayOfYear dX11_fact_32 rfl rfl trivial (by decide) (Nat.le_of_ble_eq_true rfl) csOK_0 h (fun r12 hr13 h => ?_)
        show Z κ (0, 0) _ 35 _ [vi r12] ad σ
        refine z_if_ne C 41 (inr_b hr13) dX11_fact_35 (by decide) (fun q14 => ?_) (fun q14 => ?_)
        · have h := (wpO_ite.mp h).2 q14
          refine z_aload_n C 0 dX11_fact_41 rfl ?_
          refine z_gR T C li_X11_19 (sg_11 T) dX11_fact_42 ?_
          refine z_iload_n C 1 dX11_fact_45 rfl ?_
          refine z_iload_n C 2 dX11_fact_46 rfl ?_
          refine z_iload_n C 3 dX11_fact_47 rfl ?_
          refine z_iload C 4 dX11_fact_48 rfl ?_
          refine z_cV (st := []) T C (ct_X1_learn x1 x2 x3 x4 hx1 hx2 hx3 hx4) lm_X11_188 lv_vX1_learn dX11_fact_50 [vi x1, vi x2, vi x3, vi x4] rfl rfl rfl rfl rfl (sg_1 T) trivial (by decide) (Nat.le_of_ble_eq_true rfl) csOK_0 h (fun r15 σ17 hr16 eN18 h => ?_)
          show Z κ (0, 0) _ 53 _ [] ad σ17
          refine z_rng (fun hI19 hJ20 => ?_)
          refine z_iconst C dX11_fact_53 ?_
          have h := wpO_some.mp h
          exact z_ireturn T C dX11_fact_54 (by decide) eN18 h
        · have h := (wpO_ite.mp h).1 q14
          refine z_bipush C dX11_fact_38 (by decide) ?_
          have h := wpO_some.mp h
          exact z_ireturn T C dX11_fact_40 (by decide) rfl h
  · have h := (wpO_ite.mp h).1 q5
    refine z_iconst C dX11_fact_10 ?_
    have h := wpO_some.mp h
    exact z_ireturn T C dX11_fact_11 (by decide) rfl h
noncomputable def fX11_ruleNumbered (x1 : Int) (σ : St) : Option (Option Nat) :=
  ck (inr ((gI σ 1210 0 0) - 1)) (bnk (fX11_within x1 0 ((gI σ 1210 0 0) - 1)) (fun r4 => if r4 = 0 then (some none) else (ck (0 ≤ x1 ∧ x1 < 6) (lt (gP σ 1209 0 x1.toNat) (fun r8 => some r8)))))
set_option maxRecDepth 20000 in
set_option maxHeartbeats 4000000 in
theorem ct_X11_ruleNumbered (x1 : Int) (hx1 : inr x1) : Ct yX11_ruleNumbered cX11_ruleNumbered 2 (some (.object RX6)) 1 (fun ad => [vo ad 11 (some 0), vi x1]) (pu (fX11_ruleNumbered x1)) (enR 6) okR (fun _ => True) := by
  refine Ct.of (by decide) (fun ad => Nat.le_of_ble_eq_true rfl) ?_
  intro κ ad σ X C T hpre h
  have C : Cx κ RX11 cX11_ruleNumbered 2 (some (.object RX6)) 1 := C
  have h := wpO_pu.mp h
  unfold fX11_ruleNumbered at h
  show Z κ (0, 0) (Qm κ ad σ (enR 6) okR X) 0 [(0, vo ad 11 (some 0)), (1, vi x1)] [] ad σ
  refine z_rng (fun hI1 hJ2 => ?_)
  refine z_iload_n C 1 dX11_ruleNumbered_0 rfl ?_
  refine z_iconst C dX11_ruleNumbered_1 ?_
  refine z_aload_n C 0 dX11_ruleNumbered_2 rfl ?_
  refine z_gIv (v := gI σ 1210 0 0) C li_X11_260 (sg_11 T) rfl dX11_ruleNumbered_3 ?_
  refine z_iconst C dX11_ruleNumbered_6 ?_
  obtain ⟨hk3, h⟩ := wpO_ck.mp h
  refine z_isub C dX11_ruleNumbered_7 ?_
  refine z_cSp (st := []) T C (ct_X11_within x1 0 ((gI σ 1210 0 0) - 1) hx1 (by decide) hk3) lm_X11_83 ls_X11_within dX11_ruleNumbered_8 rfl rfl trivial (by decide) (Nat.le_of_ble_eq_true rfl) csOK_0 h (fun r4 hr5 h => ?_)
  show Z κ (0, 0) _ 11 _ [vi r4] ad σ
  refine z_if_eq C 23 (inr_b hr5) dX11_ruleNumbered_11 (by decide) (fun q6 => ?_) (fun q6 => ?_)
  · have h := (wpO_ite.mp h).1 q6
    refine z_null (K := 6) C dX11_ruleNumbered_23 ?_
    have h := wpO_some.mp h
    exact z_areturn T C dX11_ruleNumbered_24 rfl h
  · have h := (wpO_ite.mp h).2 q6
    refine z_aload_n C 0 dX11_ruleNumbered_14 rfl ?_
    refine z_gA T C li_X11_45 (sg_11 T) dX11_ruleNumbered_15 ?_
    refine z_iload_n C 1 dX11_ruleNumbered_18 rfl ?_
    obtain ⟨hb7, h⟩ := wpO_ck.mp h
    refine z_aald (K := 6) (t0 := 6) C ar_1209 (fun _ => rfl) (sg_1209 T) hx1 hb7 dX11_ruleNumbered_19 (fun r8 hr9 => ?_)
    have h := lt_elim h r8 hr9
    refine z_goto C 24 dX11_ruleNumbered_20 (by decide) ?_
    have h := wpO_some.mp h
    exact z_areturn T C dX11_ruleNumbered_24 rfl h
noncomputable def fX11_fault (x1 : Int) (σ : St) : Option (Int × St) :=
  bnk (fX11_ruleNumbered x1 σ) (fun r3 => mop r3 (fun j5 => ck (j5 < gN σ 6) (bnd (fX3_read j5 σ) (fun r8 σ10 => some (r8, σ10)))) (some ((-1), σ)))
set_option maxRecDepth 20000 in
set_option maxHeartbeats 4000000 in
theorem ct_X11_fault (x1 : Int) (hx1 : inr x1) : Ct yX11_fault cX11_fault 3 (some .int) 4 (fun ad => [vo ad 11 (some 0), vi x1]) (fX11_fault x1) enI okI (fun _ => True) := by
  refine Ct.of (by decide) (fun ad => Nat.le_of_ble_eq_true rfl) ?_
  intro κ ad σ X C T hpre h
  have C : Cx κ RX11 cX11_fault 3 (some .int) 4 := C
  unfold fX11_fault at h
  show Z κ (0, 0) (Qm κ ad σ enI okI X) 0 [(0, vo ad 11 (some 0)), (1, vi x1)] [] ad σ
  refine z_rng (fun hI1 hJ2 => ?_)
  refine z_aload_n C 0 dX11_fault_0 rfl ?_
  refine z_iload_n C 1 dX11_fault_1 rfl ?_
  refine z_cVp (st := []) T C (ct_X11_ruleNumbered x1 hx1) lm_X11_265 lv_vX11_ruleNumbered dX11_fault_2 [vi x1] rfl rfl rfl rfl rfl (sg_11 T) trivial (by decide) (Nat.le_of_ble_eq_true rfl) csOK_0 h (fun r3 hr4 h => ?_)
  show Z κ (0, 0) _ 5 _ [vo ad 6 r3] ad σ
  refine z_astore_n (lv2 := [(2, vo ad 6 r3), (0, vo ad 11 (some 0)), (1, vi x1)]) C dX11_fault_5 (by decide) rfl ?_
  refine z_aload_n C 0 dX11_fault_6 rfl ?_
  refine z_ifnonnull C 14 dX11_fault_7 (by decide) (fun j5 hr6 => ?_) (fun hr6 => ?_)
  · have h := (wpO_mop.mp h).1 j5 hr6
    subst hr6
    obtain ⟨hj7, h⟩ := wpO_ck.mp h
    refine z_aload_n C 1 dX11_fault_14 rfl ?_
    refine z_gR T C li_X11_52 (sg_11 T) dX11_fault_15 ?_
    refine z_aload_n C 0 dX11_fault_18 rfl ?_
    refine z_cV (st := []) T C (ct_X3_read j5) lm_X11_272 lv_vX3_read dX11_fault_19 [vo ad 6 (some j5)] rfl rfl rfl rfl rfl (sg_3 T) (nNl rfl (toN rfl hj7)) (by decide) (Nat.le_of_ble_eq_true rfl) csOK_0 h (fun r8 σ10 hr9 eN11 h => ?_)
    show Z κ (0, 0) _ 22 _ [vi r8] ad σ10
    refine z_rng (fun hI12 hJ13 => ?_)
    have h := wpO_some.mp h
    exact z_ireturn T C dX11_fault_22 hr9 eN11 h
  · have h := (wpO_mop.mp h).2 hr6
    subst hr6
    refine z_iconst C dX11_fault_10 ?_
    refine z_goto C 22 dX11_fault_11 (by decide) ?_
    have h := wpO_some.mp h
    exact z_ireturn T C dX11_fault_22 (by decide) rfl h
noncomputable def fX6_byteAt (x0 : Int) (x2 : Int) : Option Int :=
  ck (inr (8 * x2)) (some (l2i (jand (jushr x0 (8 * x2)) 255)))
set_option maxRecDepth 20000 in
set_option maxHeartbeats 4000000 in
theorem ct_X6_byteAt (x0 : Int) (x2 : Int) (hx0 : inq x0) (hx2 : inr x2) : Ct yX6_byteAt cX6_byteAt 3 (some .int) 0 (fun ad => [vj x0, vi x2]) (pu (fun _ => fX6_byteAt x0 x2)) enI okI (fun _ => True) := by
  refine Ct.of (by decide) (fun ad => Nat.le_of_ble_eq_true rfl) ?_
  intro κ ad σ X C T hpre h
  have C : Cx κ RX6 cX6_byteAt 3 (some .int) 0 := C
  have h := wpO_pu.mp h
  unfold fX6_byteAt at h
  show Z κ (0, 0) (Qm κ ad σ enI okI X) 0 [(0, vj x0), (2, vi x2)] [] ad σ
  refine z_lload_n C 0 dX6_byteAt_0 rfl ?_
  refine z_bipush C dX6_byteAt_1 (by decide) ?_
  refine z_iload_n C 1 dX6_byteAt_3 rfl ?_
  obtain ⟨hk1, h⟩ := wpO_ck.mp h
  refine z_imul C dX6_byteAt_4 ?_
  refine z_lushr C dX6_byteAt_5 ?_
  refine z_ldc2_w C lc_X6_30 dX6_byteAt_6 ?_
  refine z_land C dX6_byteAt_9 ?_
  refine z_l2i C dX6_byteAt_10 ?_
  have h := wpO_some.mp h
  exact z_ireturn T C dX6_byteAt_11 (inr_l2i _) rfl h
noncomputable def fX6_append_j69 (x0 : Nat) (x3 : Int) (σ1 : St) : Option (Int × St) :=
  ck (inr ((gI σ1 703 x0 0) + x3)) (some ((gI σ1 703 x0 0) + x3, sI σ1 703 x0 0 ((gI σ1 703 x0 0) + x3)))
noncomputable def fX6_append_l39 (x0 : Nat) (x1 : Int) (x3 : Int) (x4 : Int) (σ1 : St) : Option ((Int × St) ⊕ St) :=
  if x3 ≤ x4 then (some (.inr σ1)) else (ck (inr ((gI σ1 703 x0 0) + x4)) (bnk (fX6_byteAt x1 x4) (fun r8 => ck (0 ≤ (gI σ1 703 x0 0) + x4 ∧ (gI σ1 703 x0 0) + x4 < 80) (ck (inr (x4 + 1)) (some (.inl ((x4 + 1, sI σ1 702 x0 (((gI σ1 703 x0 0) + x4).toNat) r8))))))))
noncomputable def fX6_append_j39 (x0 : Nat) (x1 : Int) (x3 : Int) (x4 : Int) (σ1 : St) : Option (Int × St) :=
  bnk (wh (fun s => fX6_append_l39 x0 x1 x3 s.1 s.2) ((x4, σ1))) (fun e => fX6_append_j69 x0 x3 e)
noncomputable def fX6_append_j22 (x0 : Nat) (x1 : Int) (x3 : Int) (σ1 : St) : Option (Int × St) :=
  ck (inr ((gI σ1 703 x0 0) + x3)) (if (gI σ1 703 x0 0) + x3 ≤ 80 then (fX6_append_j39 x0 x1 x3 0 σ1) else (some ((-4), σ1)))
noncomputable def fX6_append_l2 (x0 : Nat) (x1 : Int) (σ1 : St) (x3 : Int) : Option (Int ⊕ Int) :=
  if 8 ≤ x3 then (some (.inr x3)) else (bnk (fX6_byteAt x1 x3) (fun r19 => if r19 = 0 then (some (.inr x3)) else (ck (inr (x3 + 1)) (some (.inl (x3 + 1))))))
noncomputable def fX6_append_j2 (x0 : Nat) (x1 : Int) (x3 : Int) (σ1 : St) : Option (Int × St) :=
  bnk (wh (fun s => fX6_append_l2 x0 x1 σ1 s) x3) (fun e => fX6_append_j22 x0 x1 e σ1)
noncomputable def fX6_append (x0 : Nat) (x1 : Int) (σ : St) : Option (Int × St) :=
  fX6_append_j2 x0 x1 0 σ
set_option maxRecDepth 20000 in
set_option maxHeartbeats 4000000 in
theorem ct_X6_append (x0 : Nat) (x1 : Int) (hx1 : inq x1) : Ct yX6_append cX6_append 5 (some .int) 1 (fun ad => [vo ad 6 (some x0), vj x1]) (fX6_append x0 x1) enI okI (fun σ => x0 < gN σ 6) := by
  refine Ct.of (by decide) (fun ad => Nat.le_of_ble_eq_true rfl) ?_
  intro κ ad σ X C T hpre h
  have C : Cx κ RX6 cX6_append 5 (some .int) 1 := C
  have hx0 : x0 < gN σ 6 := hpre
  unfold fX6_append at h
  have J69 : ∀ (x0 : Nat) (x3 : Int) (σ1 : St), x0 < gN σ 6 → inr x3 → σ1.2.2.2 = σ.2.2.2 → wpO (fX6_append_j69 x0 x3 σ1) (fun q => X q.1 q.2) → Z κ (0, 0) (Qm κ ad σ enI okI X) 69 [(0, vo ad 6 (some x0)), (3, vi x3)] [] ad σ1 := by
    intro x0 x3 σ1 hx0 hx3 eN1 h
    unfold fX6_append_j69 at h
    refine z_rng (fun hI1 hJ2 => ?_)
    refine z_aload_n C 0 dX6_append_69 rfl ?_
    refine z_dup C dX6_append_70 rfl ?_
    refine z_gIv (v := gI σ1 703 x0 0) C li_X6_27 (nN eN1 hx0) rfl dX6_append_71 ?_
    refine z_iload_n C 1 dX6_append_74 rfl ?_
    obtain ⟨hk3, h⟩ := wpO_ck.mp h
    refine z_iadd C dX6_append_75 ?_
    refine z_pI C lq_X6_27 (nN eN1 hx0) hk3 dX6_append_76 ?_
    refine z_aload_n C 0 dX6_append_79 rfl ?_
    refine z_gIv (v := (gI σ1 703 x0 0) + x3) C li_X6_27 (nN eN1 hx0) gs dX6_append_80 ?_
    have h := wpO_some.mp h
    exact z_ireturn T C dX6_append_83 hk3 eN1 h
  have J39 : ∀ (x0 : Nat) (x1 : Int) (x3 : Int) (x4 : Int) (σ1 : St), x0 < gN σ 6 → inq x1 → inr x3 → inr x4 → σ1.2.2.2 = σ.2.2.2 → wpO (fX6_append_j39 x0 x1 x3 x4 σ1) (fun q => X q.1 q.2) → Z κ (0, 0) (Qm κ ad σ enI okI X) 39 [(0, vo ad 6 (some x0)), (1, vj x1), (3, vi x3), (4, vi x4)] [] ad σ1 := by
    intro x0 x1 x3 x4 σ1 hx0 hx1 hx3 hx4 eN1 h
    unfold fX6_append_j39 at h
    have step : ∀ (P39 : (Int × St) → Prop) (Q39 : St → Prop), (∀ (x4 : Int) (σ1 : St), P39 ((x4, σ1)) → inr x4 → σ1.2.2.2 = σ.2.2.2 → Z κ (0, 0) (Qm κ ad σ enI okI X) 39 [(0, vo ad 6 (some x0)), (1, vj x1), (3, vi x3), (4, vi x4)] [] ad σ1) → (∀ (σ1 : St), Q39 (σ1) → σ1.2.2.2 = σ.2.2.2 → Z κ (0, 0) (Qm κ ad σ enI okI X) 69 [(0, vo ad 6 (some x0)), (3, vi x3)] [] ad σ1) → ∀ (x4 : Int) (σ1 : St), inr x4 → σ1.2.2.2 = σ.2.2.2 → wpO (fX6_append_l39 x0 x1 x3 x4 σ1) (onS P39 Q39) → Z κ (0, 0) (Qm κ ad σ enI okI X) 39 [(0, vo ad 6 (some x0)), (1, vj x1), (3, vi x3), (4, vi x4)] [] ad σ1 := by
      intro P39 Q39 hP39 hE39_69 x4 σ1 hx4 eN1 h
      unfold fX6_append_l39 at h
      refine z_rng (fun hI4 hJ5 => ?_)
      refine z_iload C 3 dX6_append_39 rfl ?_
      refine z_iload_n C 2 dX6_append_41 rfl ?_
      refine z_icmp_ge C 69 hx4 hx3 dX6_append_42 (by decide) (fun q6 => ?_) (fun q6 => ?_)
      · have h := (wpO_ite.mp h).1 q6
        refine z_sub [0, 2] rfl ?_
        have h := wpO_some.mp h
        exact hE39_69 σ1 h eN1
      · have h := (wpO_ite.mp h).2 q6
        refine z_aload_n C 0 dX6_append_45 rfl ?_
        refine z_gA T C li_X6_16 (nN eN1 hx0) dX6_append_46 ?_
        refine z_aload_n C 0 dX6_append_49 rfl ?_
        refine z_gIv (v := gI σ1 703 x0 0) C li_X6_27 (nN eN1 hx0) rfl dX6_append_50 ?_
        refine z_iload C 3 dX6_append_53 rfl ?_
        obtain ⟨hk7, h⟩ := wpO_ck.mp h
        refine z_iadd C dX6_append_55 ?_
        refine z_lload_n C 1 dX6_append_56 rfl ?_
        refine z_iload C 3 dX6_append_57 rfl ?_
        refine z_cSp (st := [vi ((gI σ1 703 x0 0) + x4), vo ad 702 (some x0)]) T C (ct_X6_byteAt x1 x4 hx1 hx4) lm_X6_23 ls_X6_byteAt dX6_append_59 rfl rfl trivial (by decide) (Nat.le_of_ble_eq_true rfl) csOK_0 h (fun r8 hr9 h => ?_)
        show Z κ (0, 0) _ 62 _ [vi r8, vi ((gI σ1 703 x0 0) + x4), vo ad 702 (some x0)] ad σ1
        obtain ⟨hb10, h⟩ := wpO_ck.mp h
        refine z_iastore C ar_702 (nN7 T eN1 hx0) hk7 hb10 hr9 dX6_append_62 ?_
        obtain ⟨hk11, h⟩ := wpO_ck.mp h
        refine z_iinc (lv2 := [(4, vi (x4 + 1)), (0, vo ad 6 (some x0)), (1, vj x1), (3, vi x3)]) C 3 dX6_append_63 rfl (by decide) rfl ?_
        refine z_goto C 39 dX6_append_66 (by decide) ?_
        refine z_sub [1, 2, 3, 0] rfl ?_
        have h := wpO_some.mp h
        exact hP39 (x4 + 1) (sI σ1 702 x0 (((gI σ1 703 x0 0) + x4).toNat) r8) h hk11 eN1
    exact wh_ind (P := fun s : (Int × St) => inr s.1 → s.2.2.2.2 = σ.2.2.2 → Z κ (0, 0) (Qm κ ad σ enI okI X) 39 [(0, vo ad 6 (some x0)), (1, vj x1), (3, vi x3), (4, vi s.1)] [] ad s.2) (fun s hs g0 g1 => step _ _ (fun _ _ hp => hp) (fun σ1 hq eN1 => J69 x0 x3 σ1 hx0 hx3 eN1 hq) s.1 s.2 g0 g1 hs) ((x4, σ1)) (wpO_bnk.mp h) hx4 eN1
  have J22 : ∀ (x0 : Nat) (x1 : Int) (x3 : Int) (σ1 : St), x0 < gN σ 6 → inq x1 → inr x3 → σ1.2.2.2 = σ.2.2.2 → wpO (fX6_append_j22 x0 x1 x3 σ1) (fun q => X q.1 q.2) → Z κ (0, 0) (Qm κ ad σ enI okI X) 22 [(0, vo ad 6 (some x0)), (1, vj x1), (3, vi x3)] [] ad σ1 := by
    intro x0 x1 x3 σ1 hx0 hx1 hx3 eN1 h
    unfold fX6_append_j22 at h
    refine z_rng (fun hI12 hJ13 => ?_)
    refine z_aload_n C 0 dX6_append_22 rfl ?_
    refine z_gIv (v := gI σ1 703 x0 0) C li_X6_27 (nN eN1 hx0) rfl dX6_append_23 ?_
    refine z_iload_n C 2 dX6_append_26 rfl ?_
    obtain ⟨hk14, h⟩ := wpO_ck.mp h
    refine z_iadd C dX6_append_27 ?_
    refine z_bipush C dX6_append_28 (by decide) ?_
    refine z_icmp_le C 36 hk14 (by decide) dX6_append_30 (by decide) (fun q15 => ?_) (fun q15 => ?_)
    · have h := (wpO_ite.mp h).1 q15
      refine z_iconst C dX6_append_36 ?_
      refine z_istore (lv2 := [(4, vi 0), (0, vo ad 6 (some x0)), (1, vj x1), (3, vi x3)]) C dX6_append_37 (by decide) rfl ?_
      refine z_sub [1, 2, 3, 0] rfl ?_
      exact J39 x0 x1 x3 0 σ1 hx0 hx1 hx3 (by decide) eN1 h
    · have h := (wpO_ite.mp h).2 q15
      refine z_bipush C dX6_append_33 (by decide) ?_
      have h := wpO_some.mp h
      exact z_ireturn T C dX6_append_35 (by decide) eN1 h
  have J2 : ∀ (x0 : Nat) (x1 : Int) (x3 : Int) (σ1 : St), x0 < gN σ 6 → inq x1 → inr x3 → σ1.2.2.2 = σ.2.2.2 → wpO (fX6_append_j2 x0 x1 x3 σ1) (fun q => X q.1 q.2) → Z κ (0, 0) (Qm κ ad σ enI okI X) 2 [(0, vo ad 6 (some x0)), (1, vj x1), (3, vi x3)] [] ad σ1 := by
    intro x0 x1 x3 σ1 hx0 hx1 hx3 eN1 h
    unfold fX6_append_j2 at h
    have step : ∀ (P2 : Int → Prop) (Q2 : Int → Prop), (∀ (x3 : Int), P2 x3 → inr x3 → Z κ (0, 0) (Qm κ ad σ enI okI X) 2 [(0, vo ad 6 (some x0)), (1, vj x1), (3, vi x3)] [] ad σ1) → (∀ (x3 : Int), Q2 (x3) → inr x3 → Z κ (0, 0) (Qm κ ad σ enI okI X) 22 [(0, vo ad 6 (some x0)), (1, vj x1), (3, vi x3)] [] ad σ1) → ∀ (x3 : Int), inr x3 → wpO (fX6_append_l2 x0 x1 σ1 x3) (onS P2 Q2) → Z κ (0, 0) (Qm κ ad σ enI okI X) 2 [(0, vo ad 6 (some x0)), (1, vj x1), (3, vi x3)] [] ad σ1 := by
      intro P2 Q2 hP2 hE2_22 x3 hx3 h
      unfold fX6_append_l2 at h
      refine z_rng (fun hI16 hJ17 => ?_)
      refine z_iload_n C 2 dX6_append_2 rfl ?_
      refine z_bipush C dX6_append_3 (by decide) ?_
      refine z_icmp_ge C 22 hx3 (by decide) dX6_append_5 (by decide) (fun q18 => ?_) (fun q18 => ?_)
      · have h := (wpO_ite.mp h).1 q18
        have h := wpO_some.mp h
        exact hE2_22 x3 h hx3
      · have h := (wpO_ite.mp h).2 q18
        refine z_lload_n C 1 dX6_append_8 rfl ?_
        refine z_iload_n C 2 dX6_append_9 rfl ?_
        refine z_cSp (st := []) T C (ct_X6_byteAt x1 x3 hx1 hx3) lm_X6_23 ls_X6_byteAt dX6_append_10 rfl rfl trivial (by decide) (Nat.le_of_ble_eq_true rfl) csOK_0 h (fun r19 hr20 h => ?_)
        show Z κ (0, 0) _ 13 _ [vi r19] ad σ1
        refine z_if_eq C 22 hr20 dX6_append_13 (by decide) (fun q21 => ?_) (fun q21 => ?_)
        · have h := (wpO_ite.mp h).1 q21
          have h := wpO_some.mp h
          exact hE2_22 x3 h hx3
        · have h := (wpO_ite.mp h).2 q21
          obtain ⟨hk22, h⟩ := wpO_ck.mp h
          refine z_iinc (lv2 := [(3, vi (x3 + 1)), (0, vo ad 6 (some x0)), (1, vj x1)]) C 2 dX6_append_16 rfl (by decide) rfl ?_
          refine z_goto C 2 dX6_append_19 (by decide) ?_
          refine z_sub [1, 2, 0] rfl ?_
          have h := wpO_some.mp h
          exact hP2 (x3 + 1) h hk22
    exact wh_ind (P := fun s : Int => inr s → Z κ (0, 0) (Qm κ ad σ enI okI X) 2 [(0, vo ad 6 (some x0)), (1, vj x1), (3, vi s)] [] ad σ1) (fun s hs g0 => step _ _ (fun _ hp => hp) (fun x3 hq hx3 => J22 x0 x1 x3 σ1 hx0 hx1 hx3 eN1 hq) s g0 hs) x3 (wpO_bnk.mp h) hx3
  show Z κ (0, 0) (Qm κ ad σ enI okI X) 0 [(0, vo ad 6 (some x0)), (1, vj x1)] [] ad σ
  refine z_rng (fun hI23 hJ24 => ?_)
  refine z_iconst C dX6_append_0 ?_
  refine z_istore_n (lv2 := [(3, vi 0), (0, vo ad 6 (some x0)), (1, vj x1)]) C dX6_append_1 (by decide) rfl ?_
  refine z_sub [1, 2, 0] rfl ?_
  exact J2 x0 x1 0 σ hx0 hx1 (by decide) rfl h
noncomputable def fX11_feed (x1 : Int) (x2 : Int) (σ : St) : Option (Int × St) :=
  bnk (fX11_ruleNumbered x1 σ) (fun r3 => mop r3 (fun j5 => ck (j5 < gN σ 6) (bnd (fX6_append j5 x2 σ) (fun r8 σ10 => some (r8, σ10)))) (some ((-1), σ)))
set_option maxRecDepth 20000 in
set_option maxHeartbeats 4000000 in
theorem ct_X11_feed (x1 : Int) (x2 : Int) (hx1 : inr x1) (hx2 : inq x2) : Ct yX11_feed cX11_feed 5 (some .int) 2 (fun ad => [vo ad 11 (some 0), vi x1, vj x2]) (fX11_feed x1 x2) enI okI (fun _ => True) := by
  refine Ct.of (by decide) (fun ad => Nat.le_of_ble_eq_true rfl) ?_
  intro κ ad σ X C T hpre h
  have C : Cx κ RX11 cX11_feed 5 (some .int) 2 := C
  unfold fX11_feed at h
  show Z κ (0, 0) (Qm κ ad σ enI okI X) 0 [(0, vo ad 11 (some 0)), (1, vi x1), (2, vj x2)] [] ad σ
  refine z_rng (fun hI1 hJ2 => ?_)
  refine z_aload_n C 0 dX11_feed_0 rfl ?_
  refine z_iload_n C 1 dX11_feed_1 rfl ?_
  refine z_cVp (st := []) T C (ct_X11_ruleNumbered x1 hx1) lm_X11_265 lv_vX11_ruleNumbered dX11_feed_2 [vi x1] rfl rfl rfl rfl rfl (sg_11 T) trivial (by decide) (Nat.le_of_ble_eq_true rfl) csOK_0 h (fun r3 hr4 h => ?_)
  show Z κ (0, 0) _ 5 _ [vo ad 6 r3] ad σ
  refine z_astore (lv2 := [(4, vo ad 6 r3), (0, vo ad 11 (some 0)), (1, vi x1), (2, vj x2)]) C dX11_feed_5 (by decide) rfl ?_
  refine z_aload C 0 dX11_feed_7 rfl ?_
  refine z_ifnonnull C 16 dX11_feed_9 (by decide) (fun j5 hr6 => ?_) (fun hr6 => ?_)
  · have h := (wpO_mop.mp h).1 j5 hr6
    subst hr6
    obtain ⟨hj7, h⟩ := wpO_ck.mp h
    refine z_aload C 0 dX11_feed_16 rfl ?_
    refine z_lload_n C 3 dX11_feed_18 rfl ?_
    refine z_cV (st := []) T C (ct_X6_append j5 x2 hx2) lm_X11_269 lv_vX6_append dX11_feed_19 [vj x2] rfl rfl rfl rfl rfl (nN rfl (toN rfl hj7)) (nNl rfl (toN rfl hj7)) (by decide) (Nat.le_of_ble_eq_true rfl) csOK_0 h (fun r8 σ10 hr9 eN11 h => ?_)
    show Z κ (0, 0) _ 22 _ [vi r8] ad σ10
    refine z_rng (fun hI12 hJ13 => ?_)
    have h := wpO_some.mp h
    exact z_ireturn T C dX11_feed_22 hr9 eN11 h
  · have h := (wpO_mop.mp h).2 hr6
    subst hr6
    refine z_iconst C dX11_feed_12 ?_
    refine z_goto C 22 dX11_feed_13 (by decide) ?_
    have h := wpO_some.mp h
    exact z_ireturn T C dX11_feed_22 (by decide) rfl h
noncomputable def fX11_isMarkSet (x0 : Int) : Option Int :=
  bnk (fX11_within x0 0 255) (fun r1 => some r1)
set_option maxRecDepth 20000 in
set_option maxHeartbeats 4000000 in
theorem ct_X11_isMarkSet (x0 : Int) (hx0 : inr x0) : Ct yX11_isMarkSet cX11_isMarkSet 1 (some .boolean) 1 (fun ad => [vi x0]) (pu (fun _ => fX11_isMarkSet x0)) enI okB (fun _ => True) := by
  refine Ct.of (by decide) (fun ad => Nat.le_of_ble_eq_true rfl) ?_
  intro κ ad σ X C T hpre h
  have C : Cx κ RX11 cX11_isMarkSet 1 (some .boolean) 1 := C
  have h := wpO_pu.mp h
  unfold fX11_isMarkSet at h
  show Z κ (0, 0) (Qm κ ad σ enI okB X) 0 [(0, vi x0)] [] ad σ
  refine z_iload_n C 0 dX11_isMarkSet_0 rfl ?_
  refine z_iconst C dX11_isMarkSet_1 ?_
  refine z_sipush C dX11_isMarkSet_2 (by decide) ?_
  refine z_cSp (st := []) T C (ct_X11_within x0 0 255 hx0 (by decide) (by decide)) lm_X11_83 ls_X11_within dX11_isMarkSet_5 rfl rfl trivial (by decide) (Nat.le_of_ble_eq_true rfl) csOK_0 h (fun r1 hr2 h => ?_)
  show Z κ (0, 0) _ 8 _ [vi r1] ad σ
  have h := wpO_some.mp h
  exact z_breturn T C dX11_isMarkSet_8 hr2 rfl h
noncomputable def fX11_isCard (x1 : Nat) (x2 : Int) (x3 : Int) (σ : St) : Option Int :=
  bnk (fX7_whereAt x1 (gI σ 1200 0 0) σ) (fun r3 => if r3 = 3 then (if iand (gI σ 805 x1 0) x2 = x2 then (if gI σ 802 x1 0 < x3 then (some 0) else (some 1)) else (some 0)) else (some 0))
set_option maxRecDepth 20000 in
set_option maxHeartbeats 4000000 in
theorem ct_X11_isCard (x1 : Nat) (x2 : Int) (x3 : Int) (hx2 : inr x2) (hx3 : inr x3) : Ct yX11_isCard cX11_isCard 4 (some .boolean) 1 (fun ad => [vo ad 11 (some 0), vo ad 7 (some x1), vi x2, vi x3]) (pu (fX11_isCard x1 x2 x3)) enI okB (fun σ => x1 < gN σ 7) := by
  refine Ct.of (by decide) (fun ad => Nat.le_of_ble_eq_true rfl) ?_
  intro κ ad σ X C T hpre h
  have C : Cx κ RX11 cX11_isCard 4 (some .boolean) 1 := C
  have h := wpO_pu.mp h
  have hx1 : x1 < gN σ 7 := hpre
  unfold fX11_isCard at h
  show Z κ (0, 0) (Qm κ ad σ enI okB X) 0 [(0, vo ad 11 (some 0)), (1, vo ad 7 (some x1)), (2, vi x2), (3, vi x3)] [] ad σ
  refine z_rng (fun hI1 hJ2 => ?_)
  refine z_aload_n C 1 dX11_isCard_0 rfl ?_
  refine z_aload_n C 0 dX11_isCard_1 rfl ?_
  refine z_gIv (v := gI σ 1200 0 0) C li_X11_87 (sg_11 T) rfl dX11_isCard_2 ?_
  refine z_cVp (st := []) T C (ct_X7_whereAt x1 (gI σ 1200 0 0) (hI1 1200 0 _)) lm_X11_166 lv_vX7_whereAt dX11_isCard_5 [vi (gI σ 1200 0 0)] rfl rfl rfl rfl rfl (nN rfl hx1) (nNl rfl hx1) (by decide) (Nat.le_of_ble_eq_true rfl) csOK_0 h (fun r3 hr4 h => ?_)
  show Z κ (0, 0) _ 8 _ [vi r3] ad σ
  refine z_iconst C dX11_isCard_8 ?_
  refine z_icmp_ne C 34 hr4 (by decide) dX11_isCard_9 (by decide) (fun q5 => ?_) (fun q5 => ?_)
  · have h := (wpO_ite.mp h).2 q5
    refine z_iconst C dX11_isCard_34 ?_
    have h := wpO_some.mp h
    exact z_breturn T C dX11_isCard_35 (by decide) rfl h
  · have h := (wpO_ite.mp h).1 q5
    refine z_aload_n C 1 dX11_isCard_12 rfl ?_
    refine z_gIv (v := gI σ 805 x1 0) C li_X11_160 (nN rfl hx1) rfl dX11_isCard_13 ?_
    refine z_iload_n C 2 dX11_isCard_16 rfl ?_
    refine z_iand C dX11_isCard_17 ?_
    refine z_iload_n C 2 dX11_isCard_18 rfl ?_
    refine z_icmp_ne C 34 (inr_iand _ _) hx2 dX11_isCard_19 (by decide) (fun q6 => ?_) (fun q6 => ?_)
    · have h := (wpO_ite.mp h).2 q6
      refine z_iconst C dX11_isCard_34 ?_
      have h := wpO_some.mp h
      exact z_breturn T C dX11_isCard_35 (by decide) rfl h
    · have h := (wpO_ite.mp h).1 q6
      refine z_aload_n C 1 dX11_isCard_22 rfl ?_
      refine z_gIv (v := gI σ 802 x1 0) C li_X11_151 (nN rfl hx1) rfl dX11_isCard_23 ?_
      refine z_iload_n C 3 dX11_isCard_26 rfl ?_
      refine z_icmp_lt C 34 (hI1 802 x1 _) hx3 dX11_isCard_27 (by decide) (fun q7 => ?_) (fun q7 => ?_)
      · have h := (wpO_ite.mp h).1 q7
        refine z_iconst C dX11_isCard_34 ?_
        have h := wpO_some.mp h
        exact z_breturn T C dX11_isCard_35 (by decide) rfl h
      · have h := (wpO_ite.mp h).2 q7
        refine z_iconst C dX11_isCard_30 ?_
        refine z_goto C 35 dX11_isCard_31 (by decide) ?_
        have h := wpO_some.mp h
        exact z_breturn T C dX11_isCard_35 (by decide) rfl h
noncomputable def fX11_find_j66 (σ : St) : Option Int :=
  some ((-9))
noncomputable def fX11_find_j54 (x5 : Int) (σ : St) : Option Int :=
  some x5
noncomputable def fX11_find_j60 (x1 : Int) (x2 : Int) (x3 : Int) (x4 : Int) (x5 : Int) (σ : St) : Option ((Int × Int) ⊕ (Int ⊕ Unit)) :=
  ck (inr (x5 + 1)) (some (.inl ((x4, x5 + 1))))
noncomputable def fX11_find_l23 (x1 : Int) (x2 : Int) (x3 : Int) (σ : St) (x4 : Int) (x5 : Int) : Option ((Int × Int) ⊕ (Int ⊕ Unit)) :=
  if gI σ 1204 0 0 ≤ x5 then (some (.inr (.inr (())))) else (ck (0 ≤ x5 ∧ x5 < 40) (lt (gP σ 1203 0 x5.toNat) (fun r12 => mop r12 (fun j14 => ck (j14 < gN σ 7) (bnk (fX11_isCard j14 x1 x2 σ) (fun r17 => if r17 = 0 then (fX11_find_j60 x1 x2 x3 x4 x5 σ) else (if x4 = x3 then (some (.inr (.inl x5))) else (ck (inr (x4 + 1)) (fX11_find_j60 x1 x2 x3 (x4 + 1) x5 σ)))))) none)))
noncomputable def fX11_find_j23 (x1 : Int) (x2 : Int) (x3 : Int) (x4 : Int) (x5 : Int) (σ : St) : Option Int :=
  bnk (wh (fun s => fX11_find_l23 x1 x2 x3 σ s.1 s.2) ((x4, x5))) (fun e => Sum.elim (fun a0 => fX11_find_j54 a0 σ) (fun b0 => fX11_find_j66 σ) e)
noncomputable def fX11_find (x1 : Int) (x2 : Int) (x3 : Int) (σ : St) : Option Int :=
  bnk (fX11_isMarkSet x1) (fun r24 => if r24 = 0 then (some ((-2))) else (bnk (fX11_isHour x2) (fun r27 => if r27 = 0 then (some ((-2))) else (fX11_find_j23 x1 x2 x3 0 0 σ))))
set_option maxRecDepth 20000 in
set_option maxHeartbeats 4000000 in
theorem ct_X11_find (x1 : Int) (x2 : Int) (x3 : Int) (hx1 : inr x1) (hx2 : inr x2) (hx3 : inr x3) : Ct yX11_find cX11_find 6 (some .int) 2 (fun ad => [vo ad 11 (some 0), vi x1, vi x2, vi x3]) (pu (fX11_find x1 x2 x3)) enI okI (fun _ => True) := by
  refine Ct.of (by decide) (fun ad => Nat.le_of_ble_eq_true rfl) ?_
  intro κ ad σ X C T hpre h
  have C : Cx κ RX11 cX11_find 6 (some .int) 2 := C
  have h := wpO_pu.mp h
  unfold fX11_find at h
  have J66 : wpO (fX11_find_j66 σ) (fun r => X r σ) → Z κ (0, 0) (Qm κ ad σ enI okI X) 66 [] [] ad σ := by
    intro h
    unfold fX11_find_j66 at h
    refine z_rng (fun hI1 hJ2 => ?_)
    refine z_bipush C dX11_find_66 (by decide) ?_
    have h := wpO_some.mp h
    exact z_ireturn T C dX11_find_68 (by decide) rfl h
  have J54 : ∀ (x5 : Int), inr x5 → wpO (fX11_find_j54 x5 σ) (fun r => X r σ) → Z κ (0, 0) (Qm κ ad σ enI okI X) 54 [(5, vi x5)] [] ad σ := by
    intro x5 hx5 h
    unfold fX11_find_j54 at h
    refine z_rng (fun hI3 hJ4 => ?_)
    refine z_iload C 0 dX11_find_54 rfl ?_
    have h := wpO_some.mp h
    exact z_ireturn T C dX11_find_56 hx5 rfl h
  have J23 : ∀ (x1 : Int) (x2 : Int) (x3 : Int) (x4 : Int) (x5 : Int), inr x1 → inr x2 → inr x3 → inr x4 → inr x5 → wpO (fX11_find_j23 x1 x2 x3 x4 x5 σ) (fun r => X r σ) → Z κ (0, 0) (Qm κ ad σ enI okI X) 23 [(0, vo ad 11 (some 0)), (1, vi x1), (2, vi x2), (3, vi x3), (4, vi x4), (5, vi x5)] [] ad σ := by
    intro x1 x2 x3 x4 x5 hx1 hx2 hx3 hx4 hx5 h
    unfold fX11_find_j23 at h
    have step : ∀ (P23 : (Int × Int) → Prop) (Q23 : (Int ⊕ Unit) → Prop), (∀ (x4 : Int) (x5 : Int), P23 ((x4, x5)) → inr x4 → inr x5 → Z κ (0, 0) (Qm κ ad σ enI okI X) 23 [(0, vo ad 11 (some 0)), (1, vi x1), (2, vi x2), (3, vi x3), (4, vi x4), (5, vi x5)] [] ad σ) → (∀ (x5 : Int), Q23 (.inl x5) → inr x5 → Z κ (0, 0) (Qm κ ad σ enI okI X) 54 [(5, vi x5)] [] ad σ) → (Q23 (.inr (())) → Z κ (0, 0) (Qm κ ad σ enI okI X) 66 [] [] ad σ) → ∀ (x4 : Int) (x5 : Int), inr x4 → inr x5 → wpO (fX11_find_l23 x1 x2 x3 σ x4 x5) (onS P23 Q23) → Z κ (0, 0) (Qm κ ad σ enI okI X) 23 [(0, vo ad 11 (some 0)), (1, vi x1), (2, vi x2), (3, vi x3), (4, vi x4), (5, vi x5)] [] ad σ := by
      intro P23 Q23 hP23 hE23_54 hE23_66 x4 x5 hx4 hx5 h
      unfold fX11_find_l23 at h
      have J60 : ∀ (x4 : Int) (x5 : Int), inr x4 → inr x5 → wpO (fX11_find_j60 x1 x2 x3 x4 x5 σ) (onS P23 Q23) → Z κ (0, 0) (Qm κ ad σ enI okI X) 60 [(0, vo ad 11 (some 0)), (1, vi x1), (2, vi x2), (3, vi x3), (4, vi x4), (5, vi x5)] [] ad σ := by
        intro x4 x5 hx4 hx5 h
        unfold fX11_find_j60 at h
        refine z_rng (fun hI5 hJ6 => ?_)
        obtain ⟨hk7, h⟩ := wpO_ck.mp h
        refine z_iinc (lv2 := [(5, vi (x5 + 1)), (0, vo ad 11 (some 0)), (1, vi x1), (2, vi x2), (3, vi x3), (4, vi x4)]) C 5 dX11_find_60 rfl (by decide) rfl ?_
        refine z_goto C 23 dX11_find_63 (by decide) ?_
        refine z_sub [1, 2, 3, 4, 5, 0] rfl ?_
        have h := wpO_some.mp h
        exact hP23 x4 (x5 + 1) h hx4 hk7
      refine z_rng (fun hI8 hJ9 => ?_)
      refine z_iload C 5 dX11_find_23 rfl ?_
      refine z_aload_n C 0 dX11_find_25 rfl ?_
      refine z_gIv (v := gI σ 1204 0 0) C li_X11_131 (sg_11 T) rfl dX11_find_26 ?_
      refine z_icmp_ge C 66 hx5 (hI8 1204 0 _) dX11_find_29 (by decide) (fun q10 => ?_) (fun q10 => ?_)
      · have h := (wpO_ite.mp h).1 q10
        refine z_sub [] rfl ?_
        have h := wpO_some.mp h
        exact hE23_66 h
      · have h := (wpO_ite.mp h).2 q10
        refine z_aload_n C 0 dX11_find_32 rfl ?_
        refine z_aload_n C 0 dX11_find_33 rfl ?_
        refine z_gA T C li_X11_25 (sg_11 T) dX11_find_34 ?_
        refine z_iload C 5 dX11_find_37 rfl ?_
        obtain ⟨hb11, h⟩ := wpO_ck.mp h
        refine z_aald (K := 7) (t0 := 4) C ar_1203 (fun _ => rfl) (sg_1203 T) hx5 hb11 dX11_find_39 (fun r12 hr13 => ?_)
        have h := lt_elim h r12 hr13
        refine z_iload_n C 1 dX11_find_40 rfl ?_
        refine z_iload_n C 2 dX11_find_41 rfl ?_
        obtain ⟨j14, hr15, h⟩ := mop_none h
        subst hr15
        obtain ⟨hj16, h⟩ := wpO_ck.mp h
        refine z_cVp (st := []) T C (ct_X11_isCard j14 x1 x2 hx1 hx2) lm_X11_196 lv_vX11_isCard dX11_find_42 [vo ad 7 (some j14), vi x1, vi x2] rfl rfl rfl rfl rfl (sg_11 T) (nNl rfl (toN rfl hj16)) (by decide) (Nat.le_of_ble_eq_true rfl) csOK_0 h (fun r17 hr18 h => ?_)
        show Z κ (0, 0) _ 45 _ [vi r17] ad σ
        refine z_if_eq C 60 (inr_b hr18) dX11_find_45 (by decide) (fun q19 => ?_) (fun q19 => ?_)
        · have h := (wpO_ite.mp h).1 q19
          exact J60 x4 x5 hx4 hx5 h
        · have h := (wpO_ite.mp h).2 q19
          refine z_iload C 4 dX11_find_48 rfl ?_
          refine z_iload_n C 3 dX11_find_50 rfl ?_
          refine z_icmp_ne C 57 hx4 hx3 dX11_find_51 (by decide) (fun q20 => ?_) (fun q20 => ?_)
          · have h := (wpO_ite.mp h).2 q20
            obtain ⟨hk21, h⟩ := wpO_ck.mp h
            refine z_iinc (lv2 := [(4, vi (x4 + 1)), (0, vo ad 11 (some 0)), (1, vi x1), (2, vi x2), (3, vi x3), (5, vi x5)]) C 4 dX11_find_57 rfl (by decide) rfl ?_
            refine z_sub [1, 2, 3, 4, 0, 5] rfl ?_
            exact J60 (x4 + 1) x5 hk21 hx5 h
          · have h := (wpO_ite.mp h).1 q20
            refine z_sub [5] rfl ?_
            have h := wpO_some.mp h
            exact hE23_54 x5 h hx5
    exact wh_ind (P := fun s : (Int × Int) => inr s.1 → inr s.2 → Z κ (0, 0) (Qm κ ad σ enI okI X) 23 [(0, vo ad 11 (some 0)), (1, vi x1), (2, vi x2), (3, vi x3), (4, vi s.1), (5, vi s.2)] [] ad σ) (fun s hs g0 g1 => step _ _ (fun _ _ hp => hp) (fun x5 hq hx5 => J54 x5 hx5 hq) (fun hq => J66 hq) s.1 s.2 g0 g1 hs) ((x4, x5)) (wpO_bnk.mp h) hx4 hx5
  show Z κ (0, 0) (Qm κ ad σ enI okI X) 0 [(0, vo ad 11 (some 0)), (1, vi x1), (2, vi x2), (3, vi x3)] [] ad σ
  refine z_rng (fun hI22 hJ23 => ?_)
  refine z_iload_n C 1 dX11_find_0 rfl ?_
  refine z_cSp (st := []) T C (ct_X11_isMarkSet x1 hx1) lm_X11_125 ls_X11_isMarkSet dX11_find_1 rfl rfl trivial (by decide) (Nat.le_of_ble_eq_true rfl) csOK_0 h (fun r24 hr25 h => ?_)
  show Z κ (0, 0) _ 4 _ [vi r24] ad σ
  refine z_if_eq C 14 (inr_b hr25) dX11_find_4 (by decide) (fun q26 => ?_) (fun q26 => ?_)
  · have h := (wpO_ite.mp h).1 q26
    refine z_bipush C dX11_find_14 (by decide) ?_
    have h := wpO_some.mp h
    exact z_ireturn T C dX11_find_16 (by decide) rfl h
  · have h := (wpO_ite.mp h).2 q26
    refine z_iload_n C 2 dX11_find_7 rfl ?_
    refine z_cSp (st := []) T C (ct_X11_isHour x2 hx2) lm_X11_94 ls_X11_isHour dX11_find_8 rfl rfl trivial (by decide) (Nat.le_of_ble_eq_true rfl) csOK_0 h (fun r27 hr28 h => ?_)
    show Z κ (0, 0) _ 11 _ [vi r27] ad σ
    refine z_if_ne C 17 (inr_b hr28) dX11_find_11 (by decide) (fun q29 => ?_) (fun q29 => ?_)
    · have h := (wpO_ite.mp h).2 q29
      refine z_iconst C dX11_find_17 ?_
      refine z_istore (lv2 := [(4, vi 0), (0, vo ad 11 (some 0)), (1, vi x1), (2, vi x2), (3, vi x3)]) C dX11_find_18 (by decide) rfl ?_
      refine z_iconst C dX11_find_20 ?_
      refine z_istore (lv2 := [(5, vi 0), (4, vi 0), (0, vo ad 11 (some 0)), (1, vi x1), (2, vi x2), (3, vi x3)]) C dX11_find_21 (by decide) rfl ?_
      refine z_sub [2, 3, 4, 5, 1, 0] rfl ?_
      exact J23 x1 x2 x3 0 0 hx1 hx2 hx3 (by decide) (by decide) h
    · have h := (wpO_ite.mp h).1 q29
      refine z_bipush C dX11_find_14 (by decide) ?_
      have h := wpO_some.mp h
      exact z_ireturn T C dX11_find_16 (by decide) rfl h
noncomputable def fX11_isWeek (x0 : Int) : Option Int :=
  bnk (fX11_within x0 0 8) (fun r1 => some r1)
set_option maxRecDepth 20000 in
set_option maxHeartbeats 4000000 in
theorem ct_X11_isWeek (x0 : Int) (hx0 : inr x0) : Ct yX11_isWeek cX11_isWeek 1 (some .boolean) 1 (fun ad => [vi x0]) (pu (fun _ => fX11_isWeek x0)) enI okB (fun _ => True) := by
  refine Ct.of (by decide) (fun ad => Nat.le_of_ble_eq_true rfl) ?_
  intro κ ad σ X C T hpre h
  have C : Cx κ RX11 cX11_isWeek 1 (some .boolean) 1 := C
  have h := wpO_pu.mp h
  unfold fX11_isWeek at h
  show Z κ (0, 0) (Qm κ ad σ enI okB X) 0 [(0, vi x0)] [] ad σ
  refine z_iload_n C 0 dX11_isWeek_0 rfl ?_
  refine z_iconst C dX11_isWeek_1 ?_
  refine z_bipush C dX11_isWeek_2 (by decide) ?_
  refine z_cSp (st := []) T C (ct_X11_within x0 0 8 hx0 (by decide) (by decide)) lm_X11_83 ls_X11_within dX11_isWeek_4 rfl rfl trivial (by decide) (Nat.le_of_ble_eq_true rfl) csOK_0 h (fun r1 hr2 h => ?_)
  show Z κ (0, 0) _ 7 _ [vi r1] ad σ
  have h := wpO_some.mp h
  exact z_breturn T C dX11_isWeek_7 hr2 rfl h
noncomputable def fX2_add (x1 : Int) (x2 : Int) (x3 : Int) (σ : St) : Option (Int × St) :=
  if gI σ 300 0 0 < 8 then (ck (0 ≤ gI σ 300 0 0 ∧ gI σ 300 0 0 < 8) (ck (0 ≤ gI σ 300 0 0 ∧ gI σ 300 0 0 < 8) (ck (0 ≤ gI σ 300 0 0 ∧ gI σ 300 0 0 < 8) (ck (inr ((gI σ 300 0 0) + 1)) (ck (inr (((gI σ 300 0 0) + 1) - 1)) (some (((gI σ 300 0 0) + 1) - 1, sI (sI (sI (sI (sI σ 301 0 ((gI σ 300 0 0).toNat) x1) 302 0 ((gI σ 300 0 0).toNat) x2) 303 0 ((gI σ 300 0 0).toNat) x3) 300 0 0 ((gI σ 300 0 0) + 1)) 308 0 0 0))))))) else (some ((-4), σ))
set_option maxRecDepth 20000 in
set_option maxHeartbeats 4000000 in
theorem ct_X2_add (x1 : Int) (x2 : Int) (x3 : Int) (hx1 : inr x1) (hx2 : inr x2) (hx3 : inr x3) : Ct yX2_add cX2_add 4 (some .int) 0 (fun ad => [vo ad 2 (some 0), vi x1, vi x2, vi x3]) (fX2_add x1 x2 x3) enI okI (fun _ => True) := by
  refine Ct.of (by decide) (fun ad => Nat.le_of_ble_eq_true rfl) ?_
  intro κ ad σ X C T hpre h
  have C : Cx κ RX2 cX2_add 4 (some .int) 0 := C
  unfold fX2_add at h
  show Z κ (0, 0) (Qm κ ad σ enI okI X) 0 [(0, vo ad 2 (some 0)), (1, vi x1), (2, vi x2), (3, vi x3)] [] ad σ
  refine z_rng (fun hI1 hJ2 => ?_)
  refine z_aload_n C 0 dX2_add_0 rfl ?_
  refine z_gIv (v := gI σ 300 0 0) C li_X2_35 (sg_2 T) rfl dX2_add_1 ?_
  refine z_bipush C dX2_add_4 (by decide) ?_
  refine z_icmp_lt C 12 (hI1 300 0 _) (by decide) dX2_add_6 (by decide) (fun q3 => ?_) (fun q3 => ?_)
  · have h := (wpO_ite.mp h).1 q3
    refine z_aload_n C 0 dX2_add_12 rfl ?_
    refine z_gA T C li_X2_9 (sg_2 T) dX2_add_13 ?_
    refine z_aload_n C 0 dX2_add_16 rfl ?_
    refine z_gIv (v := gI σ 300 0 0) C li_X2_35 (sg_2 T) rfl dX2_add_17 ?_
    refine z_iload_n C 1 dX2_add_20 rfl ?_
    obtain ⟨hb4, h⟩ := wpO_ck.mp h
    refine z_iastore C ar_301 (sg_301 T) (hI1 300 0 _) hb4 hx1 dX2_add_21 ?_
    refine z_aload_n C 0 dX2_add_22 rfl ?_
    refine z_gA T C li_X2_15 (sg_2 T) dX2_add_23 ?_
    refine z_aload_n C 0 dX2_add_26 rfl ?_
    refine z_gIv (v := gI σ 300 0 0) C li_X2_35 (sg_2 T) (gn (by decide) rfl) dX2_add_27 ?_
    refine z_iload_n C 2 dX2_add_30 rfl ?_
    obtain ⟨hb5, h⟩ := wpO_ck.mp h
    refine z_iastore C ar_302 (sg_302 T) (hI1 300 0 _) hb5 hx2 dX2_add_31 ?_
    refine z_aload_n C 0 dX2_add_32 rfl ?_
    refine z_gA T C li_X2_18 (sg_2 T) dX2_add_33 ?_
    refine z_aload_n C 0 dX2_add_36 rfl ?_
    refine z_gIv (v := gI σ 300 0 0) C li_X2_35 (sg_2 T) (gn (by decide) (gn (by decide) rfl)) dX2_add_37 ?_
    refine z_iload_n C 3 dX2_add_40 rfl ?_
    obtain ⟨hb6, h⟩ := wpO_ck.mp h
    refine z_iastore C ar_303 (sg_303 T) (hI1 300 0 _) hb6 hx3 dX2_add_41 ?_
    refine z_aload_n C 0 dX2_add_42 rfl ?_
    refine z_dup C dX2_add_43 rfl ?_
    refine z_gIv (v := gI σ 300 0 0) C li_X2_35 (sg_2 T) (gn (by decide) (gn (by decide) (gn (by decide) rfl))) dX2_add_44 ?_
    refine z_iconst C dX2_add_47 ?_
    obtain ⟨hk7, h⟩ := wpO_ck.mp h
    refine z_iadd C dX2_add_48 ?_
    refine z_pI C lq_X2_35 (sg_2 T) hk7 dX2_add_49 ?_
    refine z_aload_n C 0 dX2_add_52 rfl ?_
    refine z_iconst C dX2_add_53 ?_
    refine z_pB C lq_X2_38 (sg_2 T) (by decide) dX2_add_54 ?_
    refine z_aload_n C 0 dX2_add_57 rfl ?_
    refine z_gIv (v := (gI σ 300 0 0) + 1) C li_X2_35 (sg_2 T) (gn (by decide) gs) dX2_add_58 ?_
    refine z_iconst C dX2_add_61 ?_
    obtain ⟨hk8, h⟩ := wpO_ck.mp h
    refine z_isub C dX2_add_62 ?_
    have h := wpO_some.mp h
    exact z_ireturn T C dX2_add_63 hk8 rfl h
  · have h := (wpO_ite.mp h).2 q3
    refine z_bipush C dX2_add_9 (by decide) ?_
    have h := wpO_some.mp h
    exact z_ireturn T C dX2_add_11 (by decide) rfl h
noncomputable def fX11_hall (x1 : Int) (x2 : Int) (x3 : Int) (x4 : Int) (σ : St) : Option (Int × St) :=
  bnk (fX11_isLand x1) (fun r3 => if r3 = 0 then (some ((-1), σ)) else (bnk (fX11_isWeek x2) (fun r6 => if r6 = 0 then (some ((-2), σ)) else (bnk (fX11_isWeek x3) (fun r9 => if r9 = 0 then (some ((-2), σ)) else (if x3 < x2 then (some ((-2), σ)) else (bnk (fX11_within x4 1 9999) (fun r13 => if r13 = 0 then (some ((-2), σ)) else (bnd (fX2_add x2 x3 x4 σ) (fun r16 σ18 => some (r16, σ18)))))))))))
set_option maxRecDepth 20000 in
set_option maxHeartbeats 4000000 in
theorem ct_X11_hall (x1 : Int) (x2 : Int) (x3 : Int) (x4 : Int) (hx1 : inr x1) (hx2 : inr x2) (hx3 : inr x3) (hx4 : inr x4) : Ct yX11_hall cX11_hall 5 (some .int) 2 (fun ad => [vo ad 11 (some 0), vi x1, vi x2, vi x3, vi x4]) (fX11_hall x1 x2 x3 x4) enI okI (fun _ => True) := by
  refine Ct.of (by decide) (fun ad => Nat.le_of_ble_eq_true rfl) ?_
  intro κ ad σ X C T hpre h
  have C : Cx κ RX11 cX11_hall 5 (some .int) 2 := C
  unfold fX11_hall at h
  show Z κ (0, 0) (Qm κ ad σ enI okI X) 0 [(0, vo ad 11 (some 0)), (1, vi x1), (2, vi x2), (3, vi x3), (4, vi x4)] [] ad σ
  refine z_rng (fun hI1 hJ2 => ?_)
  refine z_iload_n C 1 dX11_hall_0 rfl ?_
  refine z_cSp (st := []) T C (ct_X11_isLand x1 hx1) lm_X11_280 ls_X11_isLand dX11_hall_1 rfl rfl trivial (by decide) (Nat.le_of_ble_eq_true rfl) csOK_0 h (fun r3 hr4 h => ?_)
  show Z κ (0, 0) _ 4 _ [vi r3] ad σ
  refine z_if_ne C 9 (inr_b hr4) dX11_hall_4 (by decide) (fun q5 => ?_) (fun q5 => ?_)
  · have h := (wpO_ite.mp h).2 q5
    refine z_iload_n C 2 dX11_hall_9 rfl ?_
    refine z_cSp (st := []) T C (ct_X11_isWeek x2 hx2) lm_X11_365 ls_X11_isWeek dX11_hall_10 rfl rfl trivial (by decide) (Nat.le_of_ble_eq_true rfl) csOK_0 h (fun r6 hr7 h => ?_)
    show Z κ (0, 0) _ 13 _ [vi r6] ad σ
    refine z_if_eq C 40 (inr_b hr7) dX11_hall_13 (by decide) (fun q8 => ?_) (fun q8 => ?_)
    · have h := (wpO_ite.mp h).1 q8
      refine z_bipush C dX11_hall_40 (by decide) ?_
      have h := wpO_some.mp h
      exact z_ireturn T C dX11_hall_42 (by decide) rfl h
    · have h := (wpO_ite.mp h).2 q8
      refine z_iload_n C 3 dX11_hall_16 rfl ?_
      refine z_cSp (st := []) T C (ct_X11_isWeek x3 hx3) lm_X11_365 ls_X11_isWeek dX11_hall_17 rfl rfl trivial (by decide) (Nat.le_of_ble_eq_true rfl) csOK_0 h (fun r9 hr10 h => ?_)
      show Z κ (0, 0) _ 20 _ [vi r9] ad σ
      refine z_if_eq C 40 (inr_b hr10) dX11_hall_20 (by decide) (fun q11 => ?_) (fun q11 => ?_)
      · have h := (wpO_ite.mp h).1 q11
        refine z_bipush C dX11_hall_40 (by decide) ?_
        have h := wpO_some.mp h
        exact z_ireturn T C dX11_hall_42 (by decide) rfl h
      · have h := (wpO_ite.mp h).2 q11
        refine z_iload_n C 3 dX11_hall_23 rfl ?_
        refine z_iload_n C 2 dX11_hall_24 rfl ?_
        refine z_icmp_lt C 40 hx3 hx2 dX11_hall_25 (by decide) (fun q12 => ?_) (fun q12 => ?_)
        · have h := (wpO_ite.mp h).1 q12
          refine z_bipush C dX11_hall_40 (by decide) ?_
          have h := wpO_some.mp h
          exact z_ireturn T C dX11_hall_42 (by decide) rfl h
        · have h := (wpO_ite.mp h).2 q12
          refine z_iload C 4 dX11_hall_28 rfl ?_
          refine z_iconst C dX11_hall_30 ?_
          refine z_sipush C dX11_hall_31 (by decide) ?_
          refine z_cSp (st := []) T C (ct_X11_within x4 1 9999 hx4 (by decide) (by decide)) lm_X11_83 ls_X11_within dX11_hall_34 rfl rfl trivial (by decide) (Nat.le_of_ble_eq_true rfl) csOK_0 h (fun r13 hr14 h => ?_)
          show Z κ (0, 0) _ 37 _ [vi r13] ad σ
          refine z_if_ne C 43 (inr_b hr14) dX11_hall_37 (by decide) (fun q15 => ?_) (fun q15 => ?_)
          · have h := (wpO_ite.mp h).2 q15
            refine z_aload_n C 0 dX11_hall_43 rfl ?_
            refine z_gR T C li_X11_79 (sg_11 T) dX11_hall_44 ?_
            refine z_iload_n C 2 dX11_hall_47 rfl ?_
            refine z_iload_n C 3 dX11_hall_48 rfl ?_
            refine z_iload C 4 dX11_hall_49 rfl ?_
            refine z_cV (st := []) T C (ct_X2_add x2 x3 x4 hx2 hx3 hx4) lm_X11_368 lv_vX2_add dX11_hall_51 [vi x2, vi x3, vi x4] rfl rfl rfl rfl rfl (sg_2 T) trivial (by decide) (Nat.le_of_ble_eq_true rfl) csOK_0 h (fun r16 σ18 hr17 eN19 h => ?_)
            show Z κ (0, 0) _ 54 _ [vi r16] ad σ18
            refine z_rng (fun hI20 hJ21 => ?_)
            have h := wpO_some.mp h
            exact z_ireturn T C dX11_hall_54 hr17 eN19 h
          · have h := (wpO_ite.mp h).1 q15
            refine z_bipush C dX11_hall_40 (by decide) ?_
            have h := wpO_some.mp h
            exact z_ireturn T C dX11_hall_42 (by decide) rfl h
  · have h := (wpO_ite.mp h).1 q5
    refine z_iconst C dX11_hall_7 ?_
    have h := wpO_some.mp h
    exact z_ireturn T C dX11_hall_8 (by decide) rfl h
noncomputable def fX11_isKind (x0 : Int) : Option Int :=
  bnk (fX11_within x0 0 2) (fun r1 => some r1)
set_option maxRecDepth 20000 in
set_option maxHeartbeats 4000000 in
theorem ct_X11_isKind (x0 : Int) (hx0 : inr x0) : Ct yX11_isKind cX11_isKind 1 (some .boolean) 1 (fun ad => [vi x0]) (pu (fun _ => fX11_isKind x0)) enI okB (fun _ => True) := by
  refine Ct.of (by decide) (fun ad => Nat.le_of_ble_eq_true rfl) ?_
  intro κ ad σ X C T hpre h
  have C : Cx κ RX11 cX11_isKind 1 (some .boolean) 1 := C
  have h := wpO_pu.mp h
  unfold fX11_isKind at h
  show Z κ (0, 0) (Qm κ ad σ enI okB X) 0 [(0, vi x0)] [] ad σ
  refine z_iload_n C 0 dX11_isKind_0 rfl ?_
  refine z_iconst C dX11_isKind_1 ?_
  refine z_iconst C dX11_isKind_2 ?_
  refine z_cSp (st := []) T C (ct_X11_within x0 0 2 hx0 (by decide) (by decide)) lm_X11_83 ls_X11_within dX11_isKind_3 rfl rfl trivial (by decide) (Nat.le_of_ble_eq_true rfl) csOK_0 h (fun r1 hr2 h => ?_)
  show Z κ (0, 0) _ 6 _ [vi r1] ad σ
  have h := wpO_some.mp h
  exact z_breturn T C dX11_isKind_6 hr2 rfl h
noncomputable def fX11_isSubject (x0 : Int) : Option Int :=
  bnk (fX11_within x0 0 15) (fun r1 => some r1)
set_option maxRecDepth 20000 in
set_option maxHeartbeats 4000000 in
theorem ct_X11_isSubject (x0 : Int) (hx0 : inr x0) : Ct yX11_isSubject cX11_isSubject 1 (some .boolean) 1 (fun ad => [vi x0]) (pu (fun _ => fX11_isSubject x0)) enI okB (fun _ => True) := by
  refine Ct.of (by decide) (fun ad => Nat.le_of_ble_eq_true rfl) ?_
  intro κ ad σ X C T hpre h
  have C : Cx κ RX11 cX11_isSubject 1 (some .boolean) 1 := C
  have h := wpO_pu.mp h
  unfold fX11_isSubject at h
  show Z κ (0, 0) (Qm κ ad σ enI okB X) 0 [(0, vi x0)] [] ad σ
  refine z_iload_n C 0 dX11_isSubject_0 rfl ?_
  refine z_iconst C dX11_isSubject_1 ?_
  refine z_bipush C dX11_isSubject_2 (by decide) ?_
  refine z_cSp (st := []) T C (ct_X11_within x0 0 15 hx0 (by decide) (by decide)) lm_X11_83 ls_X11_within dX11_isSubject_4 rfl rfl trivial (by decide) (Nat.le_of_ble_eq_true rfl) csOK_0 h (fun r1 hr2 h => ?_)
  show Z κ (0, 0) _ 7 _ [vi r1] ad σ
  have h := wpO_some.mp h
  exact z_breturn T C dX11_isSubject_7 hr2 rfl h
noncomputable def fX11_refuseLandDay (x0 : Int) (x1 : Int) : Option Int :=
  bnk (fX11_isLand x0) (fun r1 => if r1 = 0 then (some ((-1))) else (bnk (fX11_isDay x1) (fun r4 => if r4 = 0 then (some ((-2))) else (some 0))))
set_option maxRecDepth 20000 in
set_option maxHeartbeats 4000000 in
theorem ct_X11_refuseLandDay (x0 : Int) (x1 : Int) (hx0 : inr x0) (hx1 : inr x1) : Ct yX11_refuseLandDay cX11_refuseLandDay 2 (some .int) 2 (fun ad => [vi x0, vi x1]) (pu (fun _ => fX11_refuseLandDay x0 x1)) enI okI (fun _ => True) := by
  refine Ct.of (by decide) (fun ad => Nat.le_of_ble_eq_true rfl) ?_
  intro κ ad σ X C T hpre h
  have C : Cx κ RX11 cX11_refuseLandDay 2 (some .int) 2 := C
  have h := wpO_pu.mp h
  unfold fX11_refuseLandDay at h
  show Z κ (0, 0) (Qm κ ad σ enI okI X) 0 [(0, vi x0), (1, vi x1)] [] ad σ
  refine z_iload_n C 0 dX11_refuseLandDay_0 rfl ?_
  refine z_cSp (st := []) T C (ct_X11_isLand x0 hx0) lm_X11_280 ls_X11_isLand dX11_refuseLandDay_1 rfl rfl trivial (by decide) (Nat.le_of_ble_eq_true rfl) csOK_0 h (fun r1 hr2 h => ?_)
  show Z κ (0, 0) _ 4 _ [vi r1] ad σ
  refine z_if_ne C 9 (inr_b hr2) dX11_refuseLandDay_4 (by decide) (fun q3 => ?_) (fun q3 => ?_)
  · have h := (wpO_ite.mp h).2 q3
    refine z_iload_n C 1 dX11_refuseLandDay_9 rfl ?_
    refine z_cSp (st := []) T C (ct_X11_isDay x1 hx1) lm_X11_257 ls_X11_isDay dX11_refuseLandDay_10 rfl rfl trivial (by decide) (Nat.le_of_ble_eq_true rfl) csOK_0 h (fun r4 hr5 h => ?_)
    show Z κ (0, 0) _ 13 _ [vi r4] ad σ
    refine z_if_eq C 20 (inr_b hr5) dX11_refuseLandDay_13 (by decide) (fun q6 => ?_) (fun q6 => ?_)
    · have h := (wpO_ite.mp h).1 q6
      refine z_bipush C dX11_refuseLandDay_20 (by decide) ?_
      have h := wpO_some.mp h
      exact z_ireturn T C dX11_refuseLandDay_22 (by decide) rfl h
    · have h := (wpO_ite.mp h).2 q6
      refine z_iconst C dX11_refuseLandDay_16 ?_
      refine z_goto C 22 dX11_refuseLandDay_17 (by decide) ?_
      have h := wpO_some.mp h
      exact z_ireturn T C dX11_refuseLandDay_22 (by decide) rfl h
  · have h := (wpO_ite.mp h).1 q3
    refine z_iconst C dX11_refuseLandDay_7 ?_
    have h := wpO_some.mp h
    exact z_ireturn T C dX11_refuseLandDay_8 (by decide) rfl h
noncomputable def fX4_clearList (σ : St) : Option (Unit × St) :=
  some ((), sI (sI (sI (sI σ 504 0 0 0) 505 0 0 0) 506 0 0 0) 507 0 0 0)
set_option maxRecDepth 20000 in
set_option maxHeartbeats 4000000 in
theorem ct_X4_clearList  : Ct yX4_clearList cX4_clearList 1 none 0 (fun ad => [vo ad 4 (some 0)]) fX4_clearList enV okV (fun _ => True) := by
  refine Ct.of (by decide) (fun ad => Nat.le_of_ble_eq_true rfl) ?_
  intro κ ad σ X C T hpre h
  have C : Cx κ RX4 cX4_clearList 1 none 0 := C
  unfold fX4_clearList at h
  show Z κ (0, 0) (Qm κ ad σ enV okV X) 0 [(0, vo ad 4 (some 0))] [] ad σ
  refine z_rng (fun hI1 hJ2 => ?_)
  refine z_aload_n C 0 dX4_clearList_0 rfl ?_
  refine z_iconst C dX4_clearList_1 ?_
  refine z_pI C lq_X4_43 (sg_4 T) (by decide) dX4_clearList_2 ?_
  refine z_aload_n C 0 dX4_clearList_5 rfl ?_
  refine z_iconst C dX4_clearList_6 ?_
  refine z_pI C lq_X4_46 (sg_4 T) (by decide) dX4_clearList_7 ?_
  refine z_aload_n C 0 dX4_clearList_10 rfl ?_
  refine z_iconst C dX4_clearList_11 ?_
  refine z_pI C lq_X4_49 (sg_4 T) (by decide) dX4_clearList_12 ?_
  refine z_aload_n C 0 dX4_clearList_15 rfl ?_
  refine z_iconst C dX4_clearList_16 ?_
  refine z_pI C lq_X4_52 (sg_4 T) (by decide) dX4_clearList_17 ?_
  have h := wpO_some.mp h
  exact z_return T C dX4_clearList_20 rfl h
noncomputable def fX8_isReady_j32 (x0 : Nat) (σ : St) : Option Int :=
  if gI σ 905 x0 0 ≤ 0 then (some 0) else (some 1)
noncomputable def fX8_isReady_j24 (σ : St) : Option Int :=
  some 0
noncomputable def fX8_isReady_l2 (x0 : Nat) (x1 : Int) (σ : St) (x2 : Int) : Option (Int ⊕ (Unit ⊕ Unit)) :=
  if gI σ 905 x0 0 ≤ x2 then (some (.inr (.inr (())))) else (ck (0 ≤ x2 ∧ x2 < 6) (lt (gP σ 904 x0 x2.toNat) (fun r10 => mop r10 (fun j12 => ck (j12 < gN σ 7) (bnk (fX7_whereAt j12 x1 σ) (fun r15 => if r15 = 3 then (ck (inr (x2 + 1)) (some (.inl (x2 + 1)))) else (some (.inr (.inl (()))))))) none)))
noncomputable def fX8_isReady_j2 (x0 : Nat) (x1 : Int) (x2 : Int) (σ : St) : Option Int :=
  bnk (wh (fun s => fX8_isReady_l2 x0 x1 σ s) x2) (fun e => Sum.elim (fun a0 => fX8_isReady_j24 σ) (fun b0 => fX8_isReady_j32 x0 σ) e)
noncomputable def fX8_isReady (x0 : Nat) (x1 : Int) (σ : St) : Option Int :=
  fX8_isReady_j2 x0 x1 0 σ
set_option maxRecDepth 20000 in
set_option maxHeartbeats 4000000 in
theorem ct_X8_isReady (x0 : Nat) (x1 : Int) (hx1 : inr x1) : Ct yX8_isReady cX8_isReady 3 (some .boolean) 1 (fun ad => [vo ad 8 (some x0), vi x1]) (pu (fX8_isReady x0 x1)) enI okB (fun σ => x0 < gN σ 8) := by
  refine Ct.of (by decide) (fun ad => Nat.le_of_ble_eq_true rfl) ?_
  intro κ ad σ X C T hpre h
  have C : Cx κ RX8 cX8_isReady 3 (some .boolean) 1 := C
  have h := wpO_pu.mp h
  have hx0 : x0 < gN σ 8 := hpre
  unfold fX8_isReady at h
  have J32 : ∀ (x0 : Nat), x0 < gN σ 8 → wpO (fX8_isReady_j32 x0 σ) (fun r => X r σ) → Z κ (0, 0) (Qm κ ad σ enI okB X) 32 [(0, vo ad 8 (some x0))] [] ad σ := by
    intro x0 hx0 h
    unfold fX8_isReady_j32 at h
    refine z_rng (fun hI1 hJ2 => ?_)
    refine z_aload_n C 0 dX8_isReady_32 rfl ?_
    refine z_gIv (v := gI σ 905 x0 0) C li_X8_30 (nN rfl hx0) rfl dX8_isReady_33 ?_
    refine z_if_le C 43 (hI1 905 x0 _) dX8_isReady_36 (by decide) (fun q3 => ?_) (fun q3 => ?_)
    · have h := (wpO_ite.mp h).1 q3
      refine z_iconst C dX8_isReady_43 ?_
      have h := wpO_some.mp h
      exact z_breturn T C dX8_isReady_44 (by decide) rfl h
    · have h := (wpO_ite.mp h).2 q3
      refine z_iconst C dX8_isReady_39 ?_
      refine z_goto C 44 dX8_isReady_40 (by decide) ?_
      have h := wpO_some.mp h
      exact z_breturn T C dX8_isReady_44 (by decide) rfl h
  have J24 : wpO (fX8_isReady_j24 σ) (fun r => X r σ) → Z κ (0, 0) (Qm κ ad σ enI okB X) 24 [] [] ad σ := by
    intro h
    unfold fX8_isReady_j24 at h
    refine z_rng (fun hI4 hJ5 => ?_)
    refine z_iconst C dX8_isReady_24 ?_
    have h := wpO_some.mp h
    exact z_breturn T C dX8_isReady_25 (by decide) rfl h
  have J2 : ∀ (x0 : Nat) (x1 : Int) (x2 : Int), x0 < gN σ 8 → inr x1 → inr x2 → wpO (fX8_isReady_j2 x0 x1 x2 σ) (fun r => X r σ) → Z κ (0, 0) (Qm κ ad σ enI okB X) 2 [(0, vo ad 8 (some x0)), (1, vi x1), (2, vi x2)] [] ad σ := by
    intro x0 x1 x2 hx0 hx1 hx2 h
    unfold fX8_isReady_j2 at h
    have step : ∀ (P2 : Int → Prop) (Q2 : (Unit ⊕ Unit) → Prop), (∀ (x2 : Int), P2 x2 → inr x2 → Z κ (0, 0) (Qm κ ad σ enI okB X) 2 [(0, vo ad 8 (some x0)), (1, vi x1), (2, vi x2)] [] ad σ) → (Q2 (.inl (())) → Z κ (0, 0) (Qm κ ad σ enI okB X) 24 [] [] ad σ) → (Q2 (.inr (())) → Z κ (0, 0) (Qm κ ad σ enI okB X) 32 [(0, vo ad 8 (some x0))] [] ad σ) → ∀ (x2 : Int), inr x2 → wpO (fX8_isReady_l2 x0 x1 σ x2) (onS P2 Q2) → Z κ (0, 0) (Qm κ ad σ enI okB X) 2 [(0, vo ad 8 (some x0)), (1, vi x1), (2, vi x2)] [] ad σ := by
      intro P2 Q2 hP2 hE2_24 hE2_32 x2 hx2 h
      unfold fX8_isReady_l2 at h
      refine z_rng (fun hI6 hJ7 => ?_)
      refine z_iload_n C 2 dX8_isReady_2 rfl ?_
      refine z_aload_n C 0 dX8_isReady_3 rfl ?_
      refine z_gIv (v := gI σ 905 x0 0) C li_X8_30 (nN rfl hx0) rfl dX8_isReady_4 ?_
      refine z_icmp_ge C 32 hx2 (hI6 905 x0 _) dX8_isReady_7 (by decide) (fun q8 => ?_) (fun q8 => ?_)
      · have h := (wpO_ite.mp h).1 q8
        refine z_sub [0] rfl ?_
        have h := wpO_some.mp h
        exact hE2_32 h
      · have h := (wpO_ite.mp h).2 q8
        refine z_aload_n C 0 dX8_isReady_10 rfl ?_
        refine z_gA T C li_X8_11 (nN rfl hx0) dX8_isReady_11 ?_
        refine z_iload_n C 2 dX8_isReady_14 rfl ?_
        obtain ⟨hb9, h⟩ := wpO_ck.mp h
        refine z_aald (K := 7) (t0 := 4) C ar_904 (fun _ => rfl) (nN9 T rfl hx0) hx2 hb9 dX8_isReady_15 (fun r10 hr11 => ?_)
        have h := lt_elim h r10 hr11
        refine z_iload_n C 1 dX8_isReady_16 rfl ?_
        obtain ⟨j12, hr13, h⟩ := mop_none h
        subst hr13
        obtain ⟨hj14, h⟩ := wpO_ck.mp h
        refine z_cVp (st := []) T C (ct_X7_whereAt j12 x1 hx1) lm_X8_60 lv_vX7_whereAt dX8_isReady_17 [vi x1] rfl rfl rfl rfl rfl (nN rfl (toN rfl hj14)) (nNl rfl (toN rfl hj14)) (by decide) (Nat.le_of_ble_eq_true rfl) csOK_0 h (fun r15 hr16 h => ?_)
        show Z κ (0, 0) _ 20 _ [vi r15] ad σ
        refine z_iconst C dX8_isReady_20 ?_
        refine z_icmp_eq C 26 hr16 (by decide) dX8_isReady_21 (by decide) (fun q17 => ?_) (fun q17 => ?_)
        · have h := (wpO_ite.mp h).1 q17
          obtain ⟨hk18, h⟩ := wpO_ck.mp h
          refine z_iinc (lv2 := [(2, vi (x2 + 1)), (0, vo ad 8 (some x0)), (1, vi x1)]) C 2 dX8_isReady_26 rfl (by decide) rfl ?_
          refine z_goto C 2 dX8_isReady_29 (by decide) ?_
          refine z_sub [1, 2, 0] rfl ?_
          have h := wpO_some.mp h
          exact hP2 (x2 + 1) h hk18
        · have h := (wpO_ite.mp h).2 q17
          refine z_sub [] rfl ?_
          have h := wpO_some.mp h
          exact hE2_24 h
    exact wh_ind (P := fun s : Int => inr s → Z κ (0, 0) (Qm κ ad σ enI okB X) 2 [(0, vo ad 8 (some x0)), (1, vi x1), (2, vi s)] [] ad σ) (fun s hs g0 => step _ _ (fun _ hp => hp) (fun hq => J24 hq) (fun hq => J32 x0 hx0 hq) s g0 hs) x2 (wpO_bnk.mp h) hx2
  show Z κ (0, 0) (Qm κ ad σ enI okB X) 0 [(0, vo ad 8 (some x0)), (1, vi x1)] [] ad σ
  refine z_rng (fun hI19 hJ20 => ?_)
  refine z_iconst C dX8_isReady_0 ?_
  refine z_istore_n (lv2 := [(2, vi 0), (0, vo ad 8 (some x0)), (1, vi x1)]) C dX8_isReady_1 (by decide) rfl ?_
  refine z_sub [1, 2, 0] rfl ?_
  exact J2 x0 x1 0 hx0 hx1 (by decide) h
noncomputable def fX4_list_j125 (s1 : Int) (s2 : Int) (σ1 : St) : Option (Unit × St) :=
  ck (0 ≤ s1 ∧ s1 < 8) (ck (inr ((gI σ1 504 0 0) + 1)) (some ((), sI (sI σ1 509 0 s1.toNat s2) 504 0 0 ((gI σ1 504 0 0) + 1))))
noncomputable def fX4_list_j71 (x1 : Nat) (s1 : Int) (s2 : Int) (s3 : Int) (σ1 : St) : Option (Unit × St) :=
  ck (s3 = 0 ∨ s3 = 1) (bnk (fX11_withMember s1 s2 s3) (fun r8 => bnk (fX8_allFeet x1 (sI σ1 507 0 0 r8)) (fun r10 => ck (0 ≤ gI σ1 504 0 0 ∧ gI σ1 504 0 0 < 8) (bnk (fX11_hasMember (gI σ1 503 0 0) (gI σ1 900 x1 0)) (fun r13 => if r13 = 0 then (fX4_list_j125 (gI σ1 504 0 0) (gI σ1 903 x1 0) (sI (sI σ1 507 0 0 r8) 508 0 ((gI σ1 504 0 0).toNat) r10)) else (fX4_list_j125 (gI σ1 504 0 0) (idiv (gI σ1 903 x1 0) 2) (sI (sI σ1 507 0 0 r8) 508 0 ((gI σ1 504 0 0).toNat) r10)))))))
noncomputable def fX4_list_j70 (x1 : Nat) (s1 : Int) (s2 : Int) (σ1 : St) : Option (Unit × St) :=
  fX4_list_j71 x1 s1 s2 0 σ1
noncomputable def fX4_list (x1 : Nat) (x2 : Int) (x3 : Int) (σ : St) : Option (Unit × St) :=
  if gI σ 504 0 0 < 8 then (bnk (fX11_withMember (gI σ 505 0 0) (gI σ 504 0 0) x2) (fun r21 => bnk (fX11_withMember (gI σ 506 0 0) (gI σ 504 0 0) x3) (fun r23 => if gI σ 907 x1 0 = 0 then (fX4_list_j70 x1 (gI σ 507 0 0) (gI σ 504 0 0) (sI (sI σ 505 0 0 r21) 506 0 0 r23)) else (if x2 = 0 then (fX4_list_j70 x1 (gI σ 507 0 0) (gI σ 504 0 0) (sI (sI σ 505 0 0 r21) 506 0 0 r23)) else (if x3 = 0 then (fX4_list_j70 x1 (gI σ 507 0 0) (gI σ 504 0 0) (sI (sI σ 505 0 0 r21) 506 0 0 r23)) else (fX4_list_j71 x1 (gI σ 507 0 0) (gI σ 504 0 0) 1 (sI (sI σ 505 0 0 r21) 506 0 0 r23))))))) else (some ((), σ))
set_option maxRecDepth 20000 in
set_option maxHeartbeats 4000000 in
theorem ct_X4_list (x1 : Nat) (x2 : Int) (x3 : Int) (hx2 : x2 = 0 ∨ x2 = 1) (hx3 : x3 = 0 ∨ x3 = 1) : Ct yX4_list cX4_list 4 none 1 (fun ad => [vo ad 4 (some 0), vo ad 8 (some x1), vi x2, vi x3]) (fX4_list x1 x2 x3) enV okV (fun σ => x1 < gN σ 8) := by
  refine Ct.of (by decide) (fun ad => Nat.le_of_ble_eq_true rfl) ?_
  intro κ ad σ X C T hpre h
  have C : Cx κ RX4 cX4_list 4 none 1 := C
  have hx1 : x1 < gN σ 8 := hpre
  unfold fX4_list at h
  have J125 : ∀ (s1 : Int) (s2 : Int) (σ1 : St), inr s1 → inr s2 → σ1.2.2.2 = σ.2.2.2 → wpO (fX4_list_j125 s1 s2 σ1) (fun q => X q.1 q.2) → Z κ (0, 0) (Qm κ ad σ enV okV X) 125 [(0, vo ad 4 (some 0))] [vi s2, vi s1, vo ad 509 (some 0)] ad σ1 := by
    intro s1 s2 σ1 hs1 hs2 eN1 h
    unfold fX4_list_j125 at h
    refine z_rng (fun hI1 hJ2 => ?_)
    obtain ⟨hb3, h⟩ := wpO_ck.mp h
    refine z_iastore C ar_509 (sg_509 T) hs1 hb3 hs2 dX4_list_125 ?_
    refine z_aload_n C 0 dX4_list_126 rfl ?_
    refine z_dup C dX4_list_127 rfl ?_
    refine z_gIv (v := gI σ1 504 0 0) C li_X4_43 (sg_4 T) (gn (by decide) rfl) dX4_list_128 ?_
    refine z_iconst C dX4_list_131 ?_
    obtain ⟨hk4, h⟩ := wpO_ck.mp h
    refine z_iadd C dX4_list_132 ?_
    refine z_pI C lq_X4_43 (sg_4 T) hk4 dX4_list_133 ?_
    have h := wpO_some.mp h
    exact z_return T C dX4_list_136 eN1 h
  have J71 : ∀ (x1 : Nat) (s1 : Int) (s2 : Int) (s3 : Int) (σ1 : St), x1 < gN σ 8 → inr s1 → inr s2 → inr s3 → σ1.2.2.2 = σ.2.2.2 → wpO (fX4_list_j71 x1 s1 s2 s3 σ1) (fun q => X q.1 q.2) → Z κ (0, 0) (Qm κ ad σ enV okV X) 71 [(0, vo ad 4 (some 0)), (1, vo ad 8 (some x1))] [vi s3, vi s2, vi s1, vo ad 4 (some 0)] ad σ1 := by
    intro x1 s1 s2 s3 σ1 hx1 hs1 hs2 hs3 eN1 h
    unfold fX4_list_j71 at h
    refine z_rng (fun hI5 hJ6 => ?_)
    obtain ⟨hb7, h⟩ := wpO_ck.mp h
    refine z_cSp (st := [vo ad 4 (some 0)]) T C (ct_X11_withMember s1 s2 s3 hs1 hs2 hb7) lm_X4_35 ls_X11_withMember dX4_list_71 rfl rfl trivial (by decide) (Nat.le_of_ble_eq_true rfl) csOK_0 h (fun r8 hr9 h => ?_)
    show Z κ (0, 0) _ 74 _ [vi r8, vo ad 4 (some 0)] ad σ1
    refine z_pI C lq_X4_52 (sg_4 T) hr9 dX4_list_74 ?_
    refine z_aload_n C 0 dX4_list_77 rfl ?_
    refine z_gA T C li_X4_22 (sg_4 T) dX4_list_78 ?_
    refine z_aload_n C 0 dX4_list_81 rfl ?_
    refine z_gIv (v := gI σ1 504 0 0) C li_X4_43 (sg_4 T) (gn (by decide) rfl) dX4_list_82 ?_
    refine z_aload_n C 1 dX4_list_85 rfl ?_
    refine z_cVp (st := [vi (gI σ1 504 0 0), vo ad 508 (some 0)]) T C (ct_X8_allFeet x1) lm_X4_61 lv_vX8_allFeet dX4_list_86 [] rfl rfl rfl rfl rfl (nN eN1 hx1) (nNl eN1 hx1) (by decide) (Nat.le_of_ble_eq_true rfl) csOK_0 h (fun r10 hr11 h => ?_)
    show Z κ (0, 0) _ 89 _ [vi r10, vi (gI σ1 504 0 0), vo ad 508 (some 0)] ad (sI σ1 507 0 0 r8)
    obtain ⟨hb12, h⟩ := wpO_ck.mp h
    refine z_iastore C ar_508 (sg_508 T) (hI5 504 0 _) hb12 hr11 dX4_list_89 ?_
    refine z_aload_n C 0 dX4_list_90 rfl ?_
    refine z_gA T C li_X4_25 (sg_4 T) dX4_list_91 ?_
    refine z_aload_n C 0 dX4_list_94 rfl ?_
    refine z_gIv (v := gI σ1 504 0 0) C li_X4_43 (sg_4 T) (gn (by decide) (gn (by decide) rfl)) dX4_list_95 ?_
    refine z_aload_n C 0 dX4_list_98 rfl ?_
    refine z_gIv (v := gI σ1 503 0 0) C li_X4_65 (sg_4 T) (gn (by decide) (gn (by decide) rfl)) dX4_list_99 ?_
    refine z_aload_n C 1 dX4_list_102 rfl ?_
    refine z_gIv (v := gI σ1 900 x1 0) C li_X4_68 (nN eN1 hx1) (gn (by decide) (gn (by decide) rfl)) dX4_list_103 ?_
    refine z_cSp (st := [vi (gI σ1 504 0 0), vo ad 509 (some 0)]) T C (ct_X11_hasMember (gI σ1 503 0 0) (gI σ1 900 x1 0) (hI5 503 0 _) (hI5 900 x1 _)) lm_X4_31 ls_X11_hasMember dX4_list_106 rfl rfl trivial (by decide) (Nat.le_of_ble_eq_true rfl) csOK_0 h (fun r13 hr14 h => ?_)
    show Z κ (0, 0) _ 109 _ [vi r13, vi (gI σ1 504 0 0), vo ad 509 (some 0)] ad (sI (sI σ1 507 0 0 r8) 508 0 ((gI σ1 504 0 0).toNat) r10)
    refine z_if_eq C 121 (inr_b hr14) dX4_list_109 (by decide) (fun q15 => ?_) (fun q15 => ?_)
    · have h := (wpO_ite.mp h).1 q15
      refine z_aload_n C 1 dX4_list_121 rfl ?_
      refine z_gIv (v := gI σ1 903 x1 0) C li_X4_71 (nN eN1 hx1) (gn (by decide) (gn (by decide) rfl)) dX4_list_122 ?_
      refine z_sub [0] rfl ?_
      exact J125 (gI σ1 504 0 0) (gI σ1 903 x1 0) (sI (sI σ1 507 0 0 r8) 508 0 ((gI σ1 504 0 0).toNat) r10) (hI5 504 0 _) (hI5 903 x1 _) eN1 h
    · have h := (wpO_ite.mp h).2 q15
      refine z_aload_n C 1 dX4_list_112 rfl ?_
      refine z_gIv (v := gI σ1 903 x1 0) C li_X4_71 (nN eN1 hx1) (gn (by decide) (gn (by decide) rfl)) dX4_list_113 ?_
      refine z_iconst C dX4_list_116 ?_
      refine z_idiv C (by decide) (by decide) dX4_list_117 ?_
      refine z_goto C 125 dX4_list_118 (by decide) ?_
      refine z_sub [0] rfl ?_
      exact J125 (gI σ1 504 0 0) (idiv (gI σ1 903 x1 0) 2) (sI (sI σ1 507 0 0 r8) 508 0 ((gI σ1 504 0 0).toNat) r10) (hI5 504 0 _) (inr_idiv _ _) eN1 h
  have J70 : ∀ (x1 : Nat) (s1 : Int) (s2 : Int) (σ1 : St), x1 < gN σ 8 → inr s1 → inr s2 → σ1.2.2.2 = σ.2.2.2 → wpO (fX4_list_j70 x1 s1 s2 σ1) (fun q => X q.1 q.2) → Z κ (0, 0) (Qm κ ad σ enV okV X) 70 [(0, vo ad 4 (some 0)), (1, vo ad 8 (some x1))] [vi s2, vi s1, vo ad 4 (some 0)] ad σ1 := by
    intro x1 s1 s2 σ1 hx1 hs1 hs2 eN1 h
    unfold fX4_list_j70 at h
    refine z_rng (fun hI16 hJ17 => ?_)
    refine z_iconst C dX4_list_70 ?_
    exact J71 x1 s1 s2 0 σ1 hx1 hs1 hs2 (by decide) eN1 h
  show Z κ (0, 0) (Qm κ ad σ enV okV X) 0 [(0, vo ad 4 (some 0)), (1, vo ad 8 (some x1)), (2, vi x2), (3, vi x3)] [] ad σ
  refine z_rng (fun hI18 hJ19 => ?_)
  refine z_aload_n C 0 dX4_list_0 rfl ?_
  refine z_gIv (v := gI σ 504 0 0) C li_X4_43 (sg_4 T) rfl dX4_list_1 ?_
  refine z_bipush C dX4_list_4 (by decide) ?_
  refine z_icmp_lt C 10 (hI18 504 0 _) (by decide) dX4_list_6 (by decide) (fun q20 => ?_) (fun q20 => ?_)
  · have h := (wpO_ite.mp h).1 q20
    refine z_aload_n C 0 dX4_list_10 rfl ?_
    refine z_aload_n C 0 dX4_list_11 rfl ?_
    refine z_gIv (v := gI σ 505 0 0) C li_X4_46 (sg_4 T) rfl dX4_list_12 ?_
    refine z_aload_n C 0 dX4_list_15 rfl ?_
    refine z_gIv (v := gI σ 504 0 0) C li_X4_43 (sg_4 T) rfl dX4_list_16 ?_
    refine z_iload_n C 2 dX4_list_19 rfl ?_
    refine z_cSp (st := [vo ad 4 (some 0)]) T C (ct_X11_withMember (gI σ 505 0 0) (gI σ 504 0 0) x2 (hI18 505 0 _) (hI18 504 0 _) hx2) lm_X4_35 ls_X11_withMember dX4_list_20 rfl rfl trivial (by decide) (Nat.le_of_ble_eq_true rfl) csOK_0 h (fun r21 hr22 h => ?_)
    show Z κ (0, 0) _ 23 _ [vi r21, vo ad 4 (some 0)] ad σ
    refine z_pI C lq_X4_46 (sg_4 T) hr22 dX4_list_23 ?_
    refine z_aload_n C 0 dX4_list_26 rfl ?_
    refine z_aload_n C 0 dX4_list_27 rfl ?_
    refine z_gIv (v := gI σ 506 0 0) C li_X4_49 (sg_4 T) (gn (by decide) rfl) dX4_list_28 ?_
    refine z_aload_n C 0 dX4_list_31 rfl ?_
    refine z_gIv (v := gI σ 504 0 0) C li_X4_43 (sg_4 T) (gn (by decide) rfl) dX4_list_32 ?_
    refine z_iload_n C 3 dX4_list_35 rfl ?_
    refine z_cSp (st := [vo ad 4 (some 0)]) T C (ct_X11_withMember (gI σ 506 0 0) (gI σ 504 0 0) x3 (hI18 506 0 _) (hI18 504 0 _) hx3) lm_X4_35 ls_X11_withMember dX4_list_36 rfl rfl trivial (by decide) (Nat.le_of_ble_eq_true rfl) csOK_0 h (fun r23 hr24 h => ?_)
    show Z κ (0, 0) _ 39 _ [vi r23, vo ad 4 (some 0)] ad (sI σ 505 0 0 r21)
    refine z_pI C lq_X4_49 (sg_4 T) hr24 dX4_list_39 ?_
    refine z_aload_n C 0 dX4_list_42 rfl ?_
    refine z_aload_n C 0 dX4_list_43 rfl ?_
    refine z_gIv (v := gI σ 507 0 0) C li_X4_52 (sg_4 T) (gn (by decide) (gn (by decide) rfl)) dX4_list_44 ?_
    refine z_aload_n C 0 dX4_list_47 rfl ?_
    refine z_gIv (v := gI σ 504 0 0) C li_X4_43 (sg_4 T) (gn (by decide) (gn (by decide) rfl)) dX4_list_48 ?_
    refine z_aload_n C 1 dX4_list_51 rfl ?_
    refine z_gIv (v := gI σ 907 x1 0) C li_X4_55 (nN rfl hx1) (gn (by decide) (gn (by decide) rfl)) dX4_list_52 ?_
    refine z_if_eq C 70 (hI18 907 x1 _) dX4_list_55 (by decide) (fun q25 => ?_) (fun q25 => ?_)
    · have h := (wpO_ite.mp h).1 q25
      refine z_sub [0, 1] rfl ?_
      exact J70 x1 (gI σ 507 0 0) (gI σ 504 0 0) (sI (sI σ 505 0 0 r21) 506 0 0 r23) hx1 (hI18 507 0 _) (hI18 504 0 _) rfl h
    · have h := (wpO_ite.mp h).2 q25
      refine z_iload_n C 2 dX4_list_58 rfl ?_
      refine z_if_eq C 70 (inr_b hx2) dX4_list_59 (by decide) (fun q26 => ?_) (fun q26 => ?_)
      · have h := (wpO_ite.mp h).1 q26
        refine z_sub [0, 1] rfl ?_
        exact J70 x1 (gI σ 507 0 0) (gI σ 504 0 0) (sI (sI σ 505 0 0 r21) 506 0 0 r23) hx1 (hI18 507 0 _) (hI18 504 0 _) rfl h
      · have h := (wpO_ite.mp h).2 q26
        refine z_iload_n C 3 dX4_list_62 rfl ?_
        refine z_if_eq C 70 (inr_b hx3) dX4_list_63 (by decide) (fun q27 => ?_) (fun q27 => ?_)
        · have h := (wpO_ite.mp h).1 q27
          refine z_sub [0, 1] rfl ?_
          exact J70 x1 (gI σ 507 0 0) (gI σ 504 0 0) (sI (sI σ 505 0 0 r21) 506 0 0 r23) hx1 (hI18 507 0 _) (hI18 504 0 _) rfl h
        · have h := (wpO_ite.mp h).2 q27
          refine z_iconst C dX4_list_66 ?_
          refine z_goto C 71 dX4_list_67 (by decide) ?_
          refine z_sub [0, 1] rfl ?_
          exact J71 x1 (gI σ 507 0 0) (gI σ 504 0 0) 1 (sI (sI σ 505 0 0 r21) 506 0 0 r23) hx1 (hI18 507 0 _) (hI18 504 0 _) (by decide) rfl h
  · have h := (wpO_ite.mp h).2 q20
    have h := wpO_some.mp h
    exact z_return T C dX4_list_9 rfl h
noncomputable def fX11_listStories_j85 (σ1 : St) : Option (Unit × St) :=
  some ((), σ1)
noncomputable def fX11_listStories_j76 (x1 : Int) (x2 : Int) (x3 : Int) (s1 : Option Nat) (s2 : Int) (s3 : Int) (σ1 : St) : Option ((Int × St) ⊕ St) :=
  mop s1 (fun j5 => ck (j5 < gN σ1 8) (ck (s2 = 0 ∨ s2 = 1) (ck (s3 = 0 ∨ s3 = 1) (bnd (fX4_list j5 s2 s3 σ1) (fun _ σ12 => ck (inr (x3 + 1)) (some (.inl ((x3 + 1, σ12))))))))) none
noncomputable def fX11_listStories_j75 (x1 : Int) (x2 : Int) (x3 : Int) (s1 : Option Nat) (s2 : Int) (σ1 : St) : Option ((Int × St) ⊕ St) :=
  fX11_listStories_j76 x1 x2 x3 s1 s2 0 σ1
noncomputable def fX11_listStories_l9 (x1 : Int) (x2 : Int) (x3 : Int) (σ1 : St) : Option ((Int × St) ⊕ St) :=
  if gI σ1 1206 0 0 ≤ x3 then (some (.inr σ1)) else (ck (0 ≤ x3 ∧ x3 < 8) (lt (gP σ1 1205 0 x3.toNat) (fun r24 => mop r24 (fun j26 => ck (j26 < gN σ1 8) (bnk (fX11_isLicensed (gI σ1 900 j26 0) x1 x2 σ1) (fun r29 => bnk (fX8_isReady j26 (gI σ1 1200 0 0) σ1) (fun r31 => if r29 = 0 then (fX11_listStories_j75 x1 x2 x3 (some j26) r31 σ1) else (bnd (fX11_firstBar j26 x1 x2 σ1) (fun r34 σ36 => if r34 = (-9) then (fX11_listStories_j76 x1 x2 x3 (some j26) r31 1 σ36) else (fX11_listStories_j75 x1 x2 x3 (some j26) r31 σ36))))))) none)))
noncomputable def fX11_listStories_j9 (x1 : Int) (x2 : Int) (x3 : Int) (σ1 : St) : Option (Unit × St) :=
  bnk (wh (fun s => fX11_listStories_l9 x1 x2 s.1 s.2) ((x3, σ1))) (fun e => fX11_listStories_j85 e)
noncomputable def fX11_listStories (x1 : Int) (x2 : Int) (σ : St) : Option (Unit × St) :=
  bnd (fX4_clearList σ) (fun _ σ46 => fX11_listStories_j9 x1 x2 0 σ46)
set_option maxRecDepth 20000 in
set_option maxHeartbeats 4000000 in
theorem ct_X11_listStories (x1 : Int) (x2 : Int) (hx1 : inr x1) (hx2 : inr x2) : Ct yX11_listStories cX11_listStories 6 none 5 (fun ad => [vo ad 11 (some 0), vi x1, vi x2]) (fX11_listStories x1 x2) enV okV (fun _ => True) := by
  refine Ct.of (by decide) (fun ad => Nat.le_of_ble_eq_true rfl) ?_
  intro κ ad σ X C T hpre h
  have C : Cx κ RX11 cX11_listStories 6 none 5 := C
  unfold fX11_listStories at h
  have J85 : ∀ (σ1 : St), σ1.2.2.2 = σ.2.2.2 → wpO (fX11_listStories_j85 σ1) (fun q => X q.1 q.2) → Z κ (0, 0) (Qm κ ad σ enV okV X) 85 [] [] ad σ1 := by
    intro σ1 eN1 h
    unfold fX11_listStories_j85 at h
    refine z_rng (fun hI1 hJ2 => ?_)
    have h := wpO_some.mp h
    exact z_return T C dX11_listStories_85 eN1 h
  have J9 : ∀ (x1 : Int) (x2 : Int) (x3 : Int) (σ1 : St), inr x1 → inr x2 → inr x3 → σ1.2.2.2 = σ.2.2.2 → wpO (fX11_listStories_j9 x1 x2 x3 σ1) (fun q => X q.1 q.2) → Z κ (0, 0) (Qm κ ad σ enV okV X) 9 [(0, vo ad 11 (some 0)), (1, vi x1), (2, vi x2), (3, vi x3)] [] ad σ1 := by
    intro x1 x2 x3 σ1 hx1 hx2 hx3 eN1 h
    unfold fX11_listStories_j9 at h
    have step : ∀ (P9 : (Int × St) → Prop) (Q9 : St → Prop), (∀ (x3 : Int) (σ1 : St), P9 ((x3, σ1)) → inr x3 → σ1.2.2.2 = σ.2.2.2 → Z κ (0, 0) (Qm κ ad σ enV okV X) 9 [(0, vo ad 11 (some 0)), (1, vi x1), (2, vi x2), (3, vi x3)] [] ad σ1) → (∀ (σ1 : St), Q9 (σ1) → σ1.2.2.2 = σ.2.2.2 → Z κ (0, 0) (Qm κ ad σ enV okV X) 85 [] [] ad σ1) → ∀ (x3 : Int) (σ1 : St), inr x3 → σ1.2.2.2 = σ.2.2.2 → wpO (fX11_listStories_l9 x1 x2 x3 σ1) (onS P9 Q9) → Z κ (0, 0) (Qm κ ad σ enV okV X) 9 [(0, vo ad 11 (some 0)), (1, vi x1), (2, vi x2), (3, vi x3)] [] ad σ1 := by
      intro P9 Q9 hP9 hE9_85 x3 σ1 hx3 eN1 h
      unfold fX11_listStories_l9 at h
      have J76 : ∀ (x3 : Int) (s1 : Option Nat) (s2 : Int) (s3 : Int) (σ1 : St), inr x3 → inr s2 → inr s3 → σ1.2.2.2 = σ.2.2.2 → wpO (fX11_listStories_j76 x1 x2 x3 s1 s2 s3 σ1) (onS P9 Q9) → Z κ (0, 0) (Qm κ ad σ enV okV X) 76 [(0, vo ad 11 (some 0)), (1, vi x1), (2, vi x2), (3, vi x3)] [vi s3, vi s2, vo ad 8 s1, vo ad 4 (some 0)] ad σ1 := by
        intro x3 s1 s2 s3 σ1 hx3 hs2 hs3 eN1 h
        unfold fX11_listStories_j76 at h
        refine z_rng (fun hI3 hJ4 => ?_)
        obtain ⟨j5, hr6, h⟩ := mop_none h
        subst hr6
        obtain ⟨hj7, h⟩ := wpO_ck.mp h
        obtain ⟨hb8, h⟩ := wpO_ck.mp h
        obtain ⟨hb9, h⟩ := wpO_ck.mp h
        refine z_cV (st := []) T C (ct_X4_list j5 s2 s3 hb8 hb9) lm_X11_408 lv_vX4_list dX11_listStories_76 [vo ad 8 (some j5), vi s2, vi s3] rfl rfl rfl rfl rfl (sg_4 T) (nNl eN1 (toN eN1 hj7)) (by decide) (Nat.le_of_ble_eq_true rfl) csOK_0 h (fun r10 σ12 hr11 eN13 h => ?_)
        have eN14 := eN13.trans eN1
        show Z κ (0, 0) _ 79 _ [] ad σ12
        refine z_rng (fun hI15 hJ16 => ?_)
        obtain ⟨hk17, h⟩ := wpO_ck.mp h
        refine z_iinc (lv2 := [(3, vi (x3 + 1)), (0, vo ad 11 (some 0)), (1, vi x1), (2, vi x2)]) C 3 dX11_listStories_79 rfl (by decide) rfl ?_
        refine z_goto C 9 dX11_listStories_82 (by decide) ?_
        refine z_sub [1, 2, 3, 0] rfl ?_
        have h := wpO_some.mp h
        exact hP9 (x3 + 1) σ12 h hk17 eN14
      have J75 : ∀ (x3 : Int) (s1 : Option Nat) (s2 : Int) (σ1 : St), inr x3 → inr s2 → σ1.2.2.2 = σ.2.2.2 → wpO (fX11_listStories_j75 x1 x2 x3 s1 s2 σ1) (onS P9 Q9) → Z κ (0, 0) (Qm κ ad σ enV okV X) 75 [(0, vo ad 11 (some 0)), (1, vi x1), (2, vi x2), (3, vi x3)] [vi s2, vo ad 8 s1, vo ad 4 (some 0)] ad σ1 := by
        intro x3 s1 s2 σ1 hx3 hs2 eN1 h
        unfold fX11_listStories_j75 at h
        refine z_rng (fun hI18 hJ19 => ?_)
        refine z_iconst C dX11_listStories_75 ?_
        exact J76 x3 s1 s2 0 σ1 hx3 hs2 (by decide) eN1 h
      refine z_rng (fun hI20 hJ21 => ?_)
      refine z_iload_n C 3 dX11_listStories_9 rfl ?_
      refine z_aload_n C 0 dX11_listStories_10 rfl ?_
      refine z_gIv (v := gI σ1 1206 0 0) C li_X11_200 (sg_11 T) rfl dX11_listStories_11 ?_
      refine z_icmp_ge C 85 hx3 (hI20 1206 0 _) dX11_listStories_14 (by decide) (fun q22 => ?_) (fun q22 => ?_)
      · have h := (wpO_ite.mp h).1 q22
        refine z_sub [] rfl ?_
        have h := wpO_some.mp h
        exact hE9_85 σ1 h eN1
      · have h := (wpO_ite.mp h).2 q22
        refine z_aload_n C 0 dX11_listStories_17 rfl ?_
        refine z_gA T C li_X11_31 (sg_11 T) dX11_listStories_18 ?_
        refine z_iload_n C 3 dX11_listStories_21 rfl ?_
        obtain ⟨hb23, h⟩ := wpO_ck.mp h
        refine z_aald (K := 8) (t0 := 5) C ar_1205 (fun _ => rfl) (sg_1205 T) hx3 hb23 dX11_listStories_22 (fun r24 hr25 => ?_)
        have h := lt_elim h r24 hr25
        refine z_astore (lv2 := [(4, vo ad 8 r24), (0, vo ad 11 (some 0)), (1, vi x1), (2, vi x2), (3, vi x3)]) C dX11_listStories_23 (by decide) rfl ?_
        refine z_aload_n C 1 dX11_listStories_25 rfl ?_
        refine z_aload C 0 dX11_listStories_26 rfl ?_
        obtain ⟨j26, hr27, h⟩ := mop_none h
        subst hr27
        obtain ⟨hj28, h⟩ := wpO_ck.mp h
        refine z_gIv (v := gI σ1 900 j26 0) C li_X11_307 (nN eN1 (toN eN1 hj28)) rfl dX11_listStories_28 ?_
        refine z_iload_n C 2 dX11_listStories_31 rfl ?_
        refine z_iload_n C 3 dX11_listStories_32 rfl ?_
        refine z_cVp (st := []) T C (ct_X11_isLicensed (gI σ1 900 j26 0) x1 x2 (hI20 900 j26 _) hx1 hx2) lm_X11_308 lv_vX11_isLicensed dX11_listStories_33 [vi (gI σ1 900 j26 0), vi x1, vi x2] rfl rfl rfl rfl rfl (sg_11 T) trivial (by decide) (Nat.le_of_ble_eq_true rfl) csOK_0 h (fun r29 hr30 h => ?_)
        show Z κ (0, 0) _ 36 _ [vi r29] ad σ1
        refine z_istore (lv2 := [(5, vi r29), (4, vo ad 8 (some j26)), (0, vo ad 11 (some 0)), (1, vi x1), (2, vi x2), (3, vi x3)]) C dX11_listStories_36 (by decide) rfl ?_
        refine z_aload_n C 2 dX11_listStories_38 rfl ?_
        refine z_gR T C li_X11_65 (sg_11 T) dX11_listStories_39 ?_
        refine z_aload C 1 dX11_listStories_42 rfl ?_
        refine z_aload C 1 dX11_listStories_44 rfl ?_
        refine z_aload_n C 2 dX11_listStories_46 rfl ?_
        refine z_gIv (v := gI σ1 1200 0 0) C li_X11_87 (sg_11 T) rfl dX11_listStories_47 ?_
        refine z_cVp (st := [vo ad 8 (some j26), vo ad 4 (some 0)]) T C (ct_X8_isReady j26 (gI σ1 1200 0 0) (hI20 1200 0 _)) lm_X11_250 lv_vX8_isReady dX11_listStories_50 [vi (gI σ1 1200 0 0)] rfl rfl rfl rfl rfl (nN eN1 (toN eN1 hj28)) (nNl eN1 (toN eN1 hj28)) (by decide) (Nat.le_of_ble_eq_true rfl) csOK_0 h (fun r31 hr32 h => ?_)
        show Z κ (0, 0) _ 53 _ [vi r31, vo ad 8 (some j26), vo ad 4 (some 0)] ad σ1
        refine z_iload C 0 dX11_listStories_53 rfl ?_
        refine z_if_eq C 75 (inr_b hr30) dX11_listStories_55 (by decide) (fun q33 => ?_) (fun q33 => ?_)
        · have h := (wpO_ite.mp h).1 q33
          refine z_sub [2, 3, 4, 5] rfl ?_
          exact J75 x3 (some j26) r31 σ1 hx3 (inr_b hr32) eN1 h
        · have h := (wpO_ite.mp h).2 q33
          refine z_aload_n C 2 dX11_listStories_58 rfl ?_
          refine z_aload C 1 dX11_listStories_59 rfl ?_
          refine z_iload_n C 3 dX11_listStories_61 rfl ?_
          refine z_iload_n C 4 dX11_listStories_62 rfl ?_
          refine z_cV (st := [vi r31, vo ad 8 (some j26), vo ad 4 (some 0)]) T C (ct_X11_firstBar j26 x1 x2 hx1 hx2) lm_X11_283 lv_vX11_firstBar dX11_listStories_63 [vo ad 8 (some j26), vi x1, vi x2] rfl rfl rfl rfl rfl (sg_11 T) (nNl eN1 (toN eN1 hj28)) (by decide) (Nat.le_of_ble_eq_true rfl) csOK_0 h (fun r34 σ36 hr35 eN37 h => ?_)
          have eN38 := eN37.trans eN1
          show Z κ (0, 0) _ 66 _ [vi r34, vi r31, vo ad 8 (some j26), vo ad 4 (some 0)] ad σ36
          refine z_rng (fun hI39 hJ40 => ?_)
          refine z_bipush C dX11_listStories_66 (by decide) ?_
          refine z_icmp_ne C 75 hr35 (by decide) dX11_listStories_68 (by decide) (fun q41 => ?_) (fun q41 => ?_)
          · have h := (wpO_ite.mp h).2 q41
            refine z_sub [2, 3, 4, 5] rfl ?_
            exact J75 x3 (some j26) r31 σ36 hx3 (inr_b hr32) eN38 h
          · have h := (wpO_ite.mp h).1 q41
            refine z_iconst C dX11_listStories_71 ?_
            refine z_goto C 76 dX11_listStories_72 (by decide) ?_
            refine z_sub [2, 3, 4, 5] rfl ?_
            exact J76 x3 (some j26) r31 1 σ36 hx3 (inr_b hr32) (by decide) eN38 h
    exact wh_ind (P := fun s : (Int × St) => inr s.1 → s.2.2.2.2 = σ.2.2.2 → Z κ (0, 0) (Qm κ ad σ enV okV X) 9 [(0, vo ad 11 (some 0)), (1, vi x1), (2, vi x2), (3, vi s.1)] [] ad s.2) (fun s hs g0 g1 => step _ _ (fun _ _ hp => hp) (fun σ1 hq eN1 => J85 σ1 eN1 hq) s.1 s.2 g0 g1 hs) ((x3, σ1)) (wpO_bnk.mp h) hx3 eN1
  show Z κ (0, 0) (Qm κ ad σ enV okV X) 0 [(0, vo ad 11 (some 0)), (1, vi x1), (2, vi x2)] [] ad σ
  refine z_rng (fun hI42 hJ43 => ?_)
  refine z_aload_n C 0 dX11_listStories_0 rfl ?_
  refine z_gR T C li_X11_65 (sg_11 T) dX11_listStories_1 ?_
  refine z_cV (st := []) T C ct_X4_clearList lm_X11_405 lv_vX4_clearList dX11_listStories_4 [] rfl rfl rfl rfl rfl (sg_4 T) trivial (by decide) (Nat.le_of_ble_eq_true rfl) csOK_0 h (fun r44 σ46 hr45 eN47 h => ?_)
  show Z κ (0, 0) _ 7 _ [] ad σ46
  refine z_rng (fun hI48 hJ49 => ?_)
  refine z_iconst C dX11_listStories_7 ?_
  refine z_istore_n (lv2 := [(3, vi 0), (0, vo ad 11 (some 0)), (1, vi x1), (2, vi x2)]) C dX11_listStories_8 (by decide) rfl ?_
  refine z_sub [1, 2, 3, 0] rfl ?_
  exact J9 x1 x2 0 σ46 hx1 hx2 (by decide) eN47 h
noncomputable def fX4_sumOver_j36 (x3 : Int) (σ : St) : Option Int :=
  some x3
noncomputable def fX4_sumOver_j30 (x1 : Int) (x2 : Nat) (n2 : Nat) (x3 : Int) (x4 : Int) (σ : St) : Option ((Int × Int) ⊕ Int) :=
  ck (inr (x4 + 1)) (some (.inl ((x3, x4 + 1))))
noncomputable def fX4_sumOver_l5 (x1 : Int) (x2 : Nat) (n2 : Nat) (σ : St) (x3 : Int) (x4 : Int) : Option ((Int × Int) ⊕ Int) :=
  if gI σ 504 0 0 ≤ x4 then (some (.inr x3)) else (bnk (fX11_hasMember x1 x4) (fun r9 => if r9 = 0 then (fX4_sumOver_j30 x1 x2 n2 x3 x4 σ) else (ck (0 ≤ x4 ∧ x4 < (n2 : Int)) (ck (inr (x3 + (gI σ x2 0 x4.toNat))) (fX4_sumOver_j30 x1 x2 n2 (x3 + (gI σ x2 0 x4.toNat)) x4 σ)))))
noncomputable def fX4_sumOver_j5 (x1 : Int) (x2 : Nat) (n2 : Nat) (x3 : Int) (x4 : Int) (σ : St) : Option Int :=
  bnk (wh (fun s => fX4_sumOver_l5 x1 x2 n2 σ s.1 s.2) ((x3, x4))) (fun e => fX4_sumOver_j36 e σ)
noncomputable def fX4_sumOver (x1 : Int) (x2 : Nat) (n2 : Nat) (σ : St) : Option Int :=
  fX4_sumOver_j5 x1 x2 n2 0 0 σ
set_option maxRecDepth 20000 in
set_option maxHeartbeats 4000000 in
theorem ct_X4_sumOver (x1 : Int) (x2 : Nat) (n2 : Nat) (hx1 : inr x1) (ha_x2 : la x2 = some (0, n2)) (hs_x2 : ∀ {κ : Cxt} {σ : St}, isT κ → okj κ σ x2 0) (hn_x2 : inr (n2 : Int)) : Ct yX4_sumOver cX4_sumOver 5 (some .int) 1 (fun ad => [vo ad 4 (some 0), vi x1, vo ad x2 (some 0)]) (pu (fX4_sumOver x1 x2 n2)) enI okI (fun _ => True) := by
  refine Ct.of (by decide) (fun ad => Nat.le_of_ble_eq_true rfl) ?_
  intro κ ad σ X C T hpre h
  have C : Cx κ RX4 cX4_sumOver 5 (some .int) 1 := C
  have h := wpO_pu.mp h
  unfold fX4_sumOver at h
  have J36 : ∀ (x3 : Int), inr x3 → wpO (fX4_sumOver_j36 x3 σ) (fun r => X r σ) → Z κ (0, 0) (Qm κ ad σ enI okI X) 36 [(3, vi x3)] [] ad σ := by
    intro x3 hx3 h
    unfold fX4_sumOver_j36 at h
    refine z_rng (fun hI1 hJ2 => ?_)
    refine z_iload_n C 0 dX4_sumOver_36 rfl ?_
    have h := wpO_some.mp h
    exact z_ireturn T C dX4_sumOver_37 hx3 rfl h
  have J5 : ∀ (x1 : Int) (x3 : Int) (x4 : Int), inr x1 → inr x3 → inr x4 → wpO (fX4_sumOver_j5 x1 x2 n2 x3 x4 σ) (fun r => X r σ) → Z κ (0, 0) (Qm κ ad σ enI okI X) 5 [(0, vo ad 4 (some 0)), (1, vi x1), (2, vo ad x2 (some 0)), (3, vi x3), (4, vi x4)] [] ad σ := by
    intro x1 x3 x4 hx1 hx3 hx4 h
    unfold fX4_sumOver_j5 at h
    have step : ∀ (P5 : (Int × Int) → Prop) (Q5 : Int → Prop), (∀ (x3 : Int) (x4 : Int), P5 ((x3, x4)) → inr x3 → inr x4 → Z κ (0, 0) (Qm κ ad σ enI okI X) 5 [(0, vo ad 4 (some 0)), (1, vi x1), (2, vo ad x2 (some 0)), (3, vi x3), (4, vi x4)] [] ad σ) → (∀ (x3 : Int), Q5 (x3) → inr x3 → Z κ (0, 0) (Qm κ ad σ enI okI X) 36 [(3, vi x3)] [] ad σ) → ∀ (x3 : Int) (x4 : Int), inr x3 → inr x4 → wpO (fX4_sumOver_l5 x1 x2 n2 σ x3 x4) (onS P5 Q5) → Z κ (0, 0) (Qm κ ad σ enI okI X) 5 [(0, vo ad 4 (some 0)), (1, vi x1), (2, vo ad x2 (some 0)), (3, vi x3), (4, vi x4)] [] ad σ := by
      intro P5 Q5 hP5 hE5_36 x3 x4 hx3 hx4 h
      unfold fX4_sumOver_l5 at h
      have J30 : ∀ (x3 : Int) (x4 : Int), inr x3 → inr x4 → wpO (fX4_sumOver_j30 x1 x2 n2 x3 x4 σ) (onS P5 Q5) → Z κ (0, 0) (Qm κ ad σ enI okI X) 30 [(0, vo ad 4 (some 0)), (1, vi x1), (2, vo ad x2 (some 0)), (3, vi x3), (4, vi x4)] [] ad σ := by
        intro x3 x4 hx3 hx4 h
        unfold fX4_sumOver_j30 at h
        refine z_rng (fun hI3 hJ4 => ?_)
        obtain ⟨hk5, h⟩ := wpO_ck.mp h
        refine z_iinc (lv2 := [(4, vi (x4 + 1)), (0, vo ad 4 (some 0)), (1, vi x1), (2, vo ad x2 (some 0)), (3, vi x3)]) C 4 dX4_sumOver_30 rfl (by decide) rfl ?_
        refine z_goto C 5 dX4_sumOver_33 (by decide) ?_
        refine z_sub [1, 2, 3, 4, 0] rfl ?_
        have h := wpO_some.mp h
        exact hP5 x3 (x4 + 1) h hx3 hk5
      refine z_rng (fun hI6 hJ7 => ?_)
      refine z_iload C 4 dX4_sumOver_5 rfl ?_
      refine z_aload_n C 0 dX4_sumOver_7 rfl ?_
      refine z_gIv (v := gI σ 504 0 0) C li_X4_43 (sg_4 T) rfl dX4_sumOver_8 ?_
      refine z_icmp_ge C 36 hx4 (hI6 504 0 _) dX4_sumOver_11 (by decide) (fun q8 => ?_) (fun q8 => ?_)
      · have h := (wpO_ite.mp h).1 q8
        refine z_sub [3] rfl ?_
        have h := wpO_some.mp h
        exact hE5_36 x3 h hx3
      · have h := (wpO_ite.mp h).2 q8
        refine z_iload_n C 1 dX4_sumOver_14 rfl ?_
        refine z_iload C 4 dX4_sumOver_15 rfl ?_
        refine z_cSp (st := []) T C (ct_X11_hasMember x1 x4 hx1 hx4) lm_X4_31 ls_X11_hasMember dX4_sumOver_17 rfl rfl trivial (by decide) (Nat.le_of_ble_eq_true rfl) csOK_0 h (fun r9 hr10 h => ?_)
        show Z κ (0, 0) _ 20 _ [vi r9] ad σ
        refine z_if_eq C 30 (inr_b hr10) dX4_sumOver_20 (by decide) (fun q11 => ?_) (fun q11 => ?_)
        · have h := (wpO_ite.mp h).1 q11
          exact J30 x3 x4 hx3 hx4 h
        · have h := (wpO_ite.mp h).2 q11
          refine z_iload_n C 3 dX4_sumOver_23 rfl ?_
          refine z_aload_n C 2 dX4_sumOver_24 rfl ?_
          refine z_iload C 4 dX4_sumOver_25 rfl ?_
          obtain ⟨hb12, h⟩ := wpO_ck.mp h
          refine z_iav (v := gI σ x2 0 x4.toNat) C ha_x2 (hs_x2 T) hx4 hb12 rfl dX4_sumOver_27 ?_
          obtain ⟨hk13, h⟩ := wpO_ck.mp h
          refine z_iadd C dX4_sumOver_28 ?_
          refine z_istore_n (lv2 := [(3, vi (x3 + (gI σ x2 0 x4.toNat))), (0, vo ad 4 (some 0)), (1, vi x1), (2, vo ad x2 (some 0)), (4, vi x4)]) C dX4_sumOver_29 (by decide) rfl ?_
          refine z_sub [1, 2, 3, 0, 4] rfl ?_
          exact J30 (x3 + (gI σ x2 0 x4.toNat)) x4 hk13 hx4 h
    exact wh_ind (P := fun s : (Int × Int) => inr s.1 → inr s.2 → Z κ (0, 0) (Qm κ ad σ enI okI X) 5 [(0, vo ad 4 (some 0)), (1, vi x1), (2, vo ad x2 (some 0)), (3, vi s.1), (4, vi s.2)] [] ad σ) (fun s hs g0 g1 => step _ _ (fun _ _ hp => hp) (fun x3 hq hx3 => J36 x3 hx3 hq) s.1 s.2 g0 g1 hs) ((x3, x4)) (wpO_bnk.mp h) hx3 hx4
  show Z κ (0, 0) (Qm κ ad σ enI okI X) 0 [(0, vo ad 4 (some 0)), (1, vi x1), (2, vo ad x2 (some 0))] [] ad σ
  refine z_rng (fun hI14 hJ15 => ?_)
  refine z_iconst C dX4_sumOver_0 ?_
  refine z_istore_n (lv2 := [(3, vi 0), (0, vo ad 4 (some 0)), (1, vi x1), (2, vo ad x2 (some 0))]) C dX4_sumOver_1 (by decide) rfl ?_
  refine z_iconst C dX4_sumOver_2 ?_
  refine z_istore (lv2 := [(4, vi 0), (3, vi 0), (0, vo ad 4 (some 0)), (1, vi x1), (2, vo ad x2 (some 0))]) C dX4_sumOver_3 (by decide) rfl ?_
  refine z_sub [2, 3, 4, 1, 0] rfl ?_
  exact J5 x1 0 0 hx1 (by decide) (by decide) h
noncomputable def fX4_hasLength (x1 : Int) (σ : St) : Option Int :=
  bnk (fX4_sumOver x1 508 8 σ) (fun r3 => bnk (fX11_within r3 (gI σ 500 0 0) (gI σ 501 0 0)) (fun r5 => some r5))
set_option maxRecDepth 20000 in
set_option maxHeartbeats 4000000 in
theorem ct_X4_hasLength (x1 : Int) (hx1 : inr x1) : Ct yX4_hasLength cX4_hasLength 2 (some .boolean) 2 (fun ad => [vo ad 4 (some 0), vi x1]) (pu (fX4_hasLength x1)) enI okB (fun _ => True) := by
  refine Ct.of (by decide) (fun ad => Nat.le_of_ble_eq_true rfl) ?_
  intro κ ad σ X C T hpre h
  have C : Cx κ RX4 cX4_hasLength 2 (some .boolean) 2 := C
  have h := wpO_pu.mp h
  unfold fX4_hasLength at h
  show Z κ (0, 0) (Qm κ ad σ enI okB X) 0 [(0, vo ad 4 (some 0)), (1, vi x1)] [] ad σ
  refine z_rng (fun hI1 hJ2 => ?_)
  refine z_aload_n C 0 dX4_hasLength_0 rfl ?_
  refine z_iload_n C 1 dX4_hasLength_1 rfl ?_
  refine z_aload_n C 0 dX4_hasLength_2 rfl ?_
  refine z_gA T C li_X4_22 (sg_4 T) dX4_hasLength_3 ?_
  refine z_cVp (st := []) T C (ct_X4_sumOver x1 508 8 hx1 ar_508 (fun T => sg_508 T) (by decide)) lm_X4_73 lv_vX4_sumOver dX4_hasLength_6 [vi x1, vo ad 508 (some 0)] rfl rfl rfl rfl rfl (sg_4 T) trivial (by decide) (Nat.le_of_ble_eq_true rfl) csOK_0 h (fun r3 hr4 h => ?_)
  show Z κ (0, 0) _ 9 _ [vi r3] ad σ
  refine z_aload_n C 0 dX4_hasLength_9 rfl ?_
  refine z_gIv (v := gI σ 500 0 0) C li_X4_9 (sg_4 T) rfl dX4_hasLength_10 ?_
  refine z_aload_n C 0 dX4_hasLength_13 rfl ?_
  refine z_gIv (v := gI σ 501 0 0) C li_X4_15 (sg_4 T) rfl dX4_hasLength_14 ?_
  refine z_cSp (st := []) T C (ct_X11_within r3 (gI σ 500 0 0) (gI σ 501 0 0) hr4 (hI1 500 0 _) (hI1 501 0 _)) lm_X4_77 ls_X11_within dX4_hasLength_17 rfl rfl trivial (by decide) (Nat.le_of_ble_eq_true rfl) csOK_0 h (fun r5 hr6 h => ?_)
  show Z κ (0, 0) _ 20 _ [vi r5] ad σ
  have h := wpO_some.mp h
  exact z_breturn T C dX4_hasLength_20 hr6 rfl h
noncomputable def fX4_lack_j111 (x3 : Int) (x5 : Int) (σ : St) : Option Int :=
  if iand x3 (ixor (gI σ 505 0 0) ((-1))) = 0 then (if iand x3 (ixor (gI σ 506 0 0) ((-1))) = 0 then (if x5 = 0 then (bnk (fX4_hasLength x3 σ) (fun r6 => if r6 = 0 then (some 5) else (if iand (gI σ 507 0 0) (ixor x3 ((-1))) = 0 then (some 0) else (some 6)))) else (some 4)) else (some 3)) else (some 2)
noncomputable def fX4_lack_j59 (σ : St) : Option Int :=
  some 1
noncomputable def fX4_lack_j38 (x3 : Int) (x5 : Int) (σ : St) : Option Int :=
  fX4_lack_j111 x3 x5 σ
noncomputable def fX4_lack_j91 (x1 : Int) (x3 : Int) (x6 : Int) (x7 : Int) (s0 : Int) (σ : St) : Option ((Int × Int × Int × Int) ⊕ ((Int × Int) ⊕ (Unit ⊕ (Int × Int)))) :=
  bnk (fX11_withMember x3 x7 1) (fun r16 => ck (inr (x6 + 1)) (some (.inl ((r16, x7, s0, x6 + 1)))))
noncomputable def fX4_lack_j90 (x1 : Int) (x3 : Int) (x6 : Int) (x7 : Int) (σ : St) : Option ((Int × Int × Int × Int) ⊕ ((Int × Int) ⊕ (Unit ⊕ (Int × Int)))) :=
  fX4_lack_j91 x1 x3 x6 x7 0 σ
noncomputable def fX4_lack_j86 (x1 : Int) (x3 : Int) (x6 : Int) (x7 : Int) (σ : St) : Option ((Int × Int × Int × Int) ⊕ ((Int × Int) ⊕ (Unit ⊕ (Int × Int)))) :=
  fX4_lack_j91 x1 x3 x6 x7 1 σ
noncomputable def fX4_lack_l11 (x1 : Int) (σ : St) (x3 : Int) (x4 : Int) (x5 : Int) (x6 : Int) : Option ((Int × Int × Int × Int) ⊕ ((Int × Int) ⊕ (Unit ⊕ (Int × Int)))) :=
  if 16 ≤ x6 then (some (.inr (.inr (.inr ((x3, x5)))))) else (ck (inr (4 * x6)) (ck (inr ((l2i (jand (jushr x1 (4 * x6)) 15)) - 1)) (if 0 ≤ (l2i (jand (jushr x1 (4 * x6)) 15)) - 1 then (if gI σ 504 0 0 ≤ (l2i (jand (jushr x1 (4 * x6)) 15)) - 1 then (some (.inr (.inr (.inl (()))))) else (bnk (fX11_hasMember x3 ((l2i (jand (jushr x1 (4 * x6)) 15)) - 1)) (fun r30 => if r30 = 0 then (if x5 = 0 then (if x4 < 0 then (fX4_lack_j90 x1 x3 x6 ((l2i (jand (jushr x1 (4 * x6)) 15)) - 1) σ) else (ck (0 ≤ (l2i (jand (jushr x1 (4 * x6)) 15)) - 1 ∧ (l2i (jand (jushr x1 (4 * x6)) 15)) - 1 < 8) (bnk (fX11_hasMember (gI σ 502 0 (((l2i (jand (jushr x1 (4 * x6)) 15)) - 1).toNat)) x4) (fun r36 => if r36 = 0 then (fX4_lack_j90 x1 x3 x6 ((l2i (jand (jushr x1 (4 * x6)) 15)) - 1) σ) else (fX4_lack_j86 x1 x3 x6 ((l2i (jand (jushr x1 (4 * x6)) 15)) - 1) σ))))) else (fX4_lack_j86 x1 x3 x6 ((l2i (jand (jushr x1 (4 * x6)) 15)) - 1) σ)) else (some (.inr (.inr (.inl (())))))))) else (some (.inr (.inl ((x3, x5))))))))
noncomputable def fX4_lack_j11 (x1 : Int) (x3 : Int) (x4 : Int) (x5 : Int) (x6 : Int) (σ : St) : Option Int :=
  bnk (wh (fun s => fX4_lack_l11 x1 σ s.1 s.2.1 s.2.2.1 s.2.2.2) ((x3, x4, x5, x6))) (fun e => Sum.elim (fun a0 => fX4_lack_j38 a0.1 a0.2 σ) (fun b0 => Sum.elim (fun a1 => fX4_lack_j59 σ) (fun b1 => fX4_lack_j111 b1.1 b1.2 σ) b0) e)
noncomputable def fX4_lack (x1 : Int) (σ : St) : Option Int :=
  fX4_lack_j11 x1 0 ((-1)) 0 0 σ
set_option maxRecDepth 20000 in
set_option maxHeartbeats 4000000 in
theorem ct_X4_lack (x1 : Int) (hx1 : inq x1) : Ct yX4_lack cX4_lack 8 (some .int) 3 (fun ad => [vo ad 4 (some 0), vj x1]) (pu (fX4_lack x1)) enI okI (fun _ => True) := by
  refine Ct.of (by decide) (fun ad => Nat.le_of_ble_eq_true rfl) ?_
  intro κ ad σ X C T hpre h
  have C : Cx κ RX4 cX4_lack 8 (some .int) 3 := C
  have h := wpO_pu.mp h
  unfold fX4_lack at h
  have J111 : ∀ (x3 : Int) (x5 : Int), inr x3 → inr x5 → wpO (fX4_lack_j111 x3 x5 σ) (fun r => X r σ) → Z κ (0, 0) (Qm κ ad σ enI okI X) 111 [(0, vo ad 4 (some 0)), (3, vi x3), (5, vi x5)] [] ad σ := by
    intro x3 x5 hx3 hx5 h
    unfold fX4_lack_j111 at h
    refine z_rng (fun hI1 hJ2 => ?_)
    refine z_iload_n C 1 dX4_lack_111 rfl ?_
    refine z_aload_n C 0 dX4_lack_112 rfl ?_
    refine z_gIv (v := gI σ 505 0 0) C li_X4_46 (sg_4 T) rfl dX4_lack_113 ?_
    refine z_iconst C dX4_lack_116 ?_
    refine z_ixor C dX4_lack_117 ?_
    refine z_iand C dX4_lack_118 ?_
    refine z_if_eq C 124 (inr_iand _ _) dX4_lack_119 (by decide) (fun q3 => ?_) (fun q3 => ?_)
    · have h := (wpO_ite.mp h).1 q3
      refine z_iload_n C 1 dX4_lack_124 rfl ?_
      refine z_aload_n C 0 dX4_lack_125 rfl ?_
      refine z_gIv (v := gI σ 506 0 0) C li_X4_49 (sg_4 T) rfl dX4_lack_126 ?_
      refine z_iconst C dX4_lack_129 ?_
      refine z_ixor C dX4_lack_130 ?_
      refine z_iand C dX4_lack_131 ?_
      refine z_if_eq C 137 (inr_iand _ _) dX4_lack_132 (by decide) (fun q4 => ?_) (fun q4 => ?_)
      · have h := (wpO_ite.mp h).1 q4
        refine z_iload C 2 dX4_lack_137 rfl ?_
        refine z_if_eq C 144 hx5 dX4_lack_139 (by decide) (fun q5 => ?_) (fun q5 => ?_)
        · have h := (wpO_ite.mp h).1 q5
          refine z_aload_n C 0 dX4_lack_144 rfl ?_
          refine z_iload_n C 1 dX4_lack_145 rfl ?_
          refine z_cVp (st := []) T C (ct_X4_hasLength x3 hx3) lm_X4_83 lv_vX4_hasLength dX4_lack_146 [vi x3] rfl rfl rfl rfl rfl (sg_4 T) trivial (by decide) (Nat.le_of_ble_eq_true rfl) csOK_0 h (fun r6 hr7 h => ?_)
          show Z κ (0, 0) _ 149 _ [vi r6] ad σ
          refine z_if_ne C 154 (inr_b hr7) dX4_lack_149 (by decide) (fun q8 => ?_) (fun q8 => ?_)
          · have h := (wpO_ite.mp h).2 q8
            refine z_aload_n C 0 dX4_lack_154 rfl ?_
            refine z_gIv (v := gI σ 507 0 0) C li_X4_52 (sg_4 T) rfl dX4_lack_155 ?_
            refine z_iload_n C 1 dX4_lack_158 rfl ?_
            refine z_iconst C dX4_lack_159 ?_
            refine z_ixor C dX4_lack_160 ?_
            refine z_iand C dX4_lack_161 ?_
            refine z_if_eq C 170 (inr_iand _ _) dX4_lack_162 (by decide) (fun q9 => ?_) (fun q9 => ?_)
            · have h := (wpO_ite.mp h).1 q9
              refine z_iconst C dX4_lack_170 ?_
              have h := wpO_some.mp h
              exact z_ireturn T C dX4_lack_171 (by decide) rfl h
            · have h := (wpO_ite.mp h).2 q9
              refine z_bipush C dX4_lack_165 (by decide) ?_
              refine z_goto C 171 dX4_lack_167 (by decide) ?_
              have h := wpO_some.mp h
              exact z_ireturn T C dX4_lack_171 (by decide) rfl h
          · have h := (wpO_ite.mp h).1 q8
            refine z_iconst C dX4_lack_152 ?_
            have h := wpO_some.mp h
            exact z_ireturn T C dX4_lack_153 (by decide) rfl h
        · have h := (wpO_ite.mp h).2 q5
          refine z_iconst C dX4_lack_142 ?_
          have h := wpO_some.mp h
          exact z_ireturn T C dX4_lack_143 (by decide) rfl h
      · have h := (wpO_ite.mp h).2 q4
        refine z_iconst C dX4_lack_135 ?_
        have h := wpO_some.mp h
        exact z_ireturn T C dX4_lack_136 (by decide) rfl h
    · have h := (wpO_ite.mp h).2 q3
      refine z_iconst C dX4_lack_122 ?_
      have h := wpO_some.mp h
      exact z_ireturn T C dX4_lack_123 (by decide) rfl h
  have J59 : wpO (fX4_lack_j59 σ) (fun r => X r σ) → Z κ (0, 0) (Qm κ ad σ enI okI X) 59 [] [] ad σ := by
    intro h
    unfold fX4_lack_j59 at h
    refine z_rng (fun hI10 hJ11 => ?_)
    refine z_iconst C dX4_lack_59 ?_
    have h := wpO_some.mp h
    exact z_ireturn T C dX4_lack_60 (by decide) rfl h
  have J38 : ∀ (x3 : Int) (x5 : Int), inr x3 → inr x5 → wpO (fX4_lack_j38 x3 x5 σ) (fun r => X r σ) → Z κ (0, 0) (Qm κ ad σ enI okI X) 38 [(0, vo ad 4 (some 0)), (3, vi x3), (5, vi x5)] [] ad σ := by
    intro x3 x5 hx3 hx5 h
    unfold fX4_lack_j38 at h
    refine z_rng (fun hI12 hJ13 => ?_)
    refine z_goto C 111 dX4_lack_38 (by decide) ?_
    exact J111 x3 x5 hx3 hx5 h
  have J11 : ∀ (x1 : Int) (x3 : Int) (x4 : Int) (x5 : Int) (x6 : Int), inq x1 → inr x3 → inr x4 → inr x5 → inr x6 → wpO (fX4_lack_j11 x1 x3 x4 x5 x6 σ) (fun r => X r σ) → Z κ (0, 0) (Qm κ ad σ enI okI X) 11 [(0, vo ad 4 (some 0)), (1, vj x1), (3, vi x3), (4, vi x4), (5, vi x5), (6, vi x6)] [] ad σ := by
    intro x1 x3 x4 x5 x6 hx1 hx3 hx4 hx5 hx6 h
    unfold fX4_lack_j11 at h
    have step : ∀ (P11 : (Int × Int × Int × Int) → Prop) (Q11 : ((Int × Int) ⊕ (Unit ⊕ (Int × Int))) → Prop), (∀ (x3 : Int) (x4 : Int) (x5 : Int) (x6 : Int), P11 ((x3, x4, x5, x6)) → inr x3 → inr x4 → inr x5 → inr x6 → Z κ (0, 0) (Qm κ ad σ enI okI X) 11 [(0, vo ad 4 (some 0)), (1, vj x1), (3, vi x3), (4, vi x4), (5, vi x5), (6, vi x6)] [] ad σ) → (∀ (x3 : Int) (x5 : Int), Q11 (.inl ((x3, x5))) → inr x3 → inr x5 → Z κ (0, 0) (Qm κ ad σ enI okI X) 38 [(0, vo ad 4 (some 0)), (3, vi x3), (5, vi x5)] [] ad σ) → (Q11 (.inr (.inl (()))) → Z κ (0, 0) (Qm κ ad σ enI okI X) 59 [] [] ad σ) → (∀ (x3 : Int) (x5 : Int), Q11 (.inr (.inr ((x3, x5)))) → inr x3 → inr x5 → Z κ (0, 0) (Qm κ ad σ enI okI X) 111 [(0, vo ad 4 (some 0)), (3, vi x3), (5, vi x5)] [] ad σ) → ∀ (x3 : Int) (x4 : Int) (x5 : Int) (x6 : Int), inr x3 → inr x4 → inr x5 → inr x6 → wpO (fX4_lack_l11 x1 σ x3 x4 x5 x6) (onS P11 Q11) → Z κ (0, 0) (Qm κ ad σ enI okI X) 11 [(0, vo ad 4 (some 0)), (1, vj x1), (3, vi x3), (4, vi x4), (5, vi x5), (6, vi x6)] [] ad σ := by
      intro P11 Q11 hP11 hE11_38 hE11_59 hE11_111 x3 x4 x5 x6 hx3 hx4 hx5 hx6 h
      unfold fX4_lack_l11 at h
      have J91 : ∀ (x3 : Int) (x6 : Int) (x7 : Int) (s0 : Int), inr x3 → inr x6 → inr x7 → inr s0 → wpO (fX4_lack_j91 x1 x3 x6 x7 s0 σ) (onS P11 Q11) → Z κ (0, 0) (Qm κ ad σ enI okI X) 91 [(0, vo ad 4 (some 0)), (1, vj x1), (3, vi x3), (6, vi x6), (7, vi x7)] [vi s0] ad σ := by
        intro x3 x6 x7 s0 hx3 hx6 hx7 hs0 h
        unfold fX4_lack_j91 at h
        refine z_rng (fun hI14 hJ15 => ?_)
        refine z_istore (lv2 := [(5, vi s0), (0, vo ad 4 (some 0)), (1, vj x1), (3, vi x3), (6, vi x6), (7, vi x7)]) C dX4_lack_91 (by decide) rfl ?_
        refine z_iload_n C 3 dX4_lack_93 rfl ?_
        refine z_iload C 5 dX4_lack_94 rfl ?_
        refine z_iconst C dX4_lack_96 ?_
        refine z_cSp (st := []) T C (ct_X11_withMember x3 x7 1 hx3 hx7 (by decide)) lm_X4_35 ls_X11_withMember dX4_lack_97 rfl rfl trivial (by decide) (Nat.le_of_ble_eq_true rfl) csOK_0 h (fun r16 hr17 h => ?_)
        show Z κ (0, 0) _ 100 _ [vi r16] ad σ
        refine z_istore_n (lv2 := [(3, vi r16), (5, vi s0), (0, vo ad 4 (some 0)), (1, vj x1), (6, vi x6), (7, vi x7)]) C dX4_lack_100 (by decide) rfl ?_
        refine z_iload C 5 dX4_lack_101 rfl ?_
        refine z_istore (lv2 := [(4, vi x7), (3, vi r16), (5, vi s0), (0, vo ad 4 (some 0)), (1, vj x1), (6, vi x6), (7, vi x7)]) C dX4_lack_103 (by decide) rfl ?_
        obtain ⟨hk18, h⟩ := wpO_ck.mp h
        refine z_iinc (lv2 := [(6, vi (x6 + 1)), (4, vi x7), (3, vi r16), (5, vi s0), (0, vo ad 4 (some 0)), (1, vj x1), (7, vi x7)]) C 5 dX4_lack_105 rfl (by decide) rfl ?_
        refine z_goto C 11 dX4_lack_108 (by decide) ?_
        refine z_sub [4, 5, 2, 1, 3, 0] rfl ?_
        have h := wpO_some.mp h
        exact hP11 r16 x7 s0 (x6 + 1) h hr17 hx7 hs0 hk18
      have J90 : ∀ (x3 : Int) (x6 : Int) (x7 : Int), inr x3 → inr x6 → inr x7 → wpO (fX4_lack_j90 x1 x3 x6 x7 σ) (onS P11 Q11) → Z κ (0, 0) (Qm κ ad σ enI okI X) 90 [(0, vo ad 4 (some 0)), (1, vj x1), (3, vi x3), (6, vi x6), (7, vi x7)] [] ad σ := by
        intro x3 x6 x7 hx3 hx6 hx7 h
        unfold fX4_lack_j90 at h
        refine z_rng (fun hI19 hJ20 => ?_)
        refine z_iconst C dX4_lack_90 ?_
        exact J91 x3 x6 x7 0 hx3 hx6 hx7 (by decide) h
      have J86 : ∀ (x3 : Int) (x6 : Int) (x7 : Int), inr x3 → inr x6 → inr x7 → wpO (fX4_lack_j86 x1 x3 x6 x7 σ) (onS P11 Q11) → Z κ (0, 0) (Qm κ ad σ enI okI X) 86 [(0, vo ad 4 (some 0)), (1, vj x1), (3, vi x3), (6, vi x6), (7, vi x7)] [] ad σ := by
        intro x3 x6 x7 hx3 hx6 hx7 h
        unfold fX4_lack_j86 at h
        refine z_rng (fun hI21 hJ22 => ?_)
        refine z_iconst C dX4_lack_86 ?_
        refine z_goto C 91 dX4_lack_87 (by decide) ?_
        exact J91 x3 x6 x7 1 hx3 hx6 hx7 (by decide) h
      refine z_rng (fun hI23 hJ24 => ?_)
      refine z_iload C 5 dX4_lack_11 rfl ?_
      refine z_bipush C dX4_lack_13 (by decide) ?_
      refine z_icmp_ge C 111 hx6 (by decide) dX4_lack_15 (by decide) (fun q25 => ?_) (fun q25 => ?_)
      · have h := (wpO_ite.mp h).1 q25
        refine z_sub [0, 2, 4] rfl ?_
        have h := wpO_some.mp h
        exact hE11_111 x3 x5 h hx3 hx5
      · have h := (wpO_ite.mp h).2 q25
        refine z_lload_n C 1 dX4_lack_18 rfl ?_
        refine z_iconst C dX4_lack_19 ?_
        refine z_iload C 5 dX4_lack_20 rfl ?_
        obtain ⟨hk26, h⟩ := wpO_ck.mp h
        refine z_imul C dX4_lack_22 ?_
        refine z_lushr C dX4_lack_23 ?_
        refine z_ldc2_w C lc_X4_81 dX4_lack_24 ?_
        refine z_land C dX4_lack_27 ?_
        refine z_l2i C dX4_lack_28 ?_
        refine z_iconst C dX4_lack_29 ?_
        obtain ⟨hk27, h⟩ := wpO_ck.mp h
        refine z_isub C dX4_lack_30 ?_
        refine z_istore (lv2 := [(7, vi ((l2i (jand (jushr x1 (4 * x6)) 15)) - 1)), (0, vo ad 4 (some 0)), (1, vj x1), (3, vi x3), (4, vi x4), (5, vi x5), (6, vi x6)]) C dX4_lack_31 (by decide) rfl ?_
        refine z_iload C 0 dX4_lack_33 rfl ?_
        refine z_if_ge C 41 hk27 dX4_lack_35 (by decide) (fun q28 => ?_) (fun q28 => ?_)
        · have h := (wpO_ite.mp h).1 q28
          refine z_iload C 0 dX4_lack_41 rfl ?_
          refine z_aload_n C 1 dX4_lack_43 rfl ?_
          refine z_gIv (v := gI σ 504 0 0) C li_X4_43 (sg_4 T) rfl dX4_lack_44 ?_
          refine z_icmp_ge C 59 hk27 (hI23 504 0 _) dX4_lack_47 (by decide) (fun q29 => ?_) (fun q29 => ?_)
          · have h := (wpO_ite.mp h).1 q29
            refine z_sub [] rfl ?_
            have h := wpO_some.mp h
            exact hE11_59 h
          · have h := (wpO_ite.mp h).2 q29
            refine z_iload_n C 3 dX4_lack_50 rfl ?_
            refine z_iload C 0 dX4_lack_51 rfl ?_
            refine z_cSp (st := []) T C (ct_X11_hasMember x3 ((l2i (jand (jushr x1 (4 * x6)) 15)) - 1) hx3 hk27) lm_X4_31 ls_X11_hasMember dX4_lack_53 rfl rfl trivial (by decide) (Nat.le_of_ble_eq_true rfl) csOK_0 h (fun r30 hr31 h => ?_)
            show Z κ (0, 0) _ 56 _ [vi r30] ad σ
            refine z_if_eq C 61 (inr_b hr31) dX4_lack_56 (by decide) (fun q32 => ?_) (fun q32 => ?_)
            · have h := (wpO_ite.mp h).1 q32
              refine z_iload C 5 dX4_lack_61 rfl ?_
              refine z_if_ne C 86 hx5 dX4_lack_63 (by decide) (fun q33 => ?_) (fun q33 => ?_)
              · have h := (wpO_ite.mp h).2 q33
                refine z_sub [1, 2, 3, 6, 0] rfl ?_
                exact J86 x3 x6 ((l2i (jand (jushr x1 (4 * x6)) 15)) - 1) hx3 hx6 hk27 h
              · have h := (wpO_ite.mp h).1 q33
                refine z_iload C 4 dX4_lack_66 rfl ?_
                refine z_if_lt C 90 hx4 dX4_lack_68 (by decide) (fun q34 => ?_) (fun q34 => ?_)
                · have h := (wpO_ite.mp h).1 q34
                  refine z_sub [1, 2, 3, 6, 0] rfl ?_
                  exact J90 x3 x6 ((l2i (jand (jushr x1 (4 * x6)) 15)) - 1) hx3 hx6 hk27 h
                · have h := (wpO_ite.mp h).2 q34
                  refine z_aload_n C 1 dX4_lack_71 rfl ?_
                  refine z_gA T C li_X4_18 (sg_4 T) dX4_lack_72 ?_
                  refine z_iload C 0 dX4_lack_75 rfl ?_
                  obtain ⟨hb35, h⟩ := wpO_ck.mp h
                  refine z_iav (v := gI σ 502 0 (((l2i (jand (jushr x1 (4 * x6)) 15)) - 1).toNat)) C ar_502 (sg_502 T) hk27 hb35 rfl dX4_lack_77 ?_
                  refine z_iload C 4 dX4_lack_78 rfl ?_
                  refine z_cSp (st := []) T C (ct_X11_hasMember (gI σ 502 0 (((l2i (jand (jushr x1 (4 * x6)) 15)) - 1).toNat)) x4 (hI23 502 0 _) hx4) lm_X4_31 ls_X11_hasMember dX4_lack_80 rfl rfl trivial (by decide) (Nat.le_of_ble_eq_true rfl) csOK_0 h (fun r36 hr37 h => ?_)
                  show Z κ (0, 0) _ 83 _ [vi r36] ad σ
                  refine z_if_eq C 90 (inr_b hr37) dX4_lack_83 (by decide) (fun q38 => ?_) (fun q38 => ?_)
                  · have h := (wpO_ite.mp h).1 q38
                    refine z_sub [1, 2, 3, 6, 0] rfl ?_
                    exact J90 x3 x6 ((l2i (jand (jushr x1 (4 * x6)) 15)) - 1) hx3 hx6 hk27 h
                  · have h := (wpO_ite.mp h).2 q38
                    refine z_sub [1, 2, 3, 6, 0] rfl ?_
                    exact J86 x3 x6 ((l2i (jand (jushr x1 (4 * x6)) 15)) - 1) hx3 hx6 hk27 h
            · have h := (wpO_ite.mp h).2 q32
              refine z_sub [] rfl ?_
              have h := wpO_some.mp h
              exact hE11_59 h
        · have h := (wpO_ite.mp h).2 q28
          refine z_sub [1, 3, 5] rfl ?_
          have h := wpO_some.mp h
          exact hE11_38 x3 x5 h hx3 hx5
    exact wh_ind (P := fun s : (Int × Int × Int × Int) => inr s.1 → inr s.2.1 → inr s.2.2.1 → inr s.2.2.2 → Z κ (0, 0) (Qm κ ad σ enI okI X) 11 [(0, vo ad 4 (some 0)), (1, vj x1), (3, vi s.1), (4, vi s.2.1), (5, vi s.2.2.1), (6, vi s.2.2.2)] [] ad σ) (fun s hs g0 g1 g2 g3 => step _ _ (fun _ _ _ _ hp => hp) (fun x3 x5 hq hx3 hx5 => J38 x3 x5 hx3 hx5 hq) (fun hq => J59 hq) (fun x3 x5 hq hx3 hx5 => J111 x3 x5 hx3 hx5 hq) s.1 s.2.1 s.2.2.1 s.2.2.2 g0 g1 g2 g3 hs) ((x3, x4, x5, x6)) (wpO_bnk.mp h) hx3 hx4 hx5 hx6
  show Z κ (0, 0) (Qm κ ad σ enI okI X) 0 [(0, vo ad 4 (some 0)), (1, vj x1)] [] ad σ
  refine z_rng (fun hI39 hJ40 => ?_)
  refine z_iconst C dX4_lack_0 ?_
  refine z_istore_n (lv2 := [(3, vi 0), (0, vo ad 4 (some 0)), (1, vj x1)]) C dX4_lack_1 (by decide) rfl ?_
  refine z_iconst C dX4_lack_2 ?_
  refine z_istore (lv2 := [(4, vi ((-1))), (3, vi 0), (0, vo ad 4 (some 0)), (1, vj x1)]) C dX4_lack_3 (by decide) rfl ?_
  refine z_iconst C dX4_lack_5 ?_
  refine z_istore (lv2 := [(5, vi 0), (4, vi ((-1))), (3, vi 0), (0, vo ad 4 (some 0)), (1, vj x1)]) C dX4_lack_6 (by decide) rfl ?_
  refine z_iconst C dX4_lack_8 ?_
  refine z_istore (lv2 := [(6, vi 0), (5, vi 0), (4, vi ((-1))), (3, vi 0), (0, vo ad 4 (some 0)), (1, vj x1)]) C dX4_lack_9 (by decide) rfl ?_
  refine z_sub [4, 5, 3, 2, 1, 0] rfl ?_
  exact J11 x1 0 ((-1)) 0 0 hx1 (by decide) (by decide) (by decide) (by decide) h
noncomputable def fX11_judge (x1 : Int) (x2 : Int) (x3 : Int) (σ : St) : Option (Int × St) :=
  bnk (fX11_refuseLandDay x1 x2) (fun r3 => if r3 = 0 then (bnd (fX11_listStories x1 x2 σ) (fun _ σ8 => bnk (fX4_lack x3 σ8) (fun r12 => some (r12, σ8)))) else (some (r3, σ)))
set_option maxRecDepth 20000 in
set_option maxHeartbeats 4000000 in
theorem ct_X11_judge (x1 : Int) (x2 : Int) (x3 : Int) (hx1 : inr x1) (hx2 : inr x2) (hx3 : inq x3) : Ct yX11_judge cX11_judge 6 (some .int) 6 (fun ad => [vo ad 11 (some 0), vi x1, vi x2, vj x3]) (fX11_judge x1 x2 x3) enI okI (fun _ => True) := by
  refine Ct.of (by decide) (fun ad => Nat.le_of_ble_eq_true rfl) ?_
  intro κ ad σ X C T hpre h
  have C : Cx κ RX11 cX11_judge 6 (some .int) 6 := C
  unfold fX11_judge at h
  show Z κ (0, 0) (Qm κ ad σ enI okI X) 0 [(0, vo ad 11 (some 0)), (1, vi x1), (2, vi x2), (3, vj x3)] [] ad σ
  refine z_rng (fun hI1 hJ2 => ?_)
  refine z_iload_n C 1 dX11_judge_0 rfl ?_
  refine z_iload_n C 2 dX11_judge_1 rfl ?_
  refine z_cSp (st := []) T C (ct_X11_refuseLandDay x1 x2 hx1 hx2) lm_X11_321 ls_X11_refuseLandDay dX11_judge_2 rfl rfl trivial (by decide) (Nat.le_of_ble_eq_true rfl) csOK_0 h (fun r3 hr4 h => ?_)
  show Z κ (0, 0) _ 5 _ [vi r3] ad σ
  refine z_istore (lv2 := [(5, vi r3), (0, vo ad 11 (some 0)), (1, vi x1), (2, vi x2), (3, vj x3)]) C dX11_judge_5 (by decide) rfl ?_
  refine z_iload C 0 dX11_judge_7 rfl ?_
  refine z_if_eq C 15 hr4 dX11_judge_9 (by decide) (fun q5 => ?_) (fun q5 => ?_)
  · have h := (wpO_ite.mp h).1 q5
    refine z_aload_n C 1 dX11_judge_15 rfl ?_
    refine z_iload_n C 2 dX11_judge_16 rfl ?_
    refine z_iload_n C 3 dX11_judge_17 rfl ?_
    refine z_cV (st := []) T C (ct_X11_listStories x1 x2 hx1 hx2) lm_X11_325 lv_vX11_listStories dX11_judge_18 [vi x1, vi x2] rfl rfl rfl rfl rfl (sg_11 T) trivial (by decide) (Nat.le_of_ble_eq_true rfl) csOK_0 h (fun r6 σ8 hr7 eN9 h => ?_)
    show Z κ (0, 0) _ 21 _ [] ad σ8
    refine z_rng (fun hI10 hJ11 => ?_)
    refine z_aload_n C 1 dX11_judge_21 rfl ?_
    refine z_gR T C li_X11_65 (sg_11 T) dX11_judge_22 ?_
    refine z_lload_n C 4 dX11_judge_25 rfl ?_
    refine z_cVp (st := []) T C (ct_X4_lack x3 hx3) lm_X11_338 lv_vX4_lack dX11_judge_26 [vj x3] rfl rfl rfl rfl rfl (sg_4 T) trivial (by decide) (Nat.le_of_ble_eq_true rfl) csOK_0 h (fun r12 hr13 h => ?_)
    show Z κ (0, 0) _ 29 _ [vi r12] ad σ8
    have h := wpO_some.mp h
    exact z_ireturn T C dX11_judge_29 hr13 eN9 h
  · have h := (wpO_ite.mp h).2 q5
    refine z_iload C 0 dX11_judge_12 rfl ?_
    have h := wpO_some.mp h
    exact z_ireturn T C dX11_judge_14 hr4 rfl h
noncomputable def fX11_left (x1 : Int) (σ : St) : Option Int :=
  ck (inr ((gI σ 1214 0 0) - 1)) (bnk (fX11_within x1 0 ((gI σ 1214 0 0) - 1)) (fun r4 => if r4 = 0 then (some ((-1))) else (ck (0 ≤ x1 ∧ x1 < 8) (lt (gP σ 1213 0 x1.toNat) (fun r8 => mop r8 (fun j10 => ck (j10 < gN σ 5) (some (gI σ 604 j10 0))) none)))))
set_option maxRecDepth 20000 in
set_option maxHeartbeats 4000000 in
theorem ct_X11_left (x1 : Int) (hx1 : inr x1) : Ct yX11_left cX11_left 2 (some .int) 1 (fun ad => [vo ad 11 (some 0), vi x1]) (pu (fX11_left x1)) enI okI (fun _ => True) := by
  refine Ct.of (by decide) (fun ad => Nat.le_of_ble_eq_true rfl) ?_
  intro κ ad σ X C T hpre h
  have C : Cx κ RX11 cX11_left 2 (some .int) 1 := C
  have h := wpO_pu.mp h
  unfold fX11_left at h
  show Z κ (0, 0) (Qm κ ad σ enI okI X) 0 [(0, vo ad 11 (some 0)), (1, vi x1)] [] ad σ
  refine z_rng (fun hI1 hJ2 => ?_)
  refine z_iload_n C 1 dX11_left_0 rfl ?_
  refine z_iconst C dX11_left_1 ?_
  refine z_aload_n C 0 dX11_left_2 rfl ?_
  refine z_gIv (v := gI σ 1214 0 0) C li_X11_298 (sg_11 T) rfl dX11_left_3 ?_
  refine z_iconst C dX11_left_6 ?_
  obtain ⟨hk3, h⟩ := wpO_ck.mp h
  refine z_isub C dX11_left_7 ?_
  refine z_cSp (st := []) T C (ct_X11_within x1 0 ((gI σ 1214 0 0) - 1) hx1 (by decide) hk3) lm_X11_83 ls_X11_within dX11_left_8 rfl rfl trivial (by decide) (Nat.le_of_ble_eq_true rfl) csOK_0 h (fun r4 hr5 h => ?_)
  show Z κ (0, 0) _ 11 _ [vi r4] ad σ
  refine z_if_eq C 26 (inr_b hr5) dX11_left_11 (by decide) (fun q6 => ?_) (fun q6 => ?_)
  · have h := (wpO_ite.mp h).1 q6
    refine z_iconst C dX11_left_26 ?_
    have h := wpO_some.mp h
    exact z_ireturn T C dX11_left_27 (by decide) rfl h
  · have h := (wpO_ite.mp h).2 q6
    refine z_aload_n C 0 dX11_left_14 rfl ?_
    refine z_gA T C li_X11_58 (sg_11 T) dX11_left_15 ?_
    refine z_iload_n C 1 dX11_left_18 rfl ?_
    obtain ⟨hb7, h⟩ := wpO_ck.mp h
    refine z_aald (K := 5) (t0 := 7) C ar_1213 (fun _ => rfl) (sg_1213 T) hx1 hb7 dX11_left_19 (fun r8 hr9 => ?_)
    have h := lt_elim h r8 hr9
    obtain ⟨j10, hr11, h⟩ := mop_none h
    subst hr11
    obtain ⟨hj12, h⟩ := wpO_ck.mp h
    refine z_gIv (v := gI σ 604 j10 0) C li_X11_304 (nN rfl (toN rfl hj12)) rfl dX11_left_20 ?_
    refine z_goto C 27 dX11_left_23 (by decide) ?_
    have h := wpO_some.mp h
    exact z_ireturn T C dX11_left_27 (hI1 604 j10 _) rfl h
noncomputable def fX4_changeLength_j41 (x1 : Int) (x2 : Int) (s0 : Int) (σ1 : St) : Option (Int × St) :=
  if x1 = 0 then (some (s0, sI σ1 500 0 0 x2)) else (some (s0, sI σ1 501 0 0 x2))
noncomputable def fX4_changeLength_j26 (x1 : Int) (x2 : Int) (σ1 : St) : Option (Int × St) :=
  if x1 = 0 then (fX4_changeLength_j41 x1 x2 (gI σ1 500 0 0) σ1) else (fX4_changeLength_j41 x1 x2 (gI σ1 501 0 0) σ1)
noncomputable def fX4_changeLength (x1 : Int) (x2 : Int) (σ : St) : Option (Int × St) :=
  if x1 = 0 then (if x2 ≤ gI σ 501 0 0 then (fX4_changeLength_j26 x1 x2 σ) else (some ((-3), σ))) else (if gI σ 500 0 0 ≤ x2 then (fX4_changeLength_j26 x1 x2 σ) else (some ((-3), σ)))
set_option maxRecDepth 20000 in
set_option maxHeartbeats 4000000 in
theorem ct_X4_changeLength (x1 : Int) (x2 : Int) (hx1 : x1 = 0 ∨ x1 = 1) (hx2 : inr x2) : Ct yX4_changeLength cX4_changeLength 4 (some .int) 0 (fun ad => [vo ad 4 (some 0), vi x1, vi x2]) (fX4_changeLength x1 x2) enI okI (fun _ => True) := by
  refine Ct.of (by decide) (fun ad => Nat.le_of_ble_eq_true rfl) ?_
  intro κ ad σ X C T hpre h
  have C : Cx κ RX4 cX4_changeLength 4 (some .int) 0 := C
  unfold fX4_changeLength at h
  have J41 : ∀ (x1 : Int) (x2 : Int) (s0 : Int) (σ1 : St), inr x1 → inr x2 → inr s0 → σ1.2.2.2 = σ.2.2.2 → wpO (fX4_changeLength_j41 x1 x2 s0 σ1) (fun q => X q.1 q.2) → Z κ (0, 0) (Qm κ ad σ enI okI X) 41 [(0, vo ad 4 (some 0)), (1, vi x1), (2, vi x2)] [vi s0] ad σ1 := by
    intro x1 x2 s0 σ1 hx1 hx2 hs0 eN1 h
    unfold fX4_changeLength_j41 at h
    refine z_rng (fun hI1 hJ2 => ?_)
    refine z_istore_n (lv2 := [(3, vi s0), (0, vo ad 4 (some 0)), (1, vi x1), (2, vi x2)]) C dX4_changeLength_41 (by decide) rfl ?_
    refine z_iload_n C 2 dX4_changeLength_42 rfl ?_
    refine z_if_eq C 54 hx1 dX4_changeLength_43 (by decide) (fun q3 => ?_) (fun q3 => ?_)
    · have h := (wpO_ite.mp h).1 q3
      refine z_aload_n C 1 dX4_changeLength_54 rfl ?_
      refine z_iload_n C 3 dX4_changeLength_55 rfl ?_
      refine z_pI C lq_X4_9 (sg_4 T) hx2 dX4_changeLength_56 ?_
      refine z_iload_n C 0 dX4_changeLength_59 rfl ?_
      have h := wpO_some.mp h
      exact z_ireturn T C dX4_changeLength_60 hs0 eN1 h
    · have h := (wpO_ite.mp h).2 q3
      refine z_aload_n C 1 dX4_changeLength_46 rfl ?_
      refine z_iload_n C 3 dX4_changeLength_47 rfl ?_
      refine z_pI C lq_X4_15 (sg_4 T) hx2 dX4_changeLength_48 ?_
      refine z_goto C 59 dX4_changeLength_51 (by decide) ?_
      refine z_iload_n C 0 dX4_changeLength_59 rfl ?_
      have h := wpO_some.mp h
      exact z_ireturn T C dX4_changeLength_60 hs0 eN1 h
  have J26 : ∀ (x1 : Int) (x2 : Int) (σ1 : St), inr x1 → inr x2 → σ1.2.2.2 = σ.2.2.2 → wpO (fX4_changeLength_j26 x1 x2 σ1) (fun q => X q.1 q.2) → Z κ (0, 0) (Qm κ ad σ enI okI X) 26 [(0, vo ad 4 (some 0)), (1, vi x1), (2, vi x2)] [] ad σ1 := by
    intro x1 x2 σ1 hx1 hx2 eN1 h
    unfold fX4_changeLength_j26 at h
    refine z_rng (fun hI4 hJ5 => ?_)
    refine z_iload_n C 1 dX4_changeLength_26 rfl ?_
    refine z_if_eq C 37 hx1 dX4_changeLength_27 (by decide) (fun q6 => ?_) (fun q6 => ?_)
    · have h := (wpO_ite.mp h).1 q6
      refine z_aload_n C 0 dX4_changeLength_37 rfl ?_
      refine z_gIv (v := gI σ1 500 0 0) C li_X4_9 (sg_4 T) rfl dX4_changeLength_38 ?_
      exact J41 x1 x2 (gI σ1 500 0 0) σ1 hx1 hx2 (hI4 500 0 _) eN1 h
    · have h := (wpO_ite.mp h).2 q6
      refine z_aload_n C 0 dX4_changeLength_30 rfl ?_
      refine z_gIv (v := gI σ1 501 0 0) C li_X4_15 (sg_4 T) rfl dX4_changeLength_31 ?_
      refine z_goto C 41 dX4_changeLength_34 (by decide) ?_
      exact J41 x1 x2 (gI σ1 501 0 0) σ1 hx1 hx2 (hI4 501 0 _) eN1 h
  show Z κ (0, 0) (Qm κ ad σ enI okI X) 0 [(0, vo ad 4 (some 0)), (1, vi x1), (2, vi x2)] [] ad σ
  refine z_rng (fun hI7 hJ8 => ?_)
  refine z_iload_n C 1 dX4_changeLength_0 rfl ?_
  refine z_if_eq C 15 (inr_b hx1) dX4_changeLength_1 (by decide) (fun q9 => ?_) (fun q9 => ?_)
  · have h := (wpO_ite.mp h).1 q9
    refine z_iload_n C 2 dX4_changeLength_15 rfl ?_
    refine z_aload_n C 0 dX4_changeLength_16 rfl ?_
    refine z_gIv (v := gI σ 501 0 0) C li_X4_15 (sg_4 T) rfl dX4_changeLength_17 ?_
    refine z_icmp_le C 26 hx2 (hI7 501 0 _) dX4_changeLength_20 (by decide) (fun q10 => ?_) (fun q10 => ?_)
    · have h := (wpO_ite.mp h).1 q10
      exact J26 x1 x2 σ (inr_b hx1) hx2 rfl h
    · have h := (wpO_ite.mp h).2 q10
      refine z_bipush C dX4_changeLength_23 (by decide) ?_
      have h := wpO_some.mp h
      exact z_ireturn T C dX4_changeLength_25 (by decide) rfl h
  · have h := (wpO_ite.mp h).2 q9
    refine z_iload_n C 2 dX4_changeLength_4 rfl ?_
    refine z_aload_n C 0 dX4_changeLength_5 rfl ?_
    refine z_gIv (v := gI σ 500 0 0) C li_X4_9 (sg_4 T) rfl dX4_changeLength_6 ?_
    refine z_icmp_ge C 26 hx2 (hI7 500 0 _) dX4_changeLength_9 (by decide) (fun q11 => ?_) (fun q11 => ?_)
    · have h := (wpO_ite.mp h).1 q11
      exact J26 x1 x2 σ (inr_b hx1) hx2 rfl h
    · have h := (wpO_ite.mp h).2 q11
      refine z_goto C 23 dX4_changeLength_12 (by decide) ?_
      refine z_bipush C dX4_changeLength_23 (by decide) ?_
      have h := wpO_some.mp h
      exact z_ireturn T C dX4_changeLength_25 (by decide) rfl h
noncomputable def fX11_length (x1 : Int) (x2 : Int) (σ : St) : Option (Int × St) :=
  bnk (fX11_within x2 1 3000) (fun r3 => if r3 = 0 then (some ((-2), σ)) else (bnd (fX4_changeLength x1 x2 σ) (fun r6 σ8 => some (r6, σ8))))
set_option maxRecDepth 20000 in
set_option maxHeartbeats 4000000 in
theorem ct_X11_length (x1 : Int) (x2 : Int) (hx1 : x1 = 0 ∨ x1 = 1) (hx2 : inr x2) : Ct yX11_length cX11_length 3 (some .int) 1 (fun ad => [vo ad 11 (some 0), vi x1, vi x2]) (fX11_length x1 x2) enI okI (fun _ => True) := by
  refine Ct.of (by decide) (fun ad => Nat.le_of_ble_eq_true rfl) ?_
  intro κ ad σ X C T hpre h
  have C : Cx κ RX11 cX11_length 3 (some .int) 1 := C
  unfold fX11_length at h
  show Z κ (0, 0) (Qm κ ad σ enI okI X) 0 [(0, vo ad 11 (some 0)), (1, vi x1), (2, vi x2)] [] ad σ
  refine z_rng (fun hI1 hJ2 => ?_)
  refine z_iload_n C 2 dX11_length_0 rfl ?_
  refine z_iconst C dX11_length_1 ?_
  refine z_sipush C dX11_length_2 (by decide) ?_
  refine z_cSp (st := []) T C (ct_X11_within x2 1 3000 hx2 (by decide) (by decide)) lm_X11_83 ls_X11_within dX11_length_5 rfl rfl trivial (by decide) (Nat.le_of_ble_eq_true rfl) csOK_0 h (fun r3 hr4 h => ?_)
  show Z κ (0, 0) _ 8 _ [vi r3] ad σ
  refine z_if_eq C 23 (inr_b hr4) dX11_length_8 (by decide) (fun q5 => ?_) (fun q5 => ?_)
  · have h := (wpO_ite.mp h).1 q5
    refine z_bipush C dX11_length_23 (by decide) ?_
    have h := wpO_some.mp h
    exact z_ireturn T C dX11_length_25 (by decide) rfl h
  · have h := (wpO_ite.mp h).2 q5
    refine z_aload_n C 0 dX11_length_11 rfl ?_
    refine z_gR T C li_X11_65 (sg_11 T) dX11_length_12 ?_
    refine z_iload_n C 1 dX11_length_15 rfl ?_
    refine z_iload_n C 2 dX11_length_16 rfl ?_
    refine z_cV (st := []) T C (ct_X4_changeLength x1 x2 hx1 hx2) lm_X11_311 lv_vX4_changeLength dX11_length_17 [vi x1, vi x2] rfl rfl rfl rfl rfl (sg_4 T) trivial (by decide) (Nat.le_of_ble_eq_true rfl) csOK_0 h (fun r6 σ8 hr7 eN9 h => ?_)
    show Z κ (0, 0) _ 20 _ [vi r6] ad σ8
    refine z_rng (fun hI10 hJ11 => ?_)
    refine z_goto C 25 dX11_length_20 (by decide) ?_
    have h := wpO_some.mp h
    exact z_ireturn T C dX11_length_25 hr7 eN9 h
noncomputable def fX11_lie (x1 : Int) (x2 : Int) (x3 : Int) (σ : St) : Option Int :=
  bnk (fX11_shotNumbered x1 σ) (fun r3 => mop r3 (fun j5 => ck (j5 < gN σ 7) (bnk (fX11_isPlace x2) (fun r8 => if r8 = 0 then (some ((-1))) else (bnk (fX11_isHour x3) (fun r11 => if r11 = 0 then (some ((-2))) else (bnk (fX1_firstLie (gI σ 805 j5 0) x2 x3 σ) (fun r14 => some r14))))))) (some ((-1))))
set_option maxRecDepth 20000 in
set_option maxHeartbeats 4000000 in
theorem ct_X11_lie (x1 : Int) (x2 : Int) (x3 : Int) (hx1 : inr x1) (hx2 : inr x2) (hx3 : inr x3) : Ct yX11_lie cX11_lie 5 (some .int) 3 (fun ad => [vo ad 11 (some 0), vi x1, vi x2, vi x3]) (pu (fX11_lie x1 x2 x3)) enI okI (fun _ => True) := by
  refine Ct.of (by decide) (fun ad => Nat.le_of_ble_eq_true rfl) ?_
  intro κ ad σ X C T hpre h
  have C : Cx κ RX11 cX11_lie 5 (some .int) 3 := C
  have h := wpO_pu.mp h
  unfold fX11_lie at h
  show Z κ (0, 0) (Qm κ ad σ enI okI X) 0 [(0, vo ad 11 (some 0)), (1, vi x1), (2, vi x2), (3, vi x3)] [] ad σ
  refine z_rng (fun hI1 hJ2 => ?_)
  refine z_aload_n C 0 dX11_lie_0 rfl ?_
  refine z_iload_n C 1 dX11_lie_1 rfl ?_
  refine z_cVp (st := []) T C (ct_X11_shotNumbered x1 hx1) lm_X11_144 lv_vX11_shotNumbered dX11_lie_2 [vi x1] rfl rfl rfl rfl rfl (sg_11 T) trivial (by decide) (Nat.le_of_ble_eq_true rfl) csOK_0 h (fun r3 hr4 h => ?_)
  show Z κ (0, 0) _ 5 _ [vo ad 7 r3] ad σ
  refine z_astore (lv2 := [(4, vo ad 7 r3), (0, vo ad 11 (some 0)), (1, vi x1), (2, vi x2), (3, vi x3)]) C dX11_lie_5 (by decide) rfl ?_
  refine z_aload C 0 dX11_lie_7 rfl ?_
  refine z_ifnull C 19 dX11_lie_9 (by decide) (fun hr6 => ?_) (fun j5 hr6 => ?_)
  · have h := (wpO_mop.mp h).2 hr6
    subst hr6
    refine z_iconst C dX11_lie_19 ?_
    have h := wpO_some.mp h
    exact z_ireturn T C dX11_lie_20 (by decide) rfl h
  · have h := (wpO_mop.mp h).1 j5 hr6
    subst hr6
    obtain ⟨hj7, h⟩ := wpO_ck.mp h
    refine z_iload_n C 3 dX11_lie_12 rfl ?_
    refine z_cSp (st := []) T C (ct_X11_isPlace x2 hx2) lm_X11_90 ls_X11_isPlace dX11_lie_13 rfl rfl trivial (by decide) (Nat.le_of_ble_eq_true rfl) csOK_0 h (fun r8 hr9 h => ?_)
    show Z κ (0, 0) _ 16 _ [vi r8] ad σ
    refine z_if_ne C 21 (inr_b hr9) dX11_lie_16 (by decide) (fun q10 => ?_) (fun q10 => ?_)
    · have h := (wpO_ite.mp h).2 q10
      refine z_iload_n C 4 dX11_lie_21 rfl ?_
      refine z_cSp (st := []) T C (ct_X11_isHour x3 hx3) lm_X11_94 ls_X11_isHour dX11_lie_22 rfl rfl trivial (by decide) (Nat.le_of_ble_eq_true rfl) csOK_0 h (fun r11 hr12 h => ?_)
      show Z κ (0, 0) _ 25 _ [vi r11] ad σ
      refine z_if_eq C 45 (inr_b hr12) dX11_lie_25 (by decide) (fun q13 => ?_) (fun q13 => ?_)
      · have h := (wpO_ite.mp h).1 q13
        refine z_bipush C dX11_lie_45 (by decide) ?_
        have h := wpO_some.mp h
        exact z_ireturn T C dX11_lie_47 (by decide) rfl h
      · have h := (wpO_ite.mp h).2 q13
        refine z_aload_n C 1 dX11_lie_28 rfl ?_
        refine z_gR T C li_X11_19 (sg_11 T) dX11_lie_29 ?_
        refine z_aload C 0 dX11_lie_32 rfl ?_
        refine z_gIv (v := gI σ 805 j5 0) C li_X11_160 (nN rfl (toN rfl hj7)) rfl dX11_lie_34 ?_
        refine z_iload_n C 3 dX11_lie_37 rfl ?_
        refine z_iload_n C 4 dX11_lie_38 rfl ?_
        refine z_cVp (st := []) T C (ct_X1_firstLie (gI σ 805 j5 0) x2 x3 (hI1 805 j5 _) hx2 hx3) lm_X11_192 lv_vX1_firstLie dX11_lie_39 [vi (gI σ 805 j5 0), vi x2, vi x3] rfl rfl rfl rfl rfl (sg_1 T) trivial (by decide) (Nat.le_of_ble_eq_true rfl) csOK_0 h (fun r14 hr15 h => ?_)
        show Z κ (0, 0) _ 42 _ [vi r14] ad σ
        refine z_goto C 47 dX11_lie_42 (by decide) ?_
        have h := wpO_some.mp h
        exact z_ireturn T C dX11_lie_47 hr15 rfl h
    · have h := (wpO_ite.mp h).1 q10
      refine z_iconst C dX11_lie_19 ?_
      have h := wpO_some.mp h
      exact z_ireturn T C dX11_lie_20 (by decide) rfl h
noncomputable def fX11_lose (x1 : Int) (σ : St) : Option (Int × St) :=
  bnk (fX11_shotNumbered x1 σ) (fun r3 => mop r3 (fun j5 => ck (j5 < gN σ 7) (bnk (fX7_whereAt j5 (gI σ 1200 0 0) σ) (fun r8 => if r8 = 4 then (some ((-3), σ)) else (some (r8, sI σ 810 j5 0 (gI σ 1200 0 0)))))) (some ((-1), σ)))
set_option maxRecDepth 20000 in
set_option maxHeartbeats 4000000 in
theorem ct_X11_lose (x1 : Int) (hx1 : inr x1) : Ct yX11_lose cX11_lose 4 (some .int) 2 (fun ad => [vo ad 11 (some 0), vi x1]) (fX11_lose x1) enI okI (fun _ => True) := by
  refine Ct.of (by decide) (fun ad => Nat.le_of_ble_eq_true rfl) ?_
  intro κ ad σ X C T hpre h
  have C : Cx κ RX11 cX11_lose 4 (some .int) 2 := C
  unfold fX11_lose at h
  show Z κ (0, 0) (Qm κ ad σ enI okI X) 0 [(0, vo ad 11 (some 0)), (1, vi x1)] [] ad σ
  refine z_rng (fun hI1 hJ2 => ?_)
  refine z_aload_n C 0 dX11_lose_0 rfl ?_
  refine z_iload_n C 1 dX11_lose_1 rfl ?_
  refine z_cVp (st := []) T C (ct_X11_shotNumbered x1 hx1) lm_X11_144 lv_vX11_shotNumbered dX11_lose_2 [vi x1] rfl rfl rfl rfl rfl (sg_11 T) trivial (by decide) (Nat.le_of_ble_eq_true rfl) csOK_0 h (fun r3 hr4 h => ?_)
  show Z κ (0, 0) _ 5 _ [vo ad 7 r3] ad σ
  refine z_astore_n (lv2 := [(2, vo ad 7 r3), (0, vo ad 11 (some 0)), (1, vi x1)]) C dX11_lose_5 (by decide) rfl ?_
  refine z_aload_n C 0 dX11_lose_6 rfl ?_
  refine z_ifnonnull C 12 dX11_lose_7 (by decide) (fun j5 hr6 => ?_) (fun hr6 => ?_)
  · have h := (wpO_mop.mp h).1 j5 hr6
    subst hr6
    obtain ⟨hj7, h⟩ := wpO_ck.mp h
    refine z_aload_n C 0 dX11_lose_12 rfl ?_
    refine z_aload_n C 1 dX11_lose_13 rfl ?_
    refine z_gIv (v := gI σ 1200 0 0) C li_X11_87 (sg_11 T) rfl dX11_lose_14 ?_
    refine z_cVp (st := []) T C (ct_X7_whereAt j5 (gI σ 1200 0 0) (hI1 1200 0 _)) lm_X11_166 lv_vX7_whereAt dX11_lose_17 [vi (gI σ 1200 0 0)] rfl rfl rfl rfl rfl (nN rfl (toN rfl hj7)) (nNl rfl (toN rfl hj7)) (by decide) (Nat.le_of_ble_eq_true rfl) csOK_0 h (fun r8 hr9 h => ?_)
    show Z κ (0, 0) _ 20 _ [vi r8] ad σ
    refine z_istore_n (lv2 := [(3, vi r8), (2, vo ad 7 (some j5)), (0, vo ad 11 (some 0)), (1, vi x1)]) C dX11_lose_20 (by decide) rfl ?_
    refine z_iload_n C 0 dX11_lose_21 rfl ?_
    refine z_iconst C dX11_lose_22 ?_
    refine z_icmp_ne C 29 hr9 (by decide) dX11_lose_23 (by decide) (fun q10 => ?_) (fun q10 => ?_)
    · have h := (wpO_ite.mp h).2 q10
      refine z_aload_n C 1 dX11_lose_29 rfl ?_
      refine z_aload_n C 2 dX11_lose_30 rfl ?_
      refine z_gIv (v := gI σ 1200 0 0) C li_X11_87 (sg_11 T) rfl dX11_lose_31 ?_
      refine z_pI C lq_X11_182 (nN rfl (toN rfl hj7)) (hI1 1200 0 _) dX11_lose_34 ?_
      refine z_iload_n C 0 dX11_lose_37 rfl ?_
      have h := wpO_some.mp h
      exact z_ireturn T C dX11_lose_38 hr9 rfl h
    · have h := (wpO_ite.mp h).1 q10
      refine z_bipush C dX11_lose_26 (by decide) ?_
      have h := wpO_some.mp h
      exact z_ireturn T C dX11_lose_28 (by decide) rfl h
  · have h := (wpO_mop.mp h).2 hr6
    subst hr6
    refine z_iconst C dX11_lose_10 ?_
    have h := wpO_some.mp h
    exact z_ireturn T C dX11_lose_11 (by decide) rfl h
noncomputable def fX11_man (x1 : Int) (x2 : Int) (x3 : Int) (σ : St) : Option (Int × St) :=
  bnk (fX11_within x1 0 3) (fun r3 => if r3 = 0 then (some ((-1), σ)) else (bnk (fX11_isPlace x2) (fun r6 => if r6 = 0 then (some ((-1), σ)) else (bnk (fX11_isHour x3) (fun r9 => if r9 = 0 then (some ((-2), σ)) else (bnd (fX0_station x1 x2 x3 σ) (fun _ σ14 => some (1, σ14))))))))
set_option maxRecDepth 20000 in
set_option maxHeartbeats 4000000 in
theorem ct_X11_man (x1 : Int) (x2 : Int) (x3 : Int) (hx1 : inr x1) (hx2 : inr x2) (hx3 : inr x3) : Ct yX11_man cX11_man 4 (some .int) 2 (fun ad => [vo ad 11 (some 0), vi x1, vi x2, vi x3]) (fX11_man x1 x2 x3) enI okI (fun _ => True) := by
  refine Ct.of (by decide) (fun ad => Nat.le_of_ble_eq_true rfl) ?_
  intro κ ad σ X C T hpre h
  have C : Cx κ RX11 cX11_man 4 (some .int) 2 := C
  unfold fX11_man at h
  show Z κ (0, 0) (Qm κ ad σ enI okI X) 0 [(0, vo ad 11 (some 0)), (1, vi x1), (2, vi x2), (3, vi x3)] [] ad σ
  refine z_rng (fun hI1 hJ2 => ?_)
  refine z_iload_n C 1 dX11_man_0 rfl ?_
  refine z_iconst C dX11_man_1 ?_
  refine z_iconst C dX11_man_2 ?_
  refine z_cSp (st := []) T C (ct_X11_within x1 0 3 hx1 (by decide) (by decide)) lm_X11_83 ls_X11_within dX11_man_3 rfl rfl trivial (by decide) (Nat.le_of_ble_eq_true rfl) csOK_0 h (fun r3 hr4 h => ?_)
  show Z κ (0, 0) _ 6 _ [vi r3] ad σ
  refine z_if_eq C 16 (inr_b hr4) dX11_man_6 (by decide) (fun q5 => ?_) (fun q5 => ?_)
  · have h := (wpO_ite.mp h).1 q5
    refine z_iconst C dX11_man_16 ?_
    have h := wpO_some.mp h
    exact z_ireturn T C dX11_man_17 (by decide) rfl h
  · have h := (wpO_ite.mp h).2 q5
    refine z_iload_n C 2 dX11_man_9 rfl ?_
    refine z_cSp (st := []) T C (ct_X11_isPlace x2 hx2) lm_X11_90 ls_X11_isPlace dX11_man_10 rfl rfl trivial (by decide) (Nat.le_of_ble_eq_true rfl) csOK_0 h (fun r6 hr7 h => ?_)
    show Z κ (0, 0) _ 13 _ [vi r6] ad σ
    refine z_if_ne C 18 (inr_b hr7) dX11_man_13 (by decide) (fun q8 => ?_) (fun q8 => ?_)
    · have h := (wpO_ite.mp h).2 q8
      refine z_iload_n C 3 dX11_man_18 rfl ?_
      refine z_cSp (st := []) T C (ct_X11_isHour x3 hx3) lm_X11_94 ls_X11_isHour dX11_man_19 rfl rfl trivial (by decide) (Nat.le_of_ble_eq_true rfl) csOK_0 h (fun r9 hr10 h => ?_)
      show Z κ (0, 0) _ 22 _ [vi r9] ad σ
      refine z_if_ne C 28 (inr_b hr10) dX11_man_22 (by decide) (fun q11 => ?_) (fun q11 => ?_)
      · have h := (wpO_ite.mp h).2 q11
        refine z_aload_n C 0 dX11_man_28 rfl ?_
        refine z_gR T C li_X11_72 (sg_11 T) dX11_man_29 ?_
        refine z_iload_n C 1 dX11_man_32 rfl ?_
        refine z_iload_n C 2 dX11_man_33 rfl ?_
        refine z_iload_n C 3 dX11_man_34 rfl ?_
        refine z_cV (st := []) T C (ct_X0_station x1 x2 x3 hx1 hx2 hx3) lm_X11_344 lv_vX0_station dX11_man_35 [vi x1, vi x2, vi x3] rfl rfl rfl rfl rfl (sg_0 T) trivial (by decide) (Nat.le_of_ble_eq_true rfl) csOK_0 h (fun r12 σ14 hr13 eN15 h => ?_)
        show Z κ (0, 0) _ 38 _ [] ad σ14
        refine z_rng (fun hI16 hJ17 => ?_)
        refine z_iconst C dX11_man_38 ?_
        have h := wpO_some.mp h
        exact z_ireturn T C dX11_man_39 (by decide) eN15 h
      · have h := (wpO_ite.mp h).1 q11
        refine z_bipush C dX11_man_25 (by decide) ?_
        have h := wpO_some.mp h
        exact z_ireturn T C dX11_man_27 (by decide) rfl h
    · have h := (wpO_ite.mp h).1 q8
      refine z_iconst C dX11_man_16 ?_
      have h := wpO_some.mp h
      exact z_ireturn T C dX11_man_17 (by decide) rfl h
noncomputable def fX11_must (x1 : Int) (x2 : Int) (σ : St) : Option (Int × St) :=
  bnk (fX11_storyNumbered x1 σ) (fun r3 => mop r3 (fun j5 => ck (j5 < gN σ 8) (ck (gI σ 907 j5 0 = 0 ∨ gI σ 907 j5 0 = 1) (bnk (fX11_asNumber (gI σ 907 j5 0)) (fun r9 => some (r9, sI σ 907 j5 0 x2))))) (some ((-1), σ)))
set_option maxRecDepth 20000 in
set_option maxHeartbeats 4000000 in
theorem ct_X11_must (x1 : Int) (x2 : Int) (hx1 : inr x1) (hx2 : x2 = 0 ∨ x2 = 1) : Ct yX11_must cX11_must 5 (some .int) 2 (fun ad => [vo ad 11 (some 0), vi x1, vi x2]) (fX11_must x1 x2) enI okI (fun _ => True) := by
  refine Ct.of (by decide) (fun ad => Nat.le_of_ble_eq_true rfl) ?_
  intro κ ad σ X C T hpre h
  have C : Cx κ RX11 cX11_must 5 (some .int) 2 := C
  unfold fX11_must at h
  show Z κ (0, 0) (Qm κ ad σ enI okI X) 0 [(0, vo ad 11 (some 0)), (1, vi x1), (2, vi x2)] [] ad σ
  refine z_rng (fun hI1 hJ2 => ?_)
  refine z_aload_n C 0 dX11_must_0 rfl ?_
  refine z_iload_n C 1 dX11_must_1 rfl ?_
  refine z_cVp (st := []) T C (ct_X11_storyNumbered x1 hx1) lm_X11_205 lv_vX11_storyNumbered dX11_must_2 [vi x1] rfl rfl rfl rfl rfl (sg_11 T) trivial (by decide) (Nat.le_of_ble_eq_true rfl) csOK_0 h (fun r3 hr4 h => ?_)
  show Z κ (0, 0) _ 5 _ [vo ad 8 r3] ad σ
  refine z_astore_n (lv2 := [(3, vo ad 8 r3), (0, vo ad 11 (some 0)), (1, vi x1), (2, vi x2)]) C dX11_must_5 (by decide) rfl ?_
  refine z_aload_n C 0 dX11_must_6 rfl ?_
  refine z_ifnonnull C 12 dX11_must_7 (by decide) (fun j5 hr6 => ?_) (fun hr6 => ?_)
  · have h := (wpO_mop.mp h).1 j5 hr6
    subst hr6
    obtain ⟨hj7, h⟩ := wpO_ck.mp h
    refine z_aload_n C 0 dX11_must_12 rfl ?_
    refine z_gIv (v := gI σ 907 j5 0) C li_X11_227 (nN rfl (toN rfl hj7)) rfl dX11_must_13 ?_
    refine z_istore (lv2 := [(4, vi (gI σ 907 j5 0)), (3, vo ad 8 (some j5)), (0, vo ad 11 (some 0)), (1, vi x1), (2, vi x2)]) C dX11_must_16 (by decide) rfl ?_
    refine z_aload_n C 1 dX11_must_18 rfl ?_
    refine z_iload_n C 4 dX11_must_19 rfl ?_
    refine z_pB C lq_X11_227 (nN rfl (toN rfl hj7)) hx2 dX11_must_20 ?_
    refine z_iload C 0 dX11_must_23 rfl ?_
    obtain ⟨hb8, h⟩ := wpO_ck.mp h
    refine z_cSp (st := []) T C (ct_X11_asNumber (gI σ 907 j5 0) hb8) lm_X11_223 ls_X11_asNumber dX11_must_25 rfl rfl trivial (by decide) (Nat.le_of_ble_eq_true rfl) csOK_0 h (fun r9 hr10 h => ?_)
    show Z κ (0, 0) _ 28 _ [vi r9] ad (sI σ 907 j5 0 x2)
    have h := wpO_some.mp h
    exact z_ireturn T C dX11_must_28 hr10 rfl h
  · have h := (wpO_mop.mp h).2 hr6
    subst hr6
    refine z_iconst C dX11_must_10 ?_
    have h := wpO_some.mp h
    exact z_ireturn T C dX11_must_11 (by decide) rfl h
noncomputable def fX8_disorder_j56 (σ : St) : Option Int :=
  some ((-9))
noncomputable def fX8_disorder_j48 (x1 : Int) (σ : St) : Option Int :=
  some x1
noncomputable def fX8_disorder_l2 (x0 : Nat) (σ : St) (x1 : Int) : Option (Int ⊕ (Int ⊕ Unit)) :=
  if gI σ 905 x0 0 ≤ x1 then (some (.inr (.inr (())))) else (ck (inr (x1 - 1)) (ck (0 ≤ x1 - 1 ∧ x1 - 1 < 6) (lt (gP σ 904 x0 ((x1 - 1).toNat)) (fun r10 => mop r10 (fun j12 => ck (j12 < gN σ 7) (ck (0 ≤ x1 ∧ x1 < 6) (lt (gP σ 904 x0 x1.toNat) (fun r16 => mop r16 (fun j18 => ck (j18 < gN σ 7) (if gI σ 802 j18 0 < gI σ 802 j12 0 then (some (.inr (.inl x1))) else (bnk (fX11_dayOf (gI σ 802 j18 0)) (fun r22 => bnk (fX11_dayOf (gI σ 802 j12 0)) (fun r24 => if r22 = r24 then (ck (inr (x1 + 1)) (some (.inl (x1 + 1)))) else (some (.inr (.inl x1)))))))) none)))) none))))
noncomputable def fX8_disorder_j2 (x0 : Nat) (x1 : Int) (σ : St) : Option Int :=
  bnk (wh (fun s => fX8_disorder_l2 x0 σ s) x1) (fun e => Sum.elim (fun a0 => fX8_disorder_j48 a0 σ) (fun b0 => fX8_disorder_j56 σ) e)
noncomputable def fX8_disorder (x0 : Nat) (σ : St) : Option Int :=
  fX8_disorder_j2 x0 1 σ
set_option maxRecDepth 20000 in
set_option maxHeartbeats 4000000 in
theorem ct_X8_disorder (x0 : Nat) : Ct yX8_disorder cX8_disorder 4 (some .int) 1 (fun ad => [vo ad 8 (some x0)]) (pu (fX8_disorder x0)) enI okI (fun σ => x0 < gN σ 8) := by
  refine Ct.of (by decide) (fun ad => Nat.le_of_ble_eq_true rfl) ?_
  intro κ ad σ X C T hpre h
  have C : Cx κ RX8 cX8_disorder 4 (some .int) 1 := C
  have h := wpO_pu.mp h
  have hx0 : x0 < gN σ 8 := hpre
  unfold fX8_disorder at h
  have J56 : wpO (fX8_disorder_j56 σ) (fun r => X r σ) → Z κ (0, 0) (Qm κ ad σ enI okI X) 56 [] [] ad σ := by
    intro h
    unfold fX8_disorder_j56 at h
    refine z_rng (fun hI1 hJ2 => ?_)
    refine z_bipush C dX8_disorder_56 (by decide) ?_
    have h := wpO_some.mp h
    exact z_ireturn T C dX8_disorder_58 (by decide) rfl h
  have J48 : ∀ (x1 : Int), inr x1 → wpO (fX8_disorder_j48 x1 σ) (fun r => X r σ) → Z κ (0, 0) (Qm κ ad σ enI okI X) 48 [(1, vi x1)] [] ad σ := by
    intro x1 hx1 h
    unfold fX8_disorder_j48 at h
    refine z_rng (fun hI3 hJ4 => ?_)
    refine z_iload_n C 0 dX8_disorder_48 rfl ?_
    have h := wpO_some.mp h
    exact z_ireturn T C dX8_disorder_49 hx1 rfl h
  have J2 : ∀ (x0 : Nat) (x1 : Int), x0 < gN σ 8 → inr x1 → wpO (fX8_disorder_j2 x0 x1 σ) (fun r => X r σ) → Z κ (0, 0) (Qm κ ad σ enI okI X) 2 [(0, vo ad 8 (some x0)), (1, vi x1)] [] ad σ := by
    intro x0 x1 hx0 hx1 h
    unfold fX8_disorder_j2 at h
    have step : ∀ (P2 : Int → Prop) (Q2 : (Int ⊕ Unit) → Prop), (∀ (x1 : Int), P2 x1 → inr x1 → Z κ (0, 0) (Qm κ ad σ enI okI X) 2 [(0, vo ad 8 (some x0)), (1, vi x1)] [] ad σ) → (∀ (x1 : Int), Q2 (.inl x1) → inr x1 → Z κ (0, 0) (Qm κ ad σ enI okI X) 48 [(1, vi x1)] [] ad σ) → (Q2 (.inr (())) → Z κ (0, 0) (Qm κ ad σ enI okI X) 56 [] [] ad σ) → ∀ (x1 : Int), inr x1 → wpO (fX8_disorder_l2 x0 σ x1) (onS P2 Q2) → Z κ (0, 0) (Qm κ ad σ enI okI X) 2 [(0, vo ad 8 (some x0)), (1, vi x1)] [] ad σ := by
      intro P2 Q2 hP2 hE2_48 hE2_56 x1 hx1 h
      unfold fX8_disorder_l2 at h
      refine z_rng (fun hI5 hJ6 => ?_)
      refine z_iload_n C 1 dX8_disorder_2 rfl ?_
      refine z_aload_n C 0 dX8_disorder_3 rfl ?_
      refine z_gIv (v := gI σ 905 x0 0) C li_X8_30 (nN rfl hx0) rfl dX8_disorder_4 ?_
      refine z_icmp_ge C 56 hx1 (hI5 905 x0 _) dX8_disorder_7 (by decide) (fun q7 => ?_) (fun q7 => ?_)
      · have h := (wpO_ite.mp h).1 q7
        refine z_sub [] rfl ?_
        have h := wpO_some.mp h
        exact hE2_56 h
      · have h := (wpO_ite.mp h).2 q7
        refine z_aload_n C 0 dX8_disorder_10 rfl ?_
        refine z_gA T C li_X8_11 (nN rfl hx0) dX8_disorder_11 ?_
        refine z_iload_n C 1 dX8_disorder_14 rfl ?_
        refine z_iconst C dX8_disorder_15 ?_
        obtain ⟨hk8, h⟩ := wpO_ck.mp h
        refine z_isub C dX8_disorder_16 ?_
        obtain ⟨hb9, h⟩ := wpO_ck.mp h
        refine z_aald (K := 7) (t0 := 4) C ar_904 (fun _ => rfl) (nN9 T rfl hx0) hk8 hb9 dX8_disorder_17 (fun r10 hr11 => ?_)
        have h := lt_elim h r10 hr11
        obtain ⟨j12, hr13, h⟩ := mop_none h
        subst hr13
        obtain ⟨hj14, h⟩ := wpO_ck.mp h
        refine z_gIv (v := gI σ 802 j12 0) C li_X8_43 (nN rfl (toN rfl hj14)) rfl dX8_disorder_18 ?_
        refine z_istore_n (lv2 := [(2, vi (gI σ 802 j12 0)), (0, vo ad 8 (some x0)), (1, vi x1)]) C dX8_disorder_21 (by decide) rfl ?_
        refine z_aload_n C 1 dX8_disorder_22 rfl ?_
        refine z_gA T C li_X8_11 (nN rfl hx0) dX8_disorder_23 ?_
        refine z_iload_n C 2 dX8_disorder_26 rfl ?_
        obtain ⟨hb15, h⟩ := wpO_ck.mp h
        refine z_aald (K := 7) (t0 := 4) C ar_904 (fun _ => rfl) (nN9 T rfl hx0) hx1 hb15 dX8_disorder_27 (fun r16 hr17 => ?_)
        have h := lt_elim h r16 hr17
        obtain ⟨j18, hr19, h⟩ := mop_none h
        subst hr19
        obtain ⟨hj20, h⟩ := wpO_ck.mp h
        refine z_gIv (v := gI σ 802 j18 0) C li_X8_43 (nN rfl (toN rfl hj20)) rfl dX8_disorder_28 ?_
        refine z_istore_n (lv2 := [(3, vi (gI σ 802 j18 0)), (2, vi (gI σ 802 j12 0)), (0, vo ad 8 (some x0)), (1, vi x1)]) C dX8_disorder_31 (by decide) rfl ?_
        refine z_iload_n C 0 dX8_disorder_32 rfl ?_
        refine z_iload_n C 1 dX8_disorder_33 rfl ?_
        refine z_icmp_lt C 48 (hI5 802 j18 _) (hI5 802 j12 _) dX8_disorder_34 (by decide) (fun q21 => ?_) (fun q21 => ?_)
        · have h := (wpO_ite.mp h).1 q21
          refine z_sub [3] rfl ?_
          have h := wpO_some.mp h
          exact hE2_48 x1 h hx1
        · have h := (wpO_ite.mp h).2 q21
          refine z_iload_n C 0 dX8_disorder_37 rfl ?_
          refine z_cSp (st := []) T C (ct_X11_dayOf (gI σ 802 j18 0) (hI5 802 j18 _)) lm_X8_44 ls_X11_dayOf dX8_disorder_38 rfl rfl trivial (by decide) (Nat.le_of_ble_eq_true rfl) csOK_0 h (fun r22 hr23 h => ?_)
          show Z κ (0, 0) _ 41 _ [vi r22] ad σ
          refine z_iload_n C 1 dX8_disorder_41 rfl ?_
          refine z_cSp (st := [vi r22]) T C (ct_X11_dayOf (gI σ 802 j12 0) (hI5 802 j12 _)) lm_X8_44 ls_X11_dayOf dX8_disorder_42 rfl rfl trivial (by decide) (Nat.le_of_ble_eq_true rfl) csOK_0 h (fun r24 hr25 h => ?_)
          show Z κ (0, 0) _ 45 _ [vi r24, vi r22] ad σ
          refine z_icmp_eq C 50 hr23 hr25 dX8_disorder_45 (by decide) (fun q26 => ?_) (fun q26 => ?_)
          · have h := (wpO_ite.mp h).1 q26
            obtain ⟨hk27, h⟩ := wpO_ck.mp h
            refine z_iinc (lv2 := [(1, vi (x1 + 1)), (3, vi (gI σ 802 j18 0)), (2, vi (gI σ 802 j12 0)), (0, vo ad 8 (some x0))]) C 3 dX8_disorder_50 rfl (by decide) rfl ?_
            refine z_goto C 2 dX8_disorder_53 (by decide) ?_
            refine z_sub [3, 0] rfl ?_
            have h := wpO_some.mp h
            exact hP2 (x1 + 1) h hk27
          · have h := (wpO_ite.mp h).2 q26
            refine z_sub [3] rfl ?_
            have h := wpO_some.mp h
            exact hE2_48 x1 h hx1
    exact wh_ind (P := fun s : Int => inr s → Z κ (0, 0) (Qm κ ad σ enI okI X) 2 [(0, vo ad 8 (some x0)), (1, vi s)] [] ad σ) (fun s hs g0 => step _ _ (fun _ hp => hp) (fun x1 hq hx1 => J48 x1 hx1 hq) (fun hq => J56 hq) s g0 hs) x1 (wpO_bnk.mp h) hx1
  show Z κ (0, 0) (Qm κ ad σ enI okI X) 0 [(0, vo ad 8 (some x0))] [] ad σ
  refine z_rng (fun hI28 hJ29 => ?_)
  refine z_iconst C dX8_disorder_0 ?_
  refine z_istore_n (lv2 := [(1, vi 1), (0, vo ad 8 (some x0))]) C dX8_disorder_1 (by decide) rfl ?_
  refine z_sub [1, 0] rfl ?_
  exact J2 x0 1 hx0 (by decide) h
noncomputable def fX11_of (x1 : Int) (x2 : Int) (σ : St) : Option Int :=
  bnk (fX11_storyNumbered x1 σ) (fun r3 => mop r3 (fun j5 => ck (j5 < gN σ 8) (if x2 = 0 then (some (gI σ 905 j5 0)) else (if x2 = 1 then (bnk (fX8_allFeet j5 σ) (fun r10 => some r10)) else (if x2 = 2 then (bnk (fX8_disorder j5 σ) (fun r13 => some r13)) else (if x2 = 3 then (bnk (fX8_oldOnes j5 (gI σ 1207 0 0) σ) (fun r16 => some r16)) else (if x2 = 4 then (bnk (fX8_falseOnes j5 σ) (fun r19 => some r19)) else (if x2 = 5 then (bnk (fX8_lentOnes j5 σ) (fun r22 => some r22)) else (if x2 = 6 then (bnk (fX8_isReady j5 (gI σ 1200 0 0) σ) (fun r25 => bnk (fX11_asNumber r25) (fun r27 => some r27))) else (some ((-2))))))))))) (some ((-1))))
set_option maxRecDepth 20000 in
set_option maxHeartbeats 4000000 in
theorem ct_X11_of (x1 : Int) (x2 : Int) (hx1 : inr x1) (hx2 : inr x2) : Ct yX11_of cX11_of 4 (some .int) 4 (fun ad => [vo ad 11 (some 0), vi x1, vi x2]) (pu (fX11_of x1 x2)) enI okI (fun _ => True) := by
  refine Ct.of (by decide) (fun ad => Nat.le_of_ble_eq_true rfl) ?_
  intro κ ad σ X C T hpre h
  have C : Cx κ RX11 cX11_of 4 (some .int) 4 := C
  have h := wpO_pu.mp h
  unfold fX11_of at h
  show Z κ (0, 0) (Qm κ ad σ enI okI X) 0 [(0, vo ad 11 (some 0)), (1, vi x1), (2, vi x2)] [] ad σ
  refine z_rng (fun hI1 hJ2 => ?_)
  refine z_aload_n C 0 dX11_of_0 rfl ?_
  refine z_iload_n C 1 dX11_of_1 rfl ?_
  refine z_cVp (st := []) T C (ct_X11_storyNumbered x1 hx1) lm_X11_205 lv_vX11_storyNumbered dX11_of_2 [vi x1] rfl rfl rfl rfl rfl (sg_11 T) trivial (by decide) (Nat.le_of_ble_eq_true rfl) csOK_0 h (fun r3 hr4 h => ?_)
  show Z κ (0, 0) _ 5 _ [vo ad 8 r3] ad σ
  refine z_astore_n (lv2 := [(3, vo ad 8 r3), (0, vo ad 11 (some 0)), (1, vi x1), (2, vi x2)]) C dX11_of_5 (by decide) rfl ?_
  refine z_aload_n C 0 dX11_of_6 rfl ?_
  refine z_ifnonnull C 12 dX11_of_7 (by decide) (fun j5 hr6 => ?_) (fun hr6 => ?_)
  · have h := (wpO_mop.mp h).1 j5 hr6
    subst hr6
    obtain ⟨hj7, h⟩ := wpO_ck.mp h
    refine z_iload_n C 3 dX11_of_12 rfl ?_
    by_cases q8 : x2 = 0
    · have h := (wpO_ite.mp h).1 q8
      refine z_tableIn (off := 43) C 56 hx2 dX11_of_13 (by omega) (by omega) (by rw [q8]; rfl) (by decide) ?_
      refine z_aload_n C 0 dX11_of_56 rfl ?_
      refine z_gIv (v := gI σ 905 j5 0) C li_X11_230 (nN rfl (toN rfl hj7)) rfl dX11_of_57 ?_
      have h := wpO_some.mp h
      exact z_ireturn T C dX11_of_60 (hI1 905 j5 _) rfl h
    have h := (wpO_ite.mp h).2 q8
    by_cases q9 : x2 = 1
    · have h := (wpO_ite.mp h).1 q9
      refine z_tableIn (off := 48) C 61 hx2 dX11_of_13 (by omega) (by omega) (by rw [q9]; rfl) (by decide) ?_
      refine z_aload_n C 0 dX11_of_61 rfl ?_
      refine z_cVp (st := []) T C (ct_X8_allFeet j5) lm_X11_233 lv_vX8_allFeet dX11_of_62 [] rfl rfl rfl rfl rfl (nN rfl (toN rfl hj7)) (nNl rfl (toN rfl hj7)) (by decide) (Nat.le_of_ble_eq_true rfl) csOK_0 h (fun r10 hr11 h => ?_)
      show Z κ (0, 0) _ 65 _ [vi r10] ad σ
      have h := wpO_some.mp h
      exact z_ireturn T C dX11_of_65 hr11 rfl h
    have h := (wpO_ite.mp h).2 q9
    by_cases q12 : x2 = 2
    · have h := (wpO_ite.mp h).1 q12
      refine z_tableIn (off := 53) C 66 hx2 dX11_of_13 (by omega) (by omega) (by rw [q12]; rfl) (by decide) ?_
      refine z_aload_n C 0 dX11_of_66 rfl ?_
      refine z_cVp (st := []) T C (ct_X8_disorder j5) lm_X11_237 lv_vX8_disorder dX11_of_67 [] rfl rfl rfl rfl rfl (nN rfl (toN rfl hj7)) (nNl rfl (toN rfl hj7)) (by decide) (Nat.le_of_ble_eq_true rfl) csOK_0 h (fun r13 hr14 h => ?_)
      show Z κ (0, 0) _ 70 _ [vi r13] ad σ
      have h := wpO_some.mp h
      exact z_ireturn T C dX11_of_70 hr14 rfl h
    have h := (wpO_ite.mp h).2 q12
    by_cases q15 : x2 = 3
    · have h := (wpO_ite.mp h).1 q15
      refine z_tableIn (off := 58) C 71 hx2 dX11_of_13 (by omega) (by omega) (by rw [q15]; rfl) (by decide) ?_
      refine z_aload_n C 0 dX11_of_71 rfl ?_
      refine z_aload_n C 1 dX11_of_72 rfl ?_
      refine z_gIv (v := gI σ 1207 0 0) C li_X11_35 (sg_11 T) rfl dX11_of_73 ?_
      refine z_cVp (st := []) T C (ct_X8_oldOnes j5 (gI σ 1207 0 0) (hI1 1207 0 _)) lm_X11_240 lv_vX8_oldOnes dX11_of_76 [vi (gI σ 1207 0 0)] rfl rfl rfl rfl rfl (nN rfl (toN rfl hj7)) (nNl rfl (toN rfl hj7)) (by decide) (Nat.le_of_ble_eq_true rfl) csOK_0 h (fun r16 hr17 h => ?_)
      show Z κ (0, 0) _ 79 _ [vi r16] ad σ
      have h := wpO_some.mp h
      exact z_ireturn T C dX11_of_79 hr17 rfl h
    have h := (wpO_ite.mp h).2 q15
    by_cases q18 : x2 = 4
    · have h := (wpO_ite.mp h).1 q18
      refine z_tableIn (off := 67) C 80 hx2 dX11_of_13 (by omega) (by omega) (by rw [q18]; rfl) (by decide) ?_
      refine z_aload_n C 0 dX11_of_80 rfl ?_
      refine z_aload_n C 1 dX11_of_81 rfl ?_
      refine z_gR T C li_X11_19 (sg_11 T) dX11_of_82 ?_
      refine z_cVp (st := []) T C (ct_X8_falseOnes j5) lm_X11_243 lv_vX8_falseOnes dX11_of_85 [vo ad 1 (some 0)] rfl rfl rfl rfl rfl (nN rfl (toN rfl hj7)) (nNl rfl (toN rfl hj7)) (by decide) (Nat.le_of_ble_eq_true rfl) csOK_0 h (fun r19 hr20 h => ?_)
      show Z κ (0, 0) _ 88 _ [vi r19] ad σ
      have h := wpO_some.mp h
      exact z_ireturn T C dX11_of_88 hr20 rfl h
    have h := (wpO_ite.mp h).2 q18
    by_cases q21 : x2 = 5
    · have h := (wpO_ite.mp h).1 q21
      refine z_tableIn (off := 76) C 89 hx2 dX11_of_13 (by omega) (by omega) (by rw [q21]; rfl) (by decide) ?_
      refine z_aload_n C 0 dX11_of_89 rfl ?_
      refine z_cVp (st := []) T C (ct_X8_lentOnes j5) lm_X11_247 lv_vX8_lentOnes dX11_of_90 [] rfl rfl rfl rfl rfl (nN rfl (toN rfl hj7)) (nNl rfl (toN rfl hj7)) (by decide) (Nat.le_of_ble_eq_true rfl) csOK_0 h (fun r22 hr23 h => ?_)
      show Z κ (0, 0) _ 93 _ [vi r22] ad σ
      have h := wpO_some.mp h
      exact z_ireturn T C dX11_of_93 hr23 rfl h
    have h := (wpO_ite.mp h).2 q21
    by_cases q24 : x2 = 6
    · have h := (wpO_ite.mp h).1 q24
      refine z_tableIn (off := 81) C 94 hx2 dX11_of_13 (by omega) (by omega) (by rw [q24]; rfl) (by decide) ?_
      refine z_aload_n C 0 dX11_of_94 rfl ?_
      refine z_aload_n C 1 dX11_of_95 rfl ?_
      refine z_gIv (v := gI σ 1200 0 0) C li_X11_87 (sg_11 T) rfl dX11_of_96 ?_
      refine z_cVp (st := []) T C (ct_X8_isReady j5 (gI σ 1200 0 0) (hI1 1200 0 _)) lm_X11_250 lv_vX8_isReady dX11_of_99 [vi (gI σ 1200 0 0)] rfl rfl rfl rfl rfl (nN rfl (toN rfl hj7)) (nNl rfl (toN rfl hj7)) (by decide) (Nat.le_of_ble_eq_true rfl) csOK_0 h (fun r25 hr26 h => ?_)
      show Z κ (0, 0) _ 102 _ [vi r25] ad σ
      refine z_cSp (st := []) T C (ct_X11_asNumber r25 hr26) lm_X11_223 ls_X11_asNumber dX11_of_102 rfl rfl trivial (by decide) (Nat.le_of_ble_eq_true rfl) csOK_0 h (fun r27 hr28 h => ?_)
      show Z κ (0, 0) _ 105 _ [vi r27] ad σ
      have h := wpO_some.mp h
      exact z_ireturn T C dX11_of_105 hr28 rfl h
    have h := (wpO_ite.mp h).2 q24
    refine z_tableOut C 106 hx2 dX11_of_13 (by omega) (by decide) ?_
    refine z_bipush C dX11_of_106 (by decide) ?_
    have h := wpO_some.mp h
    exact z_ireturn T C dX11_of_108 (by decide) rfl h
  · have h := (wpO_mop.mp h).2 hr6
    subst hr6
    refine z_iconst C dX11_of_10 ?_
    have h := wpO_some.mp h
    exact z_ireturn T C dX11_of_11 (by decide) rfl h
noncomputable def fX11_overdue_j54 (x1 : Int) (σ : St) : Option Int :=
  some x1
noncomputable def fX11_overdue_j48 (x1 : Int) (x2 : Int) (σ : St) : Option ((Int × Int) ⊕ Int) :=
  ck (inr (x2 + 1)) (some (.inl ((x1, x2 + 1))))
noncomputable def fX11_overdue_l4 (σ : St) (x1 : Int) (x2 : Int) : Option ((Int × Int) ⊕ Int) :=
  if gI σ 1204 0 0 ≤ x2 then (some (.inr x1)) else (ck (0 ≤ x2 ∧ x2 < 40) (lt (gP σ 1203 0 x2.toNat) (fun r10 => mop r10 (fun j12 => ck (j12 < gN σ 7) (bnk (fX7_whereAt j12 (gI σ 1200 0 0) σ) (fun r15 => if r15 = 2 then (ck (0 ≤ x2 ∧ x2 < 40) (lt (gP σ 1203 0 x2.toNat) (fun r19 => mop r19 (fun j21 => ck (j21 < gN σ 7) (if gI σ 1200 0 0 ≤ gI σ 812 j21 0 then (fX11_overdue_j48 x1 x2 σ) else (ck (inr (x1 + 1)) (fX11_overdue_j48 (x1 + 1) x2 σ)))) none))) else (fX11_overdue_j48 x1 x2 σ)))) none)))
noncomputable def fX11_overdue_j4 (x1 : Int) (x2 : Int) (σ : St) : Option Int :=
  bnk (wh (fun s => fX11_overdue_l4 σ s.1 s.2) ((x1, x2))) (fun e => fX11_overdue_j54 e σ)
noncomputable def fX11_overdue (σ : St) : Option Int :=
  fX11_overdue_j4 0 0 σ
set_option maxRecDepth 20000 in
set_option maxHeartbeats 4000000 in
theorem ct_X11_overdue  : Ct yX11_overdue cX11_overdue 3 (some .int) 1 (fun ad => [vo ad 11 (some 0)]) (pu (fX11_overdue)) enI okI (fun _ => True) := by
  refine Ct.of (by decide) (fun ad => Nat.le_of_ble_eq_true rfl) ?_
  intro κ ad σ X C T hpre h
  have C : Cx κ RX11 cX11_overdue 3 (some .int) 1 := C
  have h := wpO_pu.mp h
  unfold fX11_overdue at h
  have J54 : ∀ (x1 : Int), inr x1 → wpO (fX11_overdue_j54 x1 σ) (fun r => X r σ) → Z κ (0, 0) (Qm κ ad σ enI okI X) 54 [(1, vi x1)] [] ad σ := by
    intro x1 hx1 h
    unfold fX11_overdue_j54 at h
    refine z_rng (fun hI1 hJ2 => ?_)
    refine z_iload_n C 0 dX11_overdue_54 rfl ?_
    have h := wpO_some.mp h
    exact z_ireturn T C dX11_overdue_55 hx1 rfl h
  have J4 : ∀ (x1 : Int) (x2 : Int), inr x1 → inr x2 → wpO (fX11_overdue_j4 x1 x2 σ) (fun r => X r σ) → Z κ (0, 0) (Qm κ ad σ enI okI X) 4 [(0, vo ad 11 (some 0)), (1, vi x1), (2, vi x2)] [] ad σ := by
    intro x1 x2 hx1 hx2 h
    unfold fX11_overdue_j4 at h
    have step : ∀ (P4 : (Int × Int) → Prop) (Q4 : Int → Prop), (∀ (x1 : Int) (x2 : Int), P4 ((x1, x2)) → inr x1 → inr x2 → Z κ (0, 0) (Qm κ ad σ enI okI X) 4 [(0, vo ad 11 (some 0)), (1, vi x1), (2, vi x2)] [] ad σ) → (∀ (x1 : Int), Q4 (x1) → inr x1 → Z κ (0, 0) (Qm κ ad σ enI okI X) 54 [(1, vi x1)] [] ad σ) → ∀ (x1 : Int) (x2 : Int), inr x1 → inr x2 → wpO (fX11_overdue_l4 σ x1 x2) (onS P4 Q4) → Z κ (0, 0) (Qm κ ad σ enI okI X) 4 [(0, vo ad 11 (some 0)), (1, vi x1), (2, vi x2)] [] ad σ := by
      intro P4 Q4 hP4 hE4_54 x1 x2 hx1 hx2 h
      unfold fX11_overdue_l4 at h
      have J48 : ∀ (x1 : Int) (x2 : Int), inr x1 → inr x2 → wpO (fX11_overdue_j48 x1 x2 σ) (onS P4 Q4) → Z κ (0, 0) (Qm κ ad σ enI okI X) 48 [(0, vo ad 11 (some 0)), (1, vi x1), (2, vi x2)] [] ad σ := by
        intro x1 x2 hx1 hx2 h
        unfold fX11_overdue_j48 at h
        refine z_rng (fun hI3 hJ4 => ?_)
        obtain ⟨hk5, h⟩ := wpO_ck.mp h
        refine z_iinc (lv2 := [(2, vi (x2 + 1)), (0, vo ad 11 (some 0)), (1, vi x1)]) C 2 dX11_overdue_48 rfl (by decide) rfl ?_
        refine z_goto C 4 dX11_overdue_51 (by decide) ?_
        refine z_sub [1, 2, 0] rfl ?_
        have h := wpO_some.mp h
        exact hP4 x1 (x2 + 1) h hx1 hk5
      refine z_rng (fun hI6 hJ7 => ?_)
      refine z_iload_n C 2 dX11_overdue_4 rfl ?_
      refine z_aload_n C 0 dX11_overdue_5 rfl ?_
      refine z_gIv (v := gI σ 1204 0 0) C li_X11_131 (sg_11 T) rfl dX11_overdue_6 ?_
      refine z_icmp_ge C 54 hx2 (hI6 1204 0 _) dX11_overdue_9 (by decide) (fun q8 => ?_) (fun q8 => ?_)
      · have h := (wpO_ite.mp h).1 q8
        refine z_sub [1] rfl ?_
        have h := wpO_some.mp h
        exact hE4_54 x1 h hx1
      · have h := (wpO_ite.mp h).2 q8
        refine z_aload_n C 0 dX11_overdue_12 rfl ?_
        refine z_gA T C li_X11_25 (sg_11 T) dX11_overdue_13 ?_
        refine z_iload_n C 2 dX11_overdue_16 rfl ?_
        obtain ⟨hb9, h⟩ := wpO_ck.mp h
        refine z_aald (K := 7) (t0 := 4) C ar_1203 (fun _ => rfl) (sg_1203 T) hx2 hb9 dX11_overdue_17 (fun r10 hr11 => ?_)
        have h := lt_elim h r10 hr11
        refine z_aload_n C 0 dX11_overdue_18 rfl ?_
        refine z_gIv (v := gI σ 1200 0 0) C li_X11_87 (sg_11 T) rfl dX11_overdue_19 ?_
        obtain ⟨j12, hr13, h⟩ := mop_none h
        subst hr13
        obtain ⟨hj14, h⟩ := wpO_ck.mp h
        refine z_cVp (st := []) T C (ct_X7_whereAt j12 (gI σ 1200 0 0) (hI6 1200 0 _)) lm_X11_166 lv_vX7_whereAt dX11_overdue_22 [vi (gI σ 1200 0 0)] rfl rfl rfl rfl rfl (nN rfl (toN rfl hj14)) (nNl rfl (toN rfl hj14)) (by decide) (Nat.le_of_ble_eq_true rfl) csOK_0 h (fun r15 hr16 h => ?_)
        show Z κ (0, 0) _ 25 _ [vi r15] ad σ
        refine z_iconst C dX11_overdue_25 ?_
        refine z_icmp_ne C 48 hr16 (by decide) dX11_overdue_26 (by decide) (fun q17 => ?_) (fun q17 => ?_)
        · have h := (wpO_ite.mp h).2 q17
          exact J48 x1 x2 hx1 hx2 h
        · have h := (wpO_ite.mp h).1 q17
          refine z_aload_n C 0 dX11_overdue_29 rfl ?_
          refine z_gA T C li_X11_25 (sg_11 T) dX11_overdue_30 ?_
          refine z_iload_n C 2 dX11_overdue_33 rfl ?_
          obtain ⟨hb18, h⟩ := wpO_ck.mp h
          refine z_aald (K := 7) (t0 := 4) C ar_1203 (fun _ => rfl) (sg_1203 T) hx2 hb18 dX11_overdue_34 (fun r19 hr20 => ?_)
          have h := lt_elim h r19 hr20
          obtain ⟨j21, hr22, h⟩ := mop_none h
          subst hr22
          obtain ⟨hj23, h⟩ := wpO_ck.mp h
          refine z_gIv (v := gI σ 812 j21 0) C li_X11_176 (nN rfl (toN rfl hj23)) rfl dX11_overdue_35 ?_
          refine z_aload_n C 0 dX11_overdue_38 rfl ?_
          refine z_gIv (v := gI σ 1200 0 0) C li_X11_87 (sg_11 T) rfl dX11_overdue_39 ?_
          refine z_icmp_ge C 48 (hI6 812 j21 _) (hI6 1200 0 _) dX11_overdue_42 (by decide) (fun q24 => ?_) (fun q24 => ?_)
          · have h := (wpO_ite.mp h).1 q24
            exact J48 x1 x2 hx1 hx2 h
          · have h := (wpO_ite.mp h).2 q24
            obtain ⟨hk25, h⟩ := wpO_ck.mp h
            refine z_iinc (lv2 := [(1, vi (x1 + 1)), (0, vo ad 11 (some 0)), (2, vi x2)]) C 1 dX11_overdue_45 rfl (by decide) rfl ?_
            refine z_sub [1, 0, 2] rfl ?_
            exact J48 (x1 + 1) x2 hk25 hx2 h
    exact wh_ind (P := fun s : (Int × Int) => inr s.1 → inr s.2 → Z κ (0, 0) (Qm κ ad σ enI okI X) 4 [(0, vo ad 11 (some 0)), (1, vi s.1), (2, vi s.2)] [] ad σ) (fun s hs g0 g1 => step _ _ (fun _ _ hp => hp) (fun x1 hq hx1 => J54 x1 hx1 hq) s.1 s.2 g0 g1 hs) ((x1, x2)) (wpO_bnk.mp h) hx1 hx2
  show Z κ (0, 0) (Qm κ ad σ enI okI X) 0 [(0, vo ad 11 (some 0))] [] ad σ
  refine z_rng (fun hI26 hJ27 => ?_)
  refine z_iconst C dX11_overdue_0 ?_
  refine z_istore_n (lv2 := [(1, vi 0), (0, vo ad 11 (some 0))]) C dX11_overdue_1 (by decide) rfl ?_
  refine z_iconst C dX11_overdue_2 ?_
  refine z_istore_n (lv2 := [(2, vi 0), (1, vi 0), (0, vo ad 11 (some 0))]) C dX11_overdue_3 (by decide) rfl ?_
  refine z_sub [2, 1, 0] rfl ?_
  exact J4 0 0 (by decide) (by decide) h
noncomputable def fX2_changePart (x1 : Int) (x2 : Int) (σ : St) : Option (Int × St) :=
  ck (0 ≤ x1 ∧ x1 < 9) (ck (0 ≤ x1 ∧ x1 < 9) (some (gI σ 304 0 x1.toNat, sI (sI σ 304 0 x1.toNat x2) 308 0 0 0)))
set_option maxRecDepth 20000 in
set_option maxHeartbeats 4000000 in
theorem ct_X2_changePart (x1 : Int) (x2 : Int) (hx1 : inr x1) (hx2 : inr x2) : Ct yX2_changePart cX2_changePart 4 (some .int) 0 (fun ad => [vo ad 2 (some 0), vi x1, vi x2]) (fX2_changePart x1 x2) enI okI (fun _ => True) := by
  refine Ct.of (by decide) (fun ad => Nat.le_of_ble_eq_true rfl) ?_
  intro κ ad σ X C T hpre h
  have C : Cx κ RX2 cX2_changePart 4 (some .int) 0 := C
  unfold fX2_changePart at h
  show Z κ (0, 0) (Qm κ ad σ enI okI X) 0 [(0, vo ad 2 (some 0)), (1, vi x1), (2, vi x2)] [] ad σ
  refine z_rng (fun hI1 hJ2 => ?_)
  refine z_aload_n C 0 dX2_changePart_0 rfl ?_
  refine z_gA T C li_X2_21 (sg_2 T) dX2_changePart_1 ?_
  refine z_iload_n C 1 dX2_changePart_4 rfl ?_
  obtain ⟨hb3, h⟩ := wpO_ck.mp h
  refine z_iav (v := gI σ 304 0 x1.toNat) C ar_304 (sg_304 T) hx1 hb3 rfl dX2_changePart_5 ?_
  refine z_istore_n (lv2 := [(3, vi (gI σ 304 0 x1.toNat)), (0, vo ad 2 (some 0)), (1, vi x1), (2, vi x2)]) C dX2_changePart_6 (by decide) rfl ?_
  refine z_aload_n C 1 dX2_changePart_7 rfl ?_
  refine z_gA T C li_X2_21 (sg_2 T) dX2_changePart_8 ?_
  refine z_iload_n C 2 dX2_changePart_11 rfl ?_
  refine z_iload_n C 3 dX2_changePart_12 rfl ?_
  obtain ⟨hb4, h⟩ := wpO_ck.mp h
  refine z_iastore C ar_304 (sg_304 T) hx1 hb4 hx2 dX2_changePart_13 ?_
  refine z_aload_n C 1 dX2_changePart_14 rfl ?_
  refine z_iconst C dX2_changePart_15 ?_
  refine z_pB C lq_X2_38 (sg_2 T) (by decide) dX2_changePart_16 ?_
  refine z_iload_n C 0 dX2_changePart_19 rfl ?_
  have h := wpO_some.mp h
  exact z_ireturn T C dX2_changePart_20 (hI1 304 0 _) rfl h
noncomputable def fX11_part (x1 : Int) (x2 : Int) (σ : St) : Option (Int × St) :=
  bnk (fX11_isWeek x1) (fun r3 => if r3 = 0 then (some ((-2), σ)) else (bnk (fX11_within x2 0 100) (fun r6 => if r6 = 0 then (some ((-2), σ)) else (bnd (fX2_changePart x1 x2 σ) (fun r9 σ11 => some (r9, σ11))))))
set_option maxRecDepth 20000 in
set_option maxHeartbeats 4000000 in
theorem ct_X11_part (x1 : Int) (x2 : Int) (hx1 : inr x1) (hx2 : inr x2) : Ct yX11_part cX11_part 3 (some .int) 2 (fun ad => [vo ad 11 (some 0), vi x1, vi x2]) (fX11_part x1 x2) enI okI (fun _ => True) := by
  refine Ct.of (by decide) (fun ad => Nat.le_of_ble_eq_true rfl) ?_
  intro κ ad σ X C T hpre h
  have C : Cx κ RX11 cX11_part 3 (some .int) 2 := C
  unfold fX11_part at h
  show Z κ (0, 0) (Qm κ ad σ enI okI X) 0 [(0, vo ad 11 (some 0)), (1, vi x1), (2, vi x2)] [] ad σ
  refine z_rng (fun hI1 hJ2 => ?_)
  refine z_iload_n C 1 dX11_part_0 rfl ?_
  refine z_cSp (st := []) T C (ct_X11_isWeek x1 hx1) lm_X11_365 ls_X11_isWeek dX11_part_1 rfl rfl trivial (by decide) (Nat.le_of_ble_eq_true rfl) csOK_0 h (fun r3 hr4 h => ?_)
  show Z κ (0, 0) _ 4 _ [vi r3] ad σ
  refine z_if_eq C 29 (inr_b hr4) dX11_part_4 (by decide) (fun q5 => ?_) (fun q5 => ?_)
  · have h := (wpO_ite.mp h).1 q5
    refine z_bipush C dX11_part_29 (by decide) ?_
    have h := wpO_some.mp h
    exact z_ireturn T C dX11_part_31 (by decide) rfl h
  · have h := (wpO_ite.mp h).2 q5
    refine z_iload_n C 2 dX11_part_7 rfl ?_
    refine z_iconst C dX11_part_8 ?_
    refine z_bipush C dX11_part_9 (by decide) ?_
    refine z_cSp (st := []) T C (ct_X11_within x2 0 100 hx2 (by decide) (by decide)) lm_X11_83 ls_X11_within dX11_part_11 rfl rfl trivial (by decide) (Nat.le_of_ble_eq_true rfl) csOK_0 h (fun r6 hr7 h => ?_)
    show Z κ (0, 0) _ 14 _ [vi r6] ad σ
    refine z_if_eq C 29 (inr_b hr7) dX11_part_14 (by decide) (fun q8 => ?_) (fun q8 => ?_)
    · have h := (wpO_ite.mp h).1 q8
      refine z_bipush C dX11_part_29 (by decide) ?_
      have h := wpO_some.mp h
      exact z_ireturn T C dX11_part_31 (by decide) rfl h
    · have h := (wpO_ite.mp h).2 q8
      refine z_aload_n C 0 dX11_part_17 rfl ?_
      refine z_gR T C li_X11_79 (sg_11 T) dX11_part_18 ?_
      refine z_iload_n C 1 dX11_part_21 rfl ?_
      refine z_iload_n C 2 dX11_part_22 rfl ?_
      refine z_cV (st := []) T C (ct_X2_changePart x1 x2 hx1 hx2) lm_X11_370 lv_vX2_changePart dX11_part_23 [vi x1, vi x2] rfl rfl rfl rfl rfl (sg_2 T) trivial (by decide) (Nat.le_of_ble_eq_true rfl) csOK_0 h (fun r9 σ11 hr10 eN12 h => ?_)
      show Z κ (0, 0) _ 26 _ [vi r9] ad σ11
      refine z_rng (fun hI13 hJ14 => ?_)
      refine z_goto C 31 dX11_part_26 (by decide) ?_
      have h := wpO_some.mp h
      exact z_ireturn T C dX11_part_31 hr10 eN12 h
noncomputable def fX11_pass (x1 : Int) (σ : St) : Option (Int × St) :=
  bnk (fX11_within x1 1 500) (fun r3 => if r3 = 0 then (some ((-2), σ)) else (ck (inr ((gI σ 1200 0 0) + x1)) (if (gI σ 1200 0 0) + x1 ≤ 9999 then (ck (inr ((gI σ 1200 0 0) + x1)) (some ((gI σ 1200 0 0) + x1, sI σ 1200 0 0 ((gI σ 1200 0 0) + x1)))) else (some ((-4), σ)))))
set_option maxRecDepth 20000 in
set_option maxHeartbeats 4000000 in
theorem ct_X11_pass (x1 : Int) (hx1 : inr x1) : Ct yX11_pass cX11_pass 2 (some .int) 1 (fun ad => [vo ad 11 (some 0), vi x1]) (fX11_pass x1) enI okI (fun _ => True) := by
  refine Ct.of (by decide) (fun ad => Nat.le_of_ble_eq_true rfl) ?_
  intro κ ad σ X C T hpre h
  have C : Cx κ RX11 cX11_pass 2 (some .int) 1 := C
  unfold fX11_pass at h
  show Z κ (0, 0) (Qm κ ad σ enI okI X) 0 [(0, vo ad 11 (some 0)), (1, vi x1)] [] ad σ
  refine z_rng (fun hI1 hJ2 => ?_)
  refine z_iload_n C 1 dX11_pass_0 rfl ?_
  refine z_iconst C dX11_pass_1 ?_
  refine z_sipush C dX11_pass_2 (by decide) ?_
  refine z_cSp (st := []) T C (ct_X11_within x1 1 500 hx1 (by decide) (by decide)) lm_X11_83 ls_X11_within dX11_pass_5 rfl rfl trivial (by decide) (Nat.le_of_ble_eq_true rfl) csOK_0 h (fun r3 hr4 h => ?_)
  show Z κ (0, 0) _ 8 _ [vi r3] ad σ
  refine z_if_ne C 14 (inr_b hr4) dX11_pass_8 (by decide) (fun q5 => ?_) (fun q5 => ?_)
  · have h := (wpO_ite.mp h).2 q5
    refine z_aload_n C 0 dX11_pass_14 rfl ?_
    refine z_gIv (v := gI σ 1200 0 0) C li_X11_87 (sg_11 T) rfl dX11_pass_15 ?_
    refine z_iload_n C 1 dX11_pass_18 rfl ?_
    obtain ⟨hk6, h⟩ := wpO_ck.mp h
    refine z_iadd C dX11_pass_19 ?_
    refine z_sipush C dX11_pass_20 (by decide) ?_
    refine z_icmp_le C 29 hk6 (by decide) dX11_pass_23 (by decide) (fun q7 => ?_) (fun q7 => ?_)
    · have h := (wpO_ite.mp h).1 q7
      refine z_aload_n C 0 dX11_pass_29 rfl ?_
      refine z_dup C dX11_pass_30 rfl ?_
      refine z_gIv (v := gI σ 1200 0 0) C li_X11_87 (sg_11 T) rfl dX11_pass_31 ?_
      refine z_iload_n C 1 dX11_pass_34 rfl ?_
      obtain ⟨hk8, h⟩ := wpO_ck.mp h
      refine z_iadd C dX11_pass_35 ?_
      refine z_pI C lq_X11_87 (sg_11 T) hk8 dX11_pass_36 ?_
      refine z_aload_n C 0 dX11_pass_39 rfl ?_
      refine z_gIv (v := (gI σ 1200 0 0) + x1) C li_X11_87 (sg_11 T) gs dX11_pass_40 ?_
      have h := wpO_some.mp h
      exact z_ireturn T C dX11_pass_43 hk8 rfl h
    · have h := (wpO_ite.mp h).2 q7
      refine z_bipush C dX11_pass_26 (by decide) ?_
      have h := wpO_some.mp h
      exact z_ireturn T C dX11_pass_28 (by decide) rfl h
  · have h := (wpO_ite.mp h).1 q5
    refine z_bipush C dX11_pass_11 (by decide) ?_
    have h := wpO_some.mp h
    exact z_ireturn T C dX11_pass_13 (by decide) rfl h
noncomputable def fX2_changePrints (x1 : Int) (σ : St) : Option (Int × St) :=
  some (gI σ 305 0 0, sI (sI σ 305 0 0 x1) 308 0 0 0)
set_option maxRecDepth 20000 in
set_option maxHeartbeats 4000000 in
theorem ct_X2_changePrints (x1 : Int) (hx1 : inr x1) : Ct yX2_changePrints cX2_changePrints 3 (some .int) 0 (fun ad => [vo ad 2 (some 0), vi x1]) (fX2_changePrints x1) enI okI (fun _ => True) := by
  refine Ct.of (by decide) (fun ad => Nat.le_of_ble_eq_true rfl) ?_
  intro κ ad σ X C T hpre h
  have C : Cx κ RX2 cX2_changePrints 3 (some .int) 0 := C
  unfold fX2_changePrints at h
  show Z κ (0, 0) (Qm κ ad σ enI okI X) 0 [(0, vo ad 2 (some 0)), (1, vi x1)] [] ad σ
  refine z_rng (fun hI1 hJ2 => ?_)
  refine z_aload_n C 0 dX2_changePrints_0 rfl ?_
  refine z_gIv (v := gI σ 305 0 0) C li_X2_24 (sg_2 T) rfl dX2_changePrints_1 ?_
  refine z_istore_n (lv2 := [(2, vi (gI σ 305 0 0)), (0, vo ad 2 (some 0)), (1, vi x1)]) C dX2_changePrints_4 (by decide) rfl ?_
  refine z_aload_n C 1 dX2_changePrints_5 rfl ?_
  refine z_iload_n C 2 dX2_changePrints_6 rfl ?_
  refine z_pI C lq_X2_24 (sg_2 T) hx1 dX2_changePrints_7 ?_
  refine z_aload_n C 1 dX2_changePrints_10 rfl ?_
  refine z_iconst C dX2_changePrints_11 ?_
  refine z_pB C lq_X2_38 (sg_2 T) (by decide) dX2_changePrints_12 ?_
  refine z_iload_n C 0 dX2_changePrints_15 rfl ?_
  have h := wpO_some.mp h
  exact z_ireturn T C dX2_changePrints_16 (hI1 305 0 _) rfl h
noncomputable def fX11_prints (x1 : Int) (σ : St) : Option (Int × St) :=
  bnk (fX11_within x1 0 8) (fun r3 => if r3 = 0 then (some ((-2), σ)) else (bnd (fX2_changePrints x1 σ) (fun r6 σ8 => some (r6, σ8))))
set_option maxRecDepth 20000 in
set_option maxHeartbeats 4000000 in
theorem ct_X11_prints (x1 : Int) (hx1 : inr x1) : Ct yX11_prints cX11_prints 2 (some .int) 1 (fun ad => [vo ad 11 (some 0), vi x1]) (fX11_prints x1) enI okI (fun _ => True) := by
  refine Ct.of (by decide) (fun ad => Nat.le_of_ble_eq_true rfl) ?_
  intro κ ad σ X C T hpre h
  have C : Cx κ RX11 cX11_prints 2 (some .int) 1 := C
  unfold fX11_prints at h
  show Z κ (0, 0) (Qm κ ad σ enI okI X) 0 [(0, vo ad 11 (some 0)), (1, vi x1)] [] ad σ
  refine z_rng (fun hI1 hJ2 => ?_)
  refine z_iload_n C 1 dX11_prints_0 rfl ?_
  refine z_iconst C dX11_prints_1 ?_
  refine z_bipush C dX11_prints_2 (by decide) ?_
  refine z_cSp (st := []) T C (ct_X11_within x1 0 8 hx1 (by decide) (by decide)) lm_X11_83 ls_X11_within dX11_prints_4 rfl rfl trivial (by decide) (Nat.le_of_ble_eq_true rfl) csOK_0 h (fun r3 hr4 h => ?_)
  show Z κ (0, 0) _ 7 _ [vi r3] ad σ
  refine z_if_eq C 21 (inr_b hr4) dX11_prints_7 (by decide) (fun q5 => ?_) (fun q5 => ?_)
  · have h := (wpO_ite.mp h).1 q5
    refine z_bipush C dX11_prints_21 (by decide) ?_
    have h := wpO_some.mp h
    exact z_ireturn T C dX11_prints_23 (by decide) rfl h
  · have h := (wpO_ite.mp h).2 q5
    refine z_aload_n C 0 dX11_prints_10 rfl ?_
    refine z_gR T C li_X11_79 (sg_11 T) dX11_prints_11 ?_
    refine z_iload_n C 1 dX11_prints_14 rfl ?_
    refine z_cV (st := []) T C (ct_X2_changePrints x1 hx1) lm_X11_373 lv_vX2_changePrints dX11_prints_15 [vi x1] rfl rfl rfl rfl rfl (sg_2 T) trivial (by decide) (Nat.le_of_ble_eq_true rfl) csOK_0 h (fun r6 σ8 hr7 eN9 h => ?_)
    show Z κ (0, 0) _ 18 _ [vi r6] ad σ8
    refine z_rng (fun hI10 hJ11 => ?_)
    refine z_goto C 23 dX11_prints_18 (by decide) ?_
    have h := wpO_some.mp h
    exact z_ireturn T C dX11_prints_23 hr7 eN9 h
noncomputable def fX8_has_j28 (σ : St) : Option Int :=
  some 0
noncomputable def fX8_has_j20 (σ : St) : Option Int :=
  some 1
noncomputable def fX8_has_l2 (x0 : Nat) (x1 : Nat) (σ : St) (x2 : Int) : Option (Int ⊕ (Unit ⊕ Unit)) :=
  if gI σ 905 x0 0 ≤ x2 then (some (.inr (.inr (())))) else (ck (0 ≤ x2 ∧ x2 < 6) (lt (gP σ 904 x0 x2.toNat) (fun r9 => ck (okrB σ 7 r9 = true) (if r9 = some x1 then (some (.inr (.inl (())))) else (ck (inr (x2 + 1)) (some (.inl (x2 + 1))))))))
noncomputable def fX8_has_j2 (x0 : Nat) (x1 : Nat) (x2 : Int) (σ : St) : Option Int :=
  bnk (wh (fun s => fX8_has_l2 x0 x1 σ s) x2) (fun e => Sum.elim (fun a0 => fX8_has_j20 σ) (fun b0 => fX8_has_j28 σ) e)
noncomputable def fX8_has (x0 : Nat) (x1 : Nat) (σ : St) : Option Int :=
  fX8_has_j2 x0 x1 0 σ
set_option maxRecDepth 20000 in
set_option maxHeartbeats 4000000 in
theorem ct_X8_has (x0 : Nat) (x1 : Nat) : Ct yX8_has cX8_has 3 (some .boolean) 0 (fun ad => [vo ad 8 (some x0), vo ad 7 (some x1)]) (pu (fX8_has x0 x1)) enI okB (fun σ => x0 < gN σ 8 ∧ x1 < gN σ 7) := by
  refine Ct.of (by decide) (fun ad => Nat.le_of_ble_eq_true rfl) ?_
  intro κ ad σ X C T hpre h
  have C : Cx κ RX8 cX8_has 3 (some .boolean) 0 := C
  have h := wpO_pu.mp h
  obtain ⟨hx0, hx1⟩ := hpre
  unfold fX8_has at h
  have J28 : wpO (fX8_has_j28 σ) (fun r => X r σ) → Z κ (0, 0) (Qm κ ad σ enI okB X) 28 [] [] ad σ := by
    intro h
    unfold fX8_has_j28 at h
    refine z_rng (fun hI1 hJ2 => ?_)
    refine z_iconst C dX8_has_28 ?_
    have h := wpO_some.mp h
    exact z_breturn T C dX8_has_29 (by decide) rfl h
  have J20 : wpO (fX8_has_j20 σ) (fun r => X r σ) → Z κ (0, 0) (Qm κ ad σ enI okB X) 20 [] [] ad σ := by
    intro h
    unfold fX8_has_j20 at h
    refine z_rng (fun hI3 hJ4 => ?_)
    refine z_iconst C dX8_has_20 ?_
    have h := wpO_some.mp h
    exact z_breturn T C dX8_has_21 (by decide) rfl h
  have J2 : ∀ (x0 : Nat) (x1 : Nat) (x2 : Int), x0 < gN σ 8 → x1 < gN σ 7 → inr x2 → wpO (fX8_has_j2 x0 x1 x2 σ) (fun r => X r σ) → Z κ (0, 0) (Qm κ ad σ enI okB X) 2 [(0, vo ad 8 (some x0)), (1, vo ad 7 (some x1)), (2, vi x2)] [] ad σ := by
    intro x0 x1 x2 hx0 hx1 hx2 h
    unfold fX8_has_j2 at h
    have step : ∀ (P2 : Int → Prop) (Q2 : (Unit ⊕ Unit) → Prop), (∀ (x2 : Int), P2 x2 → inr x2 → Z κ (0, 0) (Qm κ ad σ enI okB X) 2 [(0, vo ad 8 (some x0)), (1, vo ad 7 (some x1)), (2, vi x2)] [] ad σ) → (Q2 (.inl (())) → Z κ (0, 0) (Qm κ ad σ enI okB X) 20 [] [] ad σ) → (Q2 (.inr (())) → Z κ (0, 0) (Qm κ ad σ enI okB X) 28 [] [] ad σ) → ∀ (x2 : Int), inr x2 → wpO (fX8_has_l2 x0 x1 σ x2) (onS P2 Q2) → Z κ (0, 0) (Qm κ ad σ enI okB X) 2 [(0, vo ad 8 (some x0)), (1, vo ad 7 (some x1)), (2, vi x2)] [] ad σ := by
      intro P2 Q2 hP2 hE2_20 hE2_28 x2 hx2 h
      unfold fX8_has_l2 at h
      refine z_rng (fun hI5 hJ6 => ?_)
      refine z_iload_n C 2 dX8_has_2 rfl ?_
      refine z_aload_n C 0 dX8_has_3 rfl ?_
      refine z_gIv (v := gI σ 905 x0 0) C li_X8_30 (nN rfl hx0) rfl dX8_has_4 ?_
      refine z_icmp_ge C 28 hx2 (hI5 905 x0 _) dX8_has_7 (by decide) (fun q7 => ?_) (fun q7 => ?_)
      · have h := (wpO_ite.mp h).1 q7
        refine z_sub [] rfl ?_
        have h := wpO_some.mp h
        exact hE2_28 h
      · have h := (wpO_ite.mp h).2 q7
        refine z_aload_n C 0 dX8_has_10 rfl ?_
        refine z_gA T C li_X8_11 (nN rfl hx0) dX8_has_11 ?_
        refine z_iload_n C 2 dX8_has_14 rfl ?_
        obtain ⟨hb8, h⟩ := wpO_ck.mp h
        refine z_aald (K := 7) (t0 := 4) C ar_904 (fun _ => rfl) (nN9 T rfl hx0) hx2 hb8 dX8_has_15 (fun r9 hr10 => ?_)
        have h := lt_elim h r9 hr10
        refine z_aload_n C 1 dX8_has_16 rfl ?_
        obtain ⟨hk11, h⟩ := wpO_ck.mp h
        refine z_acmp_ne 22 C (okrB_use hk11) (fun _ q => by cases q; exact nNl rfl hx1) dX8_has_17 (by decide) (fun q12 => ?_) (fun q12 => ?_)
        · have h := (wpO_ite.mp h).2 q12
          obtain ⟨hk13, h⟩ := wpO_ck.mp h
          refine z_iinc (lv2 := [(2, vi (x2 + 1)), (0, vo ad 8 (some x0)), (1, vo ad 7 (some x1))]) C 2 dX8_has_22 rfl (by decide) rfl ?_
          refine z_goto C 2 dX8_has_25 (by decide) ?_
          refine z_sub [1, 2, 0] rfl ?_
          have h := wpO_some.mp h
          exact hP2 (x2 + 1) h hk13
        · have h := (wpO_ite.mp h).1 q12
          refine z_sub [] rfl ?_
          have h := wpO_some.mp h
          exact hE2_20 h
    exact wh_ind (P := fun s : Int => inr s → Z κ (0, 0) (Qm κ ad σ enI okB X) 2 [(0, vo ad 8 (some x0)), (1, vo ad 7 (some x1)), (2, vi s)] [] ad σ) (fun s hs g0 => step _ _ (fun _ hp => hp) (fun hq => J20 hq) (fun hq => J28 hq) s g0 hs) x2 (wpO_bnk.mp h) hx2
  show Z κ (0, 0) (Qm κ ad σ enI okB X) 0 [(0, vo ad 8 (some x0)), (1, vo ad 7 (some x1))] [] ad σ
  refine z_rng (fun hI14 hJ15 => ?_)
  refine z_iconst C dX8_has_0 ?_
  refine z_istore_n (lv2 := [(2, vi 0), (0, vo ad 8 (some x0)), (1, vo ad 7 (some x1))]) C dX8_has_1 (by decide) rfl ?_
  refine z_sub [1, 2, 0] rfl ?_
  exact J2 x0 x1 0 hx0 hx1 (by decide) h
