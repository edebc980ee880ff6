noncomputable def fX12_overdue_j52 (x1 : Int) (σ : St) : Option Int :=
  some x1
noncomputable def fX12_overdue_j44 (x2 : Int) (s0 : Int) (s1 : Int) (σ : St) : Option ((Int × Int) ⊕ Int) :=
  ck (inr (s0 + s1)) (ck (inr (x2 + 1)) (some (.inl ((s0 + s1, x2 + 1)))))
noncomputable def fX12_overdue_j43 (x2 : Int) (s0 : Int) (σ : St) : Option ((Int × Int) ⊕ Int) :=
  fX12_overdue_j44 x2 s0 0 σ
noncomputable def fX12_overdue_l4 (σ : St) (x1 : Int) (x2 : Int) : Option ((Int × Int) ⊕ Int) :=
  if gI σ 1310 0 0 ≤ x2 then (some (.inr x1)) else (bnk (fX12_whereOf x2 (gI σ 1300 0 0) σ) (fun r12 => if r12 = 2 then (ck (0 ≤ x2 ∧ x2 < 40) (if gI σ 1300 0 0 ≤ gI σ 1322 0 x2.toNat then (fX12_overdue_j43 x2 x1 σ) else (fX12_overdue_j44 x2 x1 1 σ))) else (fX12_overdue_j43 x2 x1 σ)))
noncomputable def fX12_overdue_j4 (x1 : Int) (x2 : Int) (σ : St) : Option Int :=
  bnk (wh (fun s => fX12_overdue_l4 σ s.1 s.2) ((x1, x2))) (fun e => fX12_overdue_j52 e σ)
noncomputable def fX12_overdue (σ : St) : Option Int :=
  fX12_overdue_j4 0 0 σ
set_option maxRecDepth 20000 in
set_option maxHeartbeats 4000000 in
theorem ct_X12_overdue  : Ct yX12_overdue cX12_overdue 3 (some .int) 2 (fun ad => [vo ad 12 (some 0)]) (pu (fX12_overdue)) enI okI (fun _ => True) := by
  refine Ct.of (by decide) (fun ad => Nat.le_of_ble_eq_true rfl) ?_
  intro κ ad σ X C T hpre h
  have C : Cx κ RX12 cX12_overdue 3 (some .int) 2 := C
  have h := wpO_pu.mp h
  unfold fX12_overdue at h
  have J52 : ∀ (x1 : Int), inr x1 → wpO (fX12_overdue_j52 x1 σ) (fun r => X r σ) → Z κ (0, 0) (Qm κ ad σ enI okI X) 52 [(1, vi x1)] [] ad σ := by
    intro x1 hx1 h
    unfold fX12_overdue_j52 at h
    refine z_rng (fun hI1 hJ2 => ?_)
    refine z_iload_n C 0 dX12_overdue_52 rfl ?_
    have h := wpO_some.mp h
    exact z_ireturn T C dX12_overdue_53 hx1 rfl h
  have J4 : ∀ (x1 : Int) (x2 : Int), inr x1 → inr x2 → wpO (fX12_overdue_j4 x1 x2 σ) (fun r => X r σ) → Z κ (0, 0) (Qm κ ad σ enI okI X) 4 [(0, vo ad 12 (some 0)), (1, vi x1), (2, vi x2)] [] ad σ := by
    intro x1 x2 hx1 hx2 h
    unfold fX12_overdue_j4 at h
    have step : ∀ (P4 : (Int × Int) → Prop) (Q4 : Int → Prop), (∀ (x1 : Int) (x2 : Int), P4 ((x1, x2)) → inr x1 → inr x2 → Z κ (0, 0) (Qm κ ad σ enI okI X) 4 [(0, vo ad 12 (some 0)), (1, vi x1), (2, vi x2)] [] ad σ) → (∀ (x1 : Int), Q4 (x1) → inr x1 → Z κ (0, 0) (Qm κ ad σ enI okI X) 52 [(1, vi x1)] [] ad σ) → ∀ (x1 : Int) (x2 : Int), inr x1 → inr x2 → wpO (fX12_overdue_l4 σ x1 x2) (onS P4 Q4) → Z κ (0, 0) (Qm κ ad σ enI okI X) 4 [(0, vo ad 12 (some 0)), (1, vi x1), (2, vi x2)] [] ad σ := by
      intro P4 Q4 hP4 hE4_52 x1 x2 hx1 hx2 h
      unfold fX12_overdue_l4 at h
      have J44 : ∀ (x2 : Int) (s0 : Int) (s1 : Int), inr x2 → inr s0 → inr s1 → wpO (fX12_overdue_j44 x2 s0 s1 σ) (onS P4 Q4) → Z κ (0, 0) (Qm κ ad σ enI okI X) 44 [(0, vo ad 12 (some 0)), (2, vi x2)] [vi s1, vi s0] ad σ := by
        intro x2 s0 s1 hx2 hs0 hs1 h
        unfold fX12_overdue_j44 at h
        refine z_rng (fun hI3 hJ4 => ?_)
        obtain ⟨hk5, h⟩ := wpO_ck.mp h
        refine z_iadd C dX12_overdue_44 ?_
        refine z_istore_n (lv2 := [(1, vi (s0 + s1)), (0, vo ad 12 (some 0)), (2, vi x2)]) C dX12_overdue_45 (by decide) rfl ?_
        obtain ⟨hk6, h⟩ := wpO_ck.mp h
        refine z_iinc (lv2 := [(2, vi (x2 + 1)), (1, vi (s0 + s1)), (0, vo ad 12 (some 0))]) C 2 dX12_overdue_46 rfl (by decide) rfl ?_
        refine z_goto C 4 dX12_overdue_49 (by decide) ?_
        refine z_sub [2, 1, 0] rfl ?_
        have h := wpO_some.mp h
        exact hP4 (s0 + s1) (x2 + 1) h hk5 hk6
      have J43 : ∀ (x2 : Int) (s0 : Int), inr x2 → inr s0 → wpO (fX12_overdue_j43 x2 s0 σ) (onS P4 Q4) → Z κ (0, 0) (Qm κ ad σ enI okI X) 43 [(0, vo ad 12 (some 0)), (2, vi x2)] [vi s0] ad σ := by
        intro x2 s0 hx2 hs0 h
        unfold fX12_overdue_j43 at h
        refine z_rng (fun hI7 hJ8 => ?_)
        refine z_iconst C dX12_overdue_43 ?_
        exact J44 x2 s0 0 hx2 hs0 (by decide) h
      refine z_rng (fun hI9 hJ10 => ?_)
      refine z_iload_n C 2 dX12_overdue_4 rfl ?_
      refine z_aload_n C 0 dX12_overdue_5 rfl ?_
      refine z_gIv (v := gI σ 1310 0 0) C li_X12_279 (sg_12 T) rfl dX12_overdue_6 ?_
      refine z_icmp_ge C 52 hx2 (hI9 1310 0 _) dX12_overdue_9 (by decide) (fun q11 => ?_) (fun q11 => ?_)
      · have h := (wpO_ite.mp h).1 q11
        refine z_sub [1] rfl ?_
        have h := wpO_some.mp h
        exact hE4_52 x1 h hx1
      · have h := (wpO_ite.mp h).2 q11
        refine z_iload_n C 1 dX12_overdue_12 rfl ?_
        refine z_aload_n C 0 dX12_overdue_13 rfl ?_
        refine z_iload_n C 2 dX12_overdue_14 rfl ?_
        refine z_aload_n C 0 dX12_overdue_15 rfl ?_
        refine z_gIv (v := gI σ 1300 0 0) C li_X12_255 (sg_12 T) rfl dX12_overdue_16 ?_
        refine z_cVp (st := [vi x1]) T C (ct_X12_whereOf x2 (gI σ 1300 0 0) hx2 (hI9 1300 0 _)) lm_X12_297 lv_vX12_whereOf dX12_overdue_19 [vi x2, vi (gI σ 1300 0 0)] rfl rfl rfl rfl rfl (sg_12 T) trivial (by decide) (Nat.le_of_ble_eq_true rfl) csOK_0 h (fun r12 hr13 h => ?_)
        show Z κ (0, 0) _ 22 _ [vi r12, vi x1] ad σ
        refine z_iconst C dX12_overdue_22 ?_
        refine z_icmp_ne C 43 hr13 (by decide) dX12_overdue_23 (by decide) (fun q14 => ?_) (fun q14 => ?_)
        · have h := (wpO_ite.mp h).2 q14
          refine z_sub [0, 2] rfl ?_
          exact J43 x2 x1 hx2 hx1 h
        · have h := (wpO_ite.mp h).1 q14
          refine z_aload_n C 0 dX12_overdue_26 rfl ?_
          refine z_gA T C li_X12_68 (sg_12 T) dX12_overdue_27 ?_
          refine z_iload_n C 2 dX12_overdue_30 rfl ?_
          obtain ⟨hb15, h⟩ := wpO_ck.mp h
          refine z_iav (v := gI σ 1322 0 x2.toNat) C ar_1322 (sg_1322 T) hx2 hb15 rfl dX12_overdue_31 ?_
          refine z_aload_n C 0 dX12_overdue_32 rfl ?_
          refine z_gIv (v := gI σ 1300 0 0) C li_X12_255 (sg_12 T) rfl dX12_overdue_33 ?_
          refine z_icmp_ge C 43 (hI9 1322 0 _) (hI9 1300 0 _) dX12_overdue_36 (by decide) (fun q16 => ?_) (fun q16 => ?_)
          · have h := (wpO_ite.mp h).1 q16
            refine z_sub [0, 2] rfl ?_
            exact J43 x2 x1 hx2 hx1 h
          · have h := (wpO_ite.mp h).2 q16
            refine z_iconst C dX12_overdue_39 ?_
            refine z_goto C 44 dX12_overdue_40 (by decide) ?_
            refine z_sub [0, 2] rfl ?_
            exact J44 x2 x1 1 hx2 hx1 (by decide) h
    exact wh_ind (P := fun s : (Int × Int) => inr s.1 → inr s.2 → Z κ (0, 0) (Qm κ ad σ enI okI X) 4 [(0, vo ad 12 (some 0)), (1, vi s.1), (2, vi s.2)] [] ad σ) (fun s hs g0 g1 => step _ _ (fun _ _ hp => hp) (fun x1 hq hx1 => J52 x1 hx1 hq) s.1 s.2 g0 g1 hs) ((x1, x2)) (wpO_bnk.mp h) hx1 hx2
  show Z κ (0, 0) (Qm κ ad σ enI okI X) 0 [(0, vo ad 12 (some 0))] [] ad σ
  refine z_rng (fun hI17 hJ18 => ?_)
  refine z_iconst C dX12_overdue_0 ?_
  refine z_istore_n (lv2 := [(1, vi 0), (0, vo ad 12 (some 0))]) C dX12_overdue_1 (by decide) rfl ?_
  refine z_iconst C dX12_overdue_2 ?_
  refine z_istore_n (lv2 := [(2, vi 0), (1, vi 0), (0, vo ad 12 (some 0))]) C dX12_overdue_3 (by decide) rfl ?_
  refine z_sub [2, 1, 0] rfl ?_
  exact J4 0 0 (by decide) (by decide) h
noncomputable def fX12_part (x1 : Int) (x2 : Int) (σ : St) : Option (Int × St) :=
  bnk (fX12_in x1 0 8) (fun r3 => if r3 = 0 then (some ((-2), σ)) else (bnk (fX12_in x2 0 100) (fun r6 => if r6 = 0 then (some ((-2), σ)) else (ck (0 ≤ x1 ∧ x1 < 9) (ck (0 ≤ x1 ∧ x1 < 9) (some (gI σ 1382 0 x1.toNat, sI σ 1382 0 x1.toNat x2)))))))
set_option maxRecDepth 20000 in
set_option maxHeartbeats 4000000 in
theorem ct_X12_part (x1 : Int) (x2 : Int) (hx1 : inr x1) (hx2 : inr x2) : Ct yX12_part cX12_part 4 (some .int) 1 (fun ad => [vo ad 12 (some 0), vi x1, vi x2]) (fX12_part x1 x2) enI okI (fun _ => True) := by
  refine Ct.of (by decide) (fun ad => Nat.le_of_ble_eq_true rfl) ?_
  intro κ ad σ X C T hpre h
  have C : Cx κ RX12 cX12_part 4 (some .int) 1 := C
  unfold fX12_part at h
  show Z κ (0, 0) (Qm κ ad σ enI okI X) 0 [(0, vo ad 12 (some 0)), (1, vi x1), (2, vi x2)] [] ad σ
  refine z_rng (fun hI1 hJ2 => ?_)
  refine z_iload_n C 1 dX12_part_0 rfl ?_
  refine z_i2l C hx1 dX12_part_1 ?_
  refine z_lconst (z := 0) C dX12_part_2 (by decide) ?_
  refine z_ldc2_w C lc_X12_458 dX12_part_3 ?_
  refine z_cSp (st := []) T C (ct_X12_in x1 0 8 (inq_i hx1) (by decide) (by decide)) lm_X12_245 ls_X12_in dX12_part_6 rfl rfl trivial (by decide) (Nat.le_of_ble_eq_true rfl) csOK_0 h (fun r3 hr4 h => ?_)
  show Z κ (0, 0) _ 9 _ [vi r3] ad σ
  refine z_if_eq C 24 (inr_b hr4) dX12_part_9 (by decide) (fun q5 => ?_) (fun q5 => ?_)
  · have h := (wpO_ite.mp h).1 q5
    refine z_bipush C dX12_part_24 (by decide) ?_
    have h := wpO_some.mp h
    exact z_ireturn T C dX12_part_26 (by decide) rfl h
  · have h := (wpO_ite.mp h).2 q5
    refine z_iload_n C 2 dX12_part_12 rfl ?_
    refine z_i2l C hx2 dX12_part_13 ?_
    refine z_lconst (z := 0) C dX12_part_14 (by decide) ?_
    refine z_ldc2_w C lc_X12_463 dX12_part_15 ?_
    refine z_cSp (st := []) T C (ct_X12_in x2 0 100 (inq_i hx2) (by decide) (by decide)) lm_X12_245 ls_X12_in dX12_part_18 rfl rfl trivial (by decide) (Nat.le_of_ble_eq_true rfl) csOK_0 h (fun r6 hr7 h => ?_)
    show Z κ (0, 0) _ 21 _ [vi r6] ad σ
    refine z_if_ne C 27 (inr_b hr7) dX12_part_21 (by decide) (fun q8 => ?_) (fun q8 => ?_)
    · have h := (wpO_ite.mp h).2 q8
      refine z_aload_n C 0 dX12_part_27 rfl ?_
      refine z_gA T C li_X12_216 (sg_12 T) dX12_part_28 ?_
      refine z_iload_n C 1 dX12_part_31 rfl ?_
      obtain ⟨hb9, h⟩ := wpO_ck.mp h
      refine z_iav (v := gI σ 1382 0 x1.toNat) C ar_1382 (sg_1382 T) hx1 hb9 rfl dX12_part_32 ?_
      refine z_istore_n (lv2 := [(3, vi (gI σ 1382 0 x1.toNat)), (0, vo ad 12 (some 0)), (1, vi x1), (2, vi x2)]) C dX12_part_33 (by decide) rfl ?_
      refine z_aload_n C 1 dX12_part_34 rfl ?_
      refine z_gA T C li_X12_216 (sg_12 T) dX12_part_35 ?_
      refine z_iload_n C 2 dX12_part_38 rfl ?_
      refine z_iload_n C 3 dX12_part_39 rfl ?_
      obtain ⟨hb10, h⟩ := wpO_ck.mp h
      refine z_iastore C ar_1382 (sg_1382 T) hx1 hb10 hx2 dX12_part_40 ?_
      refine z_iload_n C 0 dX12_part_41 rfl ?_
      have h := wpO_some.mp h
      exact z_ireturn T C dX12_part_42 (hI1 1382 0 _) rfl h
    · have h := (wpO_ite.mp h).1 q8
      refine z_bipush C dX12_part_24 (by decide) ?_
      have h := wpO_some.mp h
      exact z_ireturn T C dX12_part_26 (by decide) rfl h
noncomputable def fX12_pass (x1 : Int) (σ : St) : Option (Int × St) :=
  bnk (fX12_in x1 1 500) (fun r3 => if r3 = 0 then (some ((-2), σ)) else (ck (inr ((gI σ 1300 0 0) + x1)) (if (gI σ 1300 0 0) + x1 ≤ 9999 then (ck (inr ((gI σ 1300 0 0) + x1)) (some ((gI σ 1300 0 0) + x1, sI σ 1300 0 0 ((gI σ 1300 0 0) + x1)))) else (some ((-4), σ)))))
set_option maxRecDepth 20000 in
set_option maxHeartbeats 4000000 in
theorem ct_X12_pass (x1 : Int) (hx1 : inr x1) : Ct yX12_pass cX12_pass 2 (some .int) 1 (fun ad => [vo ad 12 (some 0), vi x1]) (fX12_pass x1) enI okI (fun _ => True) := by
  refine Ct.of (by decide) (fun ad => Nat.le_of_ble_eq_true rfl) ?_
  intro κ ad σ X C T hpre h
  have C : Cx κ RX12 cX12_pass 2 (some .int) 1 := C
  unfold fX12_pass at h
  show Z κ (0, 0) (Qm κ ad σ enI okI X) 0 [(0, vo ad 12 (some 0)), (1, vi x1)] [] ad σ
  refine z_rng (fun hI1 hJ2 => ?_)
  refine z_iload_n C 1 dX12_pass_0 rfl ?_
  refine z_i2l C hx1 dX12_pass_1 ?_
  refine z_lconst (z := 1) C dX12_pass_2 (by decide) ?_
  refine z_ldc2_w C lc_X12_253 dX12_pass_3 ?_
  refine z_cSp (st := []) T C (ct_X12_in x1 1 500 (inq_i hx1) (by decide) (by decide)) lm_X12_245 ls_X12_in dX12_pass_6 rfl rfl trivial (by decide) (Nat.le_of_ble_eq_true rfl) csOK_0 h (fun r3 hr4 h => ?_)
  show Z κ (0, 0) _ 9 _ [vi r3] ad σ
  refine z_if_ne C 15 (inr_b hr4) dX12_pass_9 (by decide) (fun q5 => ?_) (fun q5 => ?_)
  · have h := (wpO_ite.mp h).2 q5
    refine z_aload_n C 0 dX12_pass_15 rfl ?_
    refine z_gIv (v := gI σ 1300 0 0) C li_X12_255 (sg_12 T) rfl dX12_pass_16 ?_
    refine z_iload_n C 1 dX12_pass_19 rfl ?_
    obtain ⟨hk6, h⟩ := wpO_ck.mp h
    refine z_iadd C dX12_pass_20 ?_
    refine z_sipush C dX12_pass_21 (by decide) ?_
    refine z_icmp_le C 30 hk6 (by decide) dX12_pass_24 (by decide) (fun q7 => ?_) (fun q7 => ?_)
    · have h := (wpO_ite.mp h).1 q7
      refine z_aload_n C 0 dX12_pass_30 rfl ?_
      refine z_dup C dX12_pass_31 rfl ?_
      refine z_gIv (v := gI σ 1300 0 0) C li_X12_255 (sg_12 T) rfl dX12_pass_32 ?_
      refine z_iload_n C 1 dX12_pass_35 rfl ?_
      obtain ⟨hk8, h⟩ := wpO_ck.mp h
      refine z_iadd C dX12_pass_36 ?_
      refine z_pI C lq_X12_255 (sg_12 T) hk8 dX12_pass_37 ?_
      refine z_aload_n C 0 dX12_pass_40 rfl ?_
      refine z_gIv (v := (gI σ 1300 0 0) + x1) C li_X12_255 (sg_12 T) gs dX12_pass_41 ?_
      have h := wpO_some.mp h
      exact z_ireturn T C dX12_pass_44 hk8 rfl h
    · have h := (wpO_ite.mp h).2 q7
      refine z_bipush C dX12_pass_27 (by decide) ?_
      have h := wpO_some.mp h
      exact z_ireturn T C dX12_pass_29 (by decide) rfl h
  · have h := (wpO_ite.mp h).1 q5
    refine z_bipush C dX12_pass_12 (by decide) ?_
    have h := wpO_some.mp h
    exact z_ireturn T C dX12_pass_14 (by decide) rfl h
noncomputable def fX12_prints (x1 : Int) (σ : St) : Option (Int × St) :=
  bnk (fX12_in x1 0 8) (fun r3 => if r3 = 0 then (some ((-2), σ)) else (some (gI σ 1383 0 0, sI σ 1383 0 0 x1)))
set_option maxRecDepth 20000 in
set_option maxHeartbeats 4000000 in
theorem ct_X12_prints (x1 : Int) (hx1 : inr x1) : Ct yX12_prints cX12_prints 3 (some .int) 1 (fun ad => [vo ad 12 (some 0), vi x1]) (fX12_prints x1) enI okI (fun _ => True) := by
  refine Ct.of (by decide) (fun ad => Nat.le_of_ble_eq_true rfl) ?_
  intro κ ad σ X C T hpre h
  have C : Cx κ RX12 cX12_prints 3 (some .int) 1 := C
  unfold fX12_prints at h
  show Z κ (0, 0) (Qm κ ad σ enI okI X) 0 [(0, vo ad 12 (some 0)), (1, vi x1)] [] ad σ
  refine z_rng (fun hI1 hJ2 => ?_)
  refine z_iload_n C 1 dX12_prints_0 rfl ?_
  refine z_i2l C hx1 dX12_prints_1 ?_
  refine z_lconst (z := 0) C dX12_prints_2 (by decide) ?_
  refine z_ldc2_w C lc_X12_458 dX12_prints_3 ?_
  refine z_cSp (st := []) T C (ct_X12_in x1 0 8 (inq_i hx1) (by decide) (by decide)) lm_X12_245 ls_X12_in dX12_prints_6 rfl rfl trivial (by decide) (Nat.le_of_ble_eq_true rfl) csOK_0 h (fun r3 hr4 h => ?_)
  show Z κ (0, 0) _ 9 _ [vi r3] ad σ
  refine z_if_ne C 15 (inr_b hr4) dX12_prints_9 (by decide) (fun q5 => ?_) (fun q5 => ?_)
  · have h := (wpO_ite.mp h).2 q5
    refine z_aload_n C 0 dX12_prints_15 rfl ?_
    refine z_gIv (v := gI σ 1383 0 0) C li_X12_219 (sg_12 T) rfl dX12_prints_16 ?_
    refine z_istore_n (lv2 := [(2, vi (gI σ 1383 0 0)), (0, vo ad 12 (some 0)), (1, vi x1)]) C dX12_prints_19 (by decide) rfl ?_
    refine z_aload_n C 1 dX12_prints_20 rfl ?_
    refine z_iload_n C 2 dX12_prints_21 rfl ?_
    refine z_pI C lq_X12_219 (sg_12 T) hx1 dX12_prints_22 ?_
    refine z_iload_n C 0 dX12_prints_25 rfl ?_
    have h := wpO_some.mp h
    exact z_ireturn T C dX12_prints_26 (hI1 1383 0 _) rfl h
  · have h := (wpO_ite.mp h).1 q5
    refine z_bipush C dX12_prints_12 (by decide) ?_
    have h := wpO_some.mp h
    exact z_ireturn T C dX12_prints_14 (by decide) rfl h
noncomputable def fX12_put_j66 (x1 : Int) (x2 : Int) (x3 : Int) (σ1 : St) : Option (Int × St) :=
  if x3 = 0 then (bnk (fX12_whereOf x2 (gI σ1 1300 0 0) σ1) (fun r4 => if r4 = 3 then (ck (0 ≤ x1 ∧ x1 < 8) (if gI σ1 1331 0 x1.toNat = 6 then (some ((-4), σ1)) else (ck (inr (6 * x1)) (ck (0 ≤ x1 ∧ x1 < 8) (ck (inr ((6 * x1) + (gI σ1 1331 0 x1.toNat))) (ck (0 ≤ (6 * x1) + (gI σ1 1331 0 x1.toNat) ∧ (6 * x1) + (gI σ1 1331 0 x1.toNat) < 48) (ck (0 ≤ x1 ∧ x1 < 8) (ck (inr ((gI σ1 1331 0 x1.toNat) + 1)) (ck (0 ≤ x1 ∧ x1 < 8) (ck (0 ≤ x1 ∧ x1 < 8) (some ((gI σ1 1331 0 x1.toNat) + 1, sI (sI σ1 1332 0 (((6 * x1) + (gI σ1 1331 0 x1.toNat)).toNat) x2) 1331 0 x1.toNat ((gI σ1 1331 0 x1.toNat) + 1))))))))))))) else (some ((-3), σ1)))) else (some ((-3), σ1))
noncomputable def fX12_put_j59 (x1 : Int) (x2 : Int) (x4 : Int) (s0 : Int) (σ1 : St) : Option ((Int × Int) ⊕ Int) :=
  ck (inr (x4 + 1)) (some (.inl ((s0, x4 + 1))))
noncomputable def fX12_put_j54 (x1 : Int) (x2 : Int) (x4 : Int) (σ1 : St) : Option ((Int × Int) ⊕ Int) :=
  fX12_put_j59 x1 x2 x4 1 σ1
noncomputable def fX12_put_l23 (x1 : Int) (x2 : Int) (σ1 : St) (x3 : Int) (x4 : Int) : Option ((Int × Int) ⊕ Int) :=
  ck (0 ≤ x1 ∧ x1 < 8) (if gI σ1 1331 0 x1.toNat ≤ x4 then (some (.inr x3)) else (if x3 = 0 then (ck (inr (6 * x1)) (ck (inr ((6 * x1) + x4)) (ck (0 ≤ (6 * x1) + x4 ∧ (6 * x1) + x4 < 48) (if gI σ1 1332 0 (((6 * x1) + x4).toNat) = x2 then (fX12_put_j54 x1 x2 x4 σ1) else (fX12_put_j59 x1 x2 x4 0 σ1))))) else (fX12_put_j54 x1 x2 x4 σ1)))
noncomputable def fX12_put_j23 (x1 : Int) (x2 : Int) (x3 : Int) (x4 : Int) (σ1 : St) : Option (Int × St) :=
  bnk (wh (fun s => fX12_put_l23 x1 x2 σ1 s.1 s.2) ((x3, x4))) (fun e => fX12_put_j66 x1 x2 e σ1)
noncomputable def fX12_put (x1 : Int) (x2 : Int) (σ : St) : Option (Int × St) :=
  bnk (fX12_isStory x1 σ) (fun r33 => if r33 = 0 then (some ((-1), σ)) else (bnk (fX12_isShot x2 σ) (fun r36 => if r36 = 0 then (some ((-1), σ)) else (fX12_put_j23 x1 x2 0 0 σ))))
set_option maxRecDepth 20000 in
set_option maxHeartbeats 4000000 in
theorem ct_X12_put (x1 : Int) (x2 : Int) (hx1 : inr x1) (hx2 : inr x2) : Ct yX12_put cX12_put 5 (some .int) 2 (fun ad => [vo ad 12 (some 0), vi x1, vi x2]) (fX12_put x1 x2) enI okI (fun _ => True) := by
  refine Ct.of (by decide) (fun ad => Nat.le_of_ble_eq_true rfl) ?_
  intro κ ad σ X C T hpre h
  have C : Cx κ RX12 cX12_put 5 (some .int) 2 := C
  unfold fX12_put at h
  have J66 : ∀ (x1 : Int) (x2 : Int) (x3 : Int) (σ1 : St), inr x1 → inr x2 → inr x3 → σ1.2.2.2 = σ.2.2.2 → wpO (fX12_put_j66 x1 x2 x3 σ1) (fun q => X q.1 q.2) → Z κ (0, 0) (Qm κ ad σ enI okI X) 66 [(0, vo ad 12 (some 0)), (1, vi x1), (2, vi x2), (3, vi x3)] [] ad σ1 := by
    intro x1 x2 x3 σ1 hx1 hx2 hx3 eN1 h
    unfold fX12_put_j66 at h
    refine z_rng (fun hI1 hJ2 => ?_)
    refine z_iload_n C 3 dX12_put_66 rfl ?_
    refine z_if_ne C 83 hx3 dX12_put_67 (by decide) (fun q3 => ?_) (fun q3 => ?_)
    · have h := (wpO_ite.mp h).2 q3
      refine z_bipush C dX12_put_83 (by decide) ?_
      have h := wpO_some.mp h
      exact z_ireturn T C dX12_put_85 (by decide) eN1 h
    · have h := (wpO_ite.mp h).1 q3
      refine z_aload_n C 0 dX12_put_70 rfl ?_
      refine z_iload_n C 2 dX12_put_71 rfl ?_
      refine z_aload_n C 0 dX12_put_72 rfl ?_
      refine z_gIv (v := gI σ1 1300 0 0) C li_X12_255 (sg_12 T) rfl dX12_put_73 ?_
      refine z_cVp (st := []) T C (ct_X12_whereOf x2 (gI σ1 1300 0 0) hx2 (hI1 1300 0 _)) lm_X12_297 lv_vX12_whereOf dX12_put_76 [vi x2, vi (gI σ1 1300 0 0)] rfl rfl rfl rfl rfl (sg_12 T) trivial (by decide) (Nat.le_of_ble_eq_true rfl) csOK_0 h (fun r4 hr5 h => ?_)
      show Z κ (0, 0) _ 79 _ [vi r4] ad σ1
      refine z_iconst C dX12_put_79 ?_
      refine z_icmp_eq C 86 hr5 (by decide) dX12_put_80 (by decide) (fun q6 => ?_) (fun q6 => ?_)
      · have h := (wpO_ite.mp h).1 q6
        refine z_aload_n C 0 dX12_put_86 rfl ?_
        refine z_gA T C li_X12_92 (sg_12 T) dX12_put_87 ?_
        refine z_iload_n C 1 dX12_put_90 rfl ?_
        obtain ⟨hb7, h⟩ := wpO_ck.mp h
        refine z_iav (v := gI σ1 1331 0 x1.toNat) C ar_1331 (sg_1331 T) hx1 hb7 rfl dX12_put_91 ?_
        refine z_bipush C dX12_put_92 (by decide) ?_
        refine z_icmp_ne C 100 (hI1 1331 0 _) (by decide) dX12_put_94 (by decide) (fun q8 => ?_) (fun q8 => ?_)
        · have h := (wpO_ite.mp h).2 q8
          refine z_aload_n C 0 dX12_put_100 rfl ?_
          refine z_gA T C li_X12_95 (sg_12 T) dX12_put_101 ?_
          refine z_bipush C dX12_put_104 (by decide) ?_
          refine z_iload_n C 1 dX12_put_106 rfl ?_
          obtain ⟨hk9, h⟩ := wpO_ck.mp h
          refine z_imul C dX12_put_107 ?_
          refine z_aload_n C 0 dX12_put_108 rfl ?_
          refine z_gA T C li_X12_92 (sg_12 T) dX12_put_109 ?_
          refine z_iload_n C 1 dX12_put_112 rfl ?_
          obtain ⟨hb10, h⟩ := wpO_ck.mp h
          refine z_iav (v := gI σ1 1331 0 x1.toNat) C ar_1331 (sg_1331 T) hx1 hb10 rfl dX12_put_113 ?_
          obtain ⟨hk11, h⟩ := wpO_ck.mp h
          refine z_iadd C dX12_put_114 ?_
          refine z_iload_n C 2 dX12_put_115 rfl ?_
          obtain ⟨hb12, h⟩ := wpO_ck.mp h
          refine z_iastore C ar_1332 (sg_1332 T) hk11 hb12 hx2 dX12_put_116 ?_
          refine z_aload_n C 0 dX12_put_117 rfl ?_
          refine z_gA T C li_X12_92 (sg_12 T) dX12_put_118 ?_
          refine z_iload_n C 1 dX12_put_121 rfl ?_
          refine z_dup2 C dX12_put_122 rfl rfl ?_
          obtain ⟨hb13, h⟩ := wpO_ck.mp h
          refine z_iav (v := gI σ1 1331 0 x1.toNat) C ar_1331 (sg_1331 T) hx1 hb13 (gn (by decide) rfl) dX12_put_123 ?_
          refine z_iconst C dX12_put_124 ?_
          obtain ⟨hk14, h⟩ := wpO_ck.mp h
          refine z_iadd C dX12_put_125 ?_
          obtain ⟨hb15, h⟩ := wpO_ck.mp h
          refine z_iastore C ar_1331 (sg_1331 T) hx1 hb15 hk14 dX12_put_126 ?_
          refine z_aload_n C 0 dX12_put_127 rfl ?_
          refine z_gA T C li_X12_92 (sg_12 T) dX12_put_128 ?_
          refine z_iload_n C 1 dX12_put_131 rfl ?_
          obtain ⟨hb16, h⟩ := wpO_ck.mp h
          refine z_iav (v := (gI σ1 1331 0 x1.toNat) + 1) C ar_1331 (sg_1331 T) hx1 hb16 gs dX12_put_132 ?_
          have h := wpO_some.mp h
          exact z_ireturn T C dX12_put_133 hk14 eN1 h
        · have h := (wpO_ite.mp h).1 q8
          refine z_bipush C dX12_put_97 (by decide) ?_
          have h := wpO_some.mp h
          exact z_ireturn T C dX12_put_99 (by decide) eN1 h
      · have h := (wpO_ite.mp h).2 q6
        refine z_bipush C dX12_put_83 (by decide) ?_
        have h := wpO_some.mp h
        exact z_ireturn T C dX12_put_85 (by decide) eN1 h
  have J23 : ∀ (x1 : Int) (x2 : Int) (x3 : Int) (x4 : Int) (σ1 : St), inr x1 → inr x2 → inr x3 → inr x4 → σ1.2.2.2 = σ.2.2.2 → wpO (fX12_put_j23 x1 x2 x3 x4 σ1) (fun q => X q.1 q.2) → Z κ (0, 0) (Qm κ ad σ enI okI X) 23 [(0, vo ad 12 (some 0)), (1, vi x1), (2, vi x2), (3, vi x3), (4, vi x4)] [] ad σ1 := by
    intro x1 x2 x3 x4 σ1 hx1 hx2 hx3 hx4 eN1 h
    unfold fX12_put_j23 at h
    have step : ∀ (P23 : (Int × Int) → Prop) (Q23 : Int → Prop), (∀ (x3 : Int) (x4 : Int), P23 ((x3, x4)) → inr x3 → inr x4 → Z κ (0, 0) (Qm κ ad σ enI okI X) 23 [(0, vo ad 12 (some 0)), (1, vi x1), (2, vi x2), (3, vi x3), (4, vi x4)] [] ad σ1) → (∀ (x3 : Int), Q23 (x3) → inr x3 → Z κ (0, 0) (Qm κ ad σ enI okI X) 66 [(0, vo ad 12 (some 0)), (1, vi x1), (2, vi x2), (3, vi x3)] [] ad σ1) → ∀ (x3 : Int) (x4 : Int), inr x3 → inr x4 → wpO (fX12_put_l23 x1 x2 σ1 x3 x4) (onS P23 Q23) → Z κ (0, 0) (Qm κ ad σ enI okI X) 23 [(0, vo ad 12 (some 0)), (1, vi x1), (2, vi x2), (3, vi x3), (4, vi x4)] [] ad σ1 := by
      intro P23 Q23 hP23 hE23_66 x3 x4 hx3 hx4 h
      unfold fX12_put_l23 at h
      have J59 : ∀ (x4 : Int) (s0 : Int), inr x4 → inr s0 → wpO (fX12_put_j59 x1 x2 x4 s0 σ1) (onS P23 Q23) → Z κ (0, 0) (Qm κ ad σ enI okI X) 59 [(0, vo ad 12 (some 0)), (1, vi x1), (2, vi x2), (4, vi x4)] [vi s0] ad σ1 := by
        intro x4 s0 hx4 hs0 h
        unfold fX12_put_j59 at h
        refine z_rng (fun hI17 hJ18 => ?_)
        refine z_istore_n (lv2 := [(3, vi s0), (0, vo ad 12 (some 0)), (1, vi x1), (2, vi x2), (4, vi x4)]) C dX12_put_59 (by decide) rfl ?_
        obtain ⟨hk19, h⟩ := wpO_ck.mp h
        refine z_iinc (lv2 := [(4, vi (x4 + 1)), (3, vi s0), (0, vo ad 12 (some 0)), (1, vi x1), (2, vi x2)]) C 4 dX12_put_60 rfl (by decide) rfl ?_
        refine z_goto C 23 dX12_put_63 (by decide) ?_
        refine z_sub [2, 3, 4, 1, 0] rfl ?_
        have h := wpO_some.mp h
        exact hP23 s0 (x4 + 1) h hs0 hk19
      have J54 : ∀ (x4 : Int), inr x4 → wpO (fX12_put_j54 x1 x2 x4 σ1) (onS P23 Q23) → Z κ (0, 0) (Qm κ ad σ enI okI X) 54 [(0, vo ad 12 (some 0)), (1, vi x1), (2, vi x2), (4, vi x4)] [] ad σ1 := by
        intro x4 hx4 h
        unfold fX12_put_j54 at h
        refine z_rng (fun hI20 hJ21 => ?_)
        refine z_iconst C dX12_put_54 ?_
        refine z_goto C 59 dX12_put_55 (by decide) ?_
        exact J59 x4 1 hx4 (by decide) h
      refine z_rng (fun hI22 hJ23 => ?_)
      refine z_iload C 4 dX12_put_23 rfl ?_
      refine z_aload_n C 0 dX12_put_25 rfl ?_
      refine z_gA T C li_X12_92 (sg_12 T) dX12_put_26 ?_
      refine z_iload_n C 1 dX12_put_29 rfl ?_
      obtain ⟨hb24, h⟩ := wpO_ck.mp h
      refine z_iav (v := gI σ1 1331 0 x1.toNat) C ar_1331 (sg_1331 T) hx1 hb24 rfl dX12_put_30 ?_
      refine z_icmp_ge C 66 hx4 (hI22 1331 0 _) dX12_put_31 (by decide) (fun q25 => ?_) (fun q25 => ?_)
      · have h := (wpO_ite.mp h).1 q25
        refine z_sub [0, 1, 2, 3] rfl ?_
        have h := wpO_some.mp h
        exact hE23_66 x3 h hx3
      · have h := (wpO_ite.mp h).2 q25
        refine z_iload_n C 3 dX12_put_34 rfl ?_
        refine z_if_ne C 54 hx3 dX12_put_35 (by decide) (fun q26 => ?_) (fun q26 => ?_)
        · have h := (wpO_ite.mp h).2 q26
          refine z_sub [0, 1, 2, 4] rfl ?_
          exact J54 x4 hx4 h
        · have h := (wpO_ite.mp h).1 q26
          refine z_aload_n C 0 dX12_put_38 rfl ?_
          refine z_gA T C li_X12_95 (sg_12 T) dX12_put_39 ?_
          refine z_bipush C dX12_put_42 (by decide) ?_
          refine z_iload_n C 1 dX12_put_44 rfl ?_
          obtain ⟨hk27, h⟩ := wpO_ck.mp h
          refine z_imul C dX12_put_45 ?_
          refine z_iload C 4 dX12_put_46 rfl ?_
          obtain ⟨hk28, h⟩ := wpO_ck.mp h
          refine z_iadd C dX12_put_48 ?_
          obtain ⟨hb29, h⟩ := wpO_ck.mp h
          refine z_iav (v := gI σ1 1332 0 (((6 * x1) + x4).toNat)) C ar_1332 (sg_1332 T) hk28 hb29 rfl dX12_put_49 ?_
          refine z_iload_n C 2 dX12_put_50 rfl ?_
          refine z_icmp_ne C 58 (hI22 1332 0 _) hx2 dX12_put_51 (by decide) (fun q30 => ?_) (fun q30 => ?_)
          · have h := (wpO_ite.mp h).2 q30
            refine z_iconst C dX12_put_58 ?_
            refine z_sub [0, 1, 2, 4] rfl ?_
            exact J59 x4 0 hx4 (by decide) h
          · have h := (wpO_ite.mp h).1 q30
            refine z_sub [0, 1, 2, 4] rfl ?_
            exact J54 x4 hx4 h
    exact wh_ind (P := fun s : (Int × Int) => inr s.1 → inr s.2 → Z κ (0, 0) (Qm κ ad σ enI okI X) 23 [(0, vo ad 12 (some 0)), (1, vi x1), (2, vi x2), (3, vi s.1), (4, vi s.2)] [] ad σ1) (fun s hs g0 g1 => step _ _ (fun _ _ hp => hp) (fun x3 hq hx3 => J66 x1 x2 x3 σ1 hx1 hx2 hx3 eN1 hq) s.1 s.2 g0 g1 hs) ((x3, x4)) (wpO_bnk.mp h) hx3 hx4
  show Z κ (0, 0) (Qm κ ad σ enI okI X) 0 [(0, vo ad 12 (some 0)), (1, vi x1), (2, vi x2)] [] ad σ
  refine z_rng (fun hI31 hJ32 => ?_)
  refine z_aload_n C 0 dX12_put_0 rfl ?_
  refine z_iload_n C 1 dX12_put_1 rfl ?_
  refine z_cVp (st := []) T C (ct_X12_isStory x1 hx1) lm_X12_316 lv_vX12_isStory dX12_put_2 [vi x1] rfl rfl rfl rfl rfl (sg_12 T) trivial (by decide) (Nat.le_of_ble_eq_true rfl) csOK_0 h (fun r33 hr34 h => ?_)
  show Z κ (0, 0) _ 5 _ [vi r33] ad σ
  refine z_if_eq C 16 (inr_b hr34) dX12_put_5 (by decide) (fun q35 => ?_) (fun q35 => ?_)
  · have h := (wpO_ite.mp h).1 q35
    refine z_iconst C dX12_put_16 ?_
    have h := wpO_some.mp h
    exact z_ireturn T C dX12_put_17 (by decide) rfl h
  · have h := (wpO_ite.mp h).2 q35
    refine z_aload_n C 0 dX12_put_8 rfl ?_
    refine z_iload_n C 2 dX12_put_9 rfl ?_
    refine z_cVp (st := []) T C (ct_X12_isShot x2 hx2) lm_X12_290 lv_vX12_isShot dX12_put_10 [vi x2] rfl rfl rfl rfl rfl (sg_12 T) trivial (by decide) (Nat.le_of_ble_eq_true rfl) csOK_0 h (fun r36 hr37 h => ?_)
    show Z κ (0, 0) _ 13 _ [vi r36] ad σ
    refine z_if_ne C 18 (inr_b hr37) dX12_put_13 (by decide) (fun q38 => ?_) (fun q38 => ?_)
    · have h := (wpO_ite.mp h).2 q38
      refine z_iconst C dX12_put_18 ?_
      refine z_istore_n (lv2 := [(3, vi 0), (0, vo ad 12 (some 0)), (1, vi x1), (2, vi x2)]) C dX12_put_19 (by decide) rfl ?_
      refine z_iconst C dX12_put_20 ?_
      refine z_istore (lv2 := [(4, vi 0), (3, vi 0), (0, vo ad 12 (some 0)), (1, vi x1), (2, vi x2)]) C dX12_put_21 (by decide) rfl ?_
      refine z_sub [2, 3, 4, 1, 0] rfl ?_
      exact J23 x1 x2 0 0 σ hx1 hx2 (by decide) (by decide) rfl h
    · have h := (wpO_ite.mp h).1 q38
      refine z_iconst C dX12_put_16 ?_
      have h := wpO_some.mp h
      exact z_ireturn T C dX12_put_17 (by decide) rfl h
noncomputable def fX12_rate (x1 : Int) (x2 : Int) (σ : St) : Option (Int × St) :=
  bnk (fX12_in x1 0 2) (fun r3 => if r3 = 0 then (some ((-2), σ)) else (bnk (fX12_in x2 0 99) (fun r6 => if r6 = 0 then (some ((-2), σ)) else (ck (0 ≤ x1 ∧ x1 < 3) (ck (0 ≤ x1 ∧ x1 < 3) (some (gI σ 1336 0 x1.toNat, sI σ 1336 0 x1.toNat x2)))))))
set_option maxRecDepth 20000 in
set_option maxHeartbeats 4000000 in
theorem ct_X12_rate (x1 : Int) (x2 : Int) (hx1 : inr x1) (hx2 : inr x2) : Ct yX12_rate cX12_rate 4 (some .int) 1 (fun ad => [vo ad 12 (some 0), vi x1, vi x2]) (fX12_rate x1 x2) enI okI (fun _ => True) := by
  refine Ct.of (by decide) (fun ad => Nat.le_of_ble_eq_true rfl) ?_
  intro κ ad σ X C T hpre h
  have C : Cx κ RX12 cX12_rate 4 (some .int) 1 := C
  unfold fX12_rate at h
  show Z κ (0, 0) (Qm κ ad σ enI okI X) 0 [(0, vo ad 12 (some 0)), (1, vi x1), (2, vi x2)] [] ad σ
  refine z_rng (fun hI1 hJ2 => ?_)
  refine z_iload_n C 1 dX12_rate_0 rfl ?_
  refine z_i2l C hx1 dX12_rate_1 ?_
  refine z_lconst (z := 0) C dX12_rate_2 (by decide) ?_
  refine z_ldc2_w C lc_X12_288 dX12_rate_3 ?_
  refine z_cSp (st := []) T C (ct_X12_in x1 0 2 (inq_i hx1) (by decide) (by decide)) lm_X12_245 ls_X12_in dX12_rate_6 rfl rfl trivial (by decide) (Nat.le_of_ble_eq_true rfl) csOK_0 h (fun r3 hr4 h => ?_)
  show Z κ (0, 0) _ 9 _ [vi r3] ad σ
  refine z_if_eq C 24 (inr_b hr4) dX12_rate_9 (by decide) (fun q5 => ?_) (fun q5 => ?_)
  · have h := (wpO_ite.mp h).1 q5
    refine z_bipush C dX12_rate_24 (by decide) ?_
    have h := wpO_some.mp h
    exact z_ireturn T C dX12_rate_26 (by decide) rfl h
  · have h := (wpO_ite.mp h).2 q5
    refine z_iload_n C 2 dX12_rate_12 rfl ?_
    refine z_i2l C hx2 dX12_rate_13 ?_
    refine z_lconst (z := 0) C dX12_rate_14 (by decide) ?_
    refine z_ldc2_w C lc_X12_334 dX12_rate_15 ?_
    refine z_cSp (st := []) T C (ct_X12_in x2 0 99 (inq_i hx2) (by decide) (by decide)) lm_X12_245 ls_X12_in dX12_rate_18 rfl rfl trivial (by decide) (Nat.le_of_ble_eq_true rfl) csOK_0 h (fun r6 hr7 h => ?_)
    show Z κ (0, 0) _ 21 _ [vi r6] ad σ
    refine z_if_ne C 27 (inr_b hr7) dX12_rate_21 (by decide) (fun q8 => ?_) (fun q8 => ?_)
    · have h := (wpO_ite.mp h).2 q8
      refine z_aload_n C 0 dX12_rate_27 rfl ?_
      refine z_gA T C li_X12_108 (sg_12 T) dX12_rate_28 ?_
      refine z_iload_n C 1 dX12_rate_31 rfl ?_
      obtain ⟨hb9, h⟩ := wpO_ck.mp h
      refine z_iav (v := gI σ 1336 0 x1.toNat) C ar_1336 (sg_1336 T) hx1 hb9 rfl dX12_rate_32 ?_
      refine z_istore_n (lv2 := [(3, vi (gI σ 1336 0 x1.toNat)), (0, vo ad 12 (some 0)), (1, vi x1), (2, vi x2)]) C dX12_rate_33 (by decide) rfl ?_
      refine z_aload_n C 1 dX12_rate_34 rfl ?_
      refine z_gA T C li_X12_108 (sg_12 T) dX12_rate_35 ?_
      refine z_iload_n C 2 dX12_rate_38 rfl ?_
      refine z_iload_n C 3 dX12_rate_39 rfl ?_
      obtain ⟨hb10, h⟩ := wpO_ck.mp h
      refine z_iastore C ar_1336 (sg_1336 T) hx1 hb10 hx2 dX12_rate_40 ?_
      refine z_iload_n C 0 dX12_rate_41 rfl ?_
      have h := wpO_some.mp h
      exact z_ireturn T C dX12_rate_42 (hI1 1336 0 _) rfl h
    · have h := (wpO_ite.mp h).1 q8
      refine z_bipush C dX12_rate_24 (by decide) ?_
      have h := wpO_some.mp h
      exact z_ireturn T C dX12_rate_26 (by decide) rfl h
noncomputable def fX12_reel (x1 : Int) (x2 : Int) (σ : St) : Option (Int × St) :=
  bnk (fX12_mayReel x1 x2 σ) (fun r3 => if 0 ≤ r3 then (bnd (fX12_layReel x1 x2 σ) (fun _ σ8 => some (gI σ8 1366 0 0, σ8))) else (some (r3, σ)))
set_option maxRecDepth 20000 in
set_option maxHeartbeats 4000000 in
theorem ct_X12_reel (x1 : Int) (x2 : Int) (hx1 : inr x1) (hx2 : inr x2) : Ct yX12_reel cX12_reel 4 (some .int) 8 (fun ad => [vo ad 12 (some 0), vi x1, vi x2]) (fX12_reel x1 x2) enI okI (fun _ => True) := by
  refine Ct.of (by decide) (fun ad => Nat.le_of_ble_eq_true rfl) ?_
  intro κ ad σ X C T hpre h
  have C : Cx κ RX12 cX12_reel 4 (some .int) 8 := C
  unfold fX12_reel at h
  show Z κ (0, 0) (Qm κ ad σ enI okI X) 0 [(0, vo ad 12 (some 0)), (1, vi x1), (2, vi x2)] [] ad σ
  refine z_rng (fun hI1 hJ2 => ?_)
  refine z_aload_n C 0 dX12_reel_0 rfl ?_
  refine z_iload_n C 1 dX12_reel_1 rfl ?_
  refine z_iload_n C 2 dX12_reel_2 rfl ?_
  refine z_cVp (st := []) T C (ct_X12_mayReel x1 x2 hx1 hx2) lm_X12_428 lv_vX12_mayReel dX12_reel_3 [vi x1, vi x2] rfl rfl rfl rfl rfl (sg_12 T) trivial (by decide) (Nat.le_of_ble_eq_true rfl) csOK_0 h (fun r3 hr4 h => ?_)
  show Z κ (0, 0) _ 6 _ [vi r3] ad σ
  refine z_istore_n (lv2 := [(3, vi r3), (0, vo ad 12 (some 0)), (1, vi x1), (2, vi x2)]) C dX12_reel_6 (by decide) rfl ?_
  refine z_iload_n C 0 dX12_reel_7 rfl ?_
  refine z_if_ge C 13 hr4 dX12_reel_8 (by decide) (fun q5 => ?_) (fun q5 => ?_)
  · have h := (wpO_ite.mp h).1 q5
    refine z_aload_n C 1 dX12_reel_13 rfl ?_
    refine z_iload_n C 2 dX12_reel_14 rfl ?_
    refine z_iload_n C 3 dX12_reel_15 rfl ?_
    refine z_cV (st := []) T C (ct_X12_layReel x1 x2 hx1 hx2) lm_X12_431 lv_vX12_layReel dX12_reel_16 [vi x1, vi x2] rfl rfl rfl rfl rfl (sg_12 T) trivial (by decide) (Nat.le_of_ble_eq_true rfl) csOK_0 h (fun r6 σ8 hr7 eN9 h => ?_)
    show Z κ (0, 0) _ 19 _ [] ad σ8
    refine z_rng (fun hI10 hJ11 => ?_)
    refine z_aload_n C 1 dX12_reel_19 rfl ?_
    refine z_gIv (v := gI σ8 1366 0 0) C li_X12_414 (sg_12 T) rfl dX12_reel_20 ?_
    have h := wpO_some.mp h
    exact z_ireturn T C dX12_reel_23 (hI10 1366 0 _) eN9 h
  · have h := (wpO_ite.mp h).2 q5
    refine z_iload_n C 0 dX12_reel_11 rfl ?_
    have h := wpO_some.mp h
    exact z_ireturn T C dX12_reel_12 hr4 rfl h
noncomputable def fX12_reelAt (x1 : Int) (x2 : Int) (x3 : Int) (σ : St) : Option (Int × St) :=
  bnk (fX12_mayReel x1 x2 σ) (fun r3 => if 0 ≤ r3 then (bnd (fX12_layReel x1 x2 σ) (fun _ σ8 => ck (inr ((gI σ8 1365 0 0) - 1)) (bnk (fX12_in x3 0 ((gI σ8 1365 0 0) - 1)) (fun r13 => if r13 = 0 then (some ((-9), σ8)) else (ck (0 ≤ x3 ∧ x3 < 8) (some (gI σ8 1364 0 x3.toNat, σ8))))))) else (some (r3, σ)))
set_option maxRecDepth 20000 in
set_option maxHeartbeats 4000000 in
theorem ct_X12_reelAt (x1 : Int) (x2 : Int) (x3 : Int) (hx1 : inr x1) (hx2 : inr x2) (hx3 : inr x3) : Ct yX12_reelAt cX12_reelAt 5 (some .int) 8 (fun ad => [vo ad 12 (some 0), vi x1, vi x2, vi x3]) (fX12_reelAt x1 x2 x3) enI okI (fun _ => True) := by
  refine Ct.of (by decide) (fun ad => Nat.le_of_ble_eq_true rfl) ?_
  intro κ ad σ X C T hpre h
  have C : Cx κ RX12 cX12_reelAt 5 (some .int) 8 := C
  unfold fX12_reelAt at h
  show Z κ (0, 0) (Qm κ ad σ enI okI X) 0 [(0, vo ad 12 (some 0)), (1, vi x1), (2, vi x2), (3, vi x3)] [] ad σ
  refine z_rng (fun hI1 hJ2 => ?_)
  refine z_aload_n C 0 dX12_reelAt_0 rfl ?_
  refine z_iload_n C 1 dX12_reelAt_1 rfl ?_
  refine z_iload_n C 2 dX12_reelAt_2 rfl ?_
  refine z_cVp (st := []) T C (ct_X12_mayReel x1 x2 hx1 hx2) lm_X12_428 lv_vX12_mayReel dX12_reelAt_3 [vi x1, vi x2] rfl rfl rfl rfl rfl (sg_12 T) trivial (by decide) (Nat.le_of_ble_eq_true rfl) csOK_0 h (fun r3 hr4 h => ?_)
  show Z κ (0, 0) _ 6 _ [vi r3] ad σ
  refine z_istore (lv2 := [(4, vi r3), (0, vo ad 12 (some 0)), (1, vi x1), (2, vi x2), (3, vi x3)]) C dX12_reelAt_6 (by decide) rfl ?_
  refine z_iload C 0 dX12_reelAt_8 rfl ?_
  refine z_if_ge C 16 hr4 dX12_reelAt_10 (by decide) (fun q5 => ?_) (fun q5 => ?_)
  · have h := (wpO_ite.mp h).1 q5
    refine z_aload_n C 1 dX12_reelAt_16 rfl ?_
    refine z_iload_n C 2 dX12_reelAt_17 rfl ?_
    refine z_iload_n C 3 dX12_reelAt_18 rfl ?_
    refine z_cV (st := []) T C (ct_X12_layReel x1 x2 hx1 hx2) lm_X12_431 lv_vX12_layReel dX12_reelAt_19 [vi x1, vi x2] rfl rfl rfl rfl rfl (sg_12 T) trivial (by decide) (Nat.le_of_ble_eq_true rfl) csOK_0 h (fun r6 σ8 hr7 eN9 h => ?_)
    show Z κ (0, 0) _ 22 _ [] ad σ8
    refine z_rng (fun hI10 hJ11 => ?_)
    refine z_iload_n C 4 dX12_reelAt_22 rfl ?_
    refine z_i2l C hx3 dX12_reelAt_23 ?_
    refine z_lconst (z := 0) C dX12_reelAt_24 (by decide) ?_
    refine z_aload_n C 1 dX12_reelAt_25 rfl ?_
    refine z_gIv (v := gI σ8 1365 0 0) C li_X12_417 (sg_12 T) rfl dX12_reelAt_26 ?_
    refine z_iconst C dX12_reelAt_29 ?_
    obtain ⟨hk12, h⟩ := wpO_ck.mp h
    refine z_isub C dX12_reelAt_30 ?_
    refine z_i2l C hk12 dX12_reelAt_31 ?_
    refine z_cSp (st := []) T C (ct_X12_in x3 0 ((gI σ8 1365 0 0) - 1) (inq_i hx3) (by decide) (inq_i hk12)) lm_X12_245 ls_X12_in dX12_reelAt_32 rfl rfl trivial (by decide) (Nat.le_of_ble_eq_true rfl) csOK_0 h (fun r13 hr14 h => ?_)
    show Z κ (0, 0) _ 35 _ [vi r13] ad σ8
    refine z_if_eq C 47 (inr_b hr14) dX12_reelAt_35 (by decide) (fun q15 => ?_) (fun q15 => ?_)
    · have h := (wpO_ite.mp h).1 q15
      refine z_bipush C dX12_reelAt_47 (by decide) ?_
      have h := wpO_some.mp h
      exact z_ireturn T C dX12_reelAt_49 (by decide) eN9 h
    · have h := (wpO_ite.mp h).2 q15
      refine z_aload_n C 1 dX12_reelAt_38 rfl ?_
      refine z_gA T C li_X12_174 (sg_12 T) dX12_reelAt_39 ?_
      refine z_iload_n C 4 dX12_reelAt_42 rfl ?_
      obtain ⟨hb16, h⟩ := wpO_ck.mp h
      refine z_iav (v := gI σ8 1364 0 x3.toNat) C ar_1364 (sg_1364 T) hx3 hb16 rfl dX12_reelAt_43 ?_
      refine z_goto C 49 dX12_reelAt_44 (by decide) ?_
      have h := wpO_some.mp h
      exact z_ireturn T C dX12_reelAt_49 (hI10 1364 0 _) eN9 h
  · have h := (wpO_ite.mp h).2 q5
    refine z_iload C 0 dX12_reelAt_13 rfl ?_
    have h := wpO_some.mp h
    exact z_ireturn T C dX12_reelAt_15 hr4 rfl h
noncomputable def fX12_reserve_j29 (x1 : Int) (x2 : Int) (s0 : Int) (σ1 : St) : Option (Int × St) :=
  ck (0 ≤ x1 ∧ x1 < 16) (ck (x2 = 0 ∨ x2 = 1) (some (s0, sI σ1 1348 0 x1.toNat x2)))
noncomputable def fX12_reserve (x1 : Int) (x2 : Int) (σ : St) : Option (Int × St) :=
  bnk (fX12_in x1 0 15) (fun r7 => if r7 = 0 then (some ((-2), σ)) else (ck (0 ≤ x1 ∧ x1 < 16) (if gI σ 1348 0 x1.toNat = 0 then (fX12_reserve_j29 x1 x2 0 σ) else (fX12_reserve_j29 x1 x2 1 σ))))
set_option maxRecDepth 20000 in
set_option maxHeartbeats 4000000 in
theorem ct_X12_reserve (x1 : Int) (x2 : Int) (hx1 : inr x1) (hx2 : x2 = 0 ∨ x2 = 1) : Ct yX12_reserve cX12_reserve 4 (some .int) 1 (fun ad => [vo ad 12 (some 0), vi x1, vi x2]) (fX12_reserve x1 x2) enI okI (fun _ => True) := by
  refine Ct.of (by decide) (fun ad => Nat.le_of_ble_eq_true rfl) ?_
  intro κ ad σ X C T hpre h
  have C : Cx κ RX12 cX12_reserve 4 (some .int) 1 := C
  unfold fX12_reserve at h
  have J29 : ∀ (x1 : Int) (x2 : Int) (s0 : Int) (σ1 : St), inr x1 → inr x2 → inr s0 → σ1.2.2.2 = σ.2.2.2 → wpO (fX12_reserve_j29 x1 x2 s0 σ1) (fun q => X q.1 q.2) → Z κ (0, 0) (Qm κ ad σ enI okI X) 29 [(0, vo ad 12 (some 0)), (1, vi x1), (2, vi x2)] [vi s0] ad σ1 := by
    intro x1 x2 s0 σ1 hx1 hx2 hs0 eN1 h
    unfold fX12_reserve_j29 at h
    refine z_rng (fun hI1 hJ2 => ?_)
    refine z_istore_n (lv2 := [(3, vi s0), (0, vo ad 12 (some 0)), (1, vi x1), (2, vi x2)]) C dX12_reserve_29 (by decide) rfl ?_
    refine z_aload_n C 1 dX12_reserve_30 rfl ?_
    refine z_gA T C li_X12_132 (sg_12 T) dX12_reserve_31 ?_
    refine z_iload_n C 2 dX12_reserve_34 rfl ?_
    refine z_iload_n C 3 dX12_reserve_35 rfl ?_
    obtain ⟨hb3, h⟩ := wpO_ck.mp h
    obtain ⟨hb4, h⟩ := wpO_ck.mp h
    refine z_bastore C ar_1348 (sg_1348 T) hx1 hb3 hx2 hb4 dX12_reserve_36 ?_
    refine z_iload_n C 0 dX12_reserve_37 rfl ?_
    have h := wpO_some.mp h
    exact z_ireturn T C dX12_reserve_38 hs0 eN1 h
  show Z κ (0, 0) (Qm κ ad σ enI okI X) 0 [(0, vo ad 12 (some 0)), (1, vi x1), (2, vi x2)] [] ad σ
  refine z_rng (fun hI5 hJ6 => ?_)
  refine z_iload_n C 1 dX12_reserve_0 rfl ?_
  refine z_i2l C hx1 dX12_reserve_1 ?_
  refine z_lconst (z := 0) C dX12_reserve_2 (by decide) ?_
  refine z_ldc2_w C lc_X12_284 dX12_reserve_3 ?_
  refine z_cSp (st := []) T C (ct_X12_in x1 0 15 (inq_i hx1) (by decide) (by decide)) lm_X12_245 ls_X12_in dX12_reserve_6 rfl rfl trivial (by decide) (Nat.le_of_ble_eq_true rfl) csOK_0 h (fun r7 hr8 h => ?_)
  show Z κ (0, 0) _ 9 _ [vi r7] ad σ
  refine z_if_ne C 15 (inr_b hr8) dX12_reserve_9 (by decide) (fun q9 => ?_) (fun q9 => ?_)
  · have h := (wpO_ite.mp h).2 q9
    refine z_aload_n C 0 dX12_reserve_15 rfl ?_
    refine z_gA T C li_X12_132 (sg_12 T) dX12_reserve_16 ?_
    refine z_iload_n C 1 dX12_reserve_19 rfl ?_
    obtain ⟨hb10, h⟩ := wpO_ck.mp h
    refine z_bav (v := gI σ 1348 0 x1.toNat) C ar_1348 (sg_1348 T) hx1 hb10 rfl dX12_reserve_20 ?_
    refine z_if_eq C 28 (hI5 1348 0 _) dX12_reserve_21 (by decide) (fun q11 => ?_) (fun q11 => ?_)
    · have h := (wpO_ite.mp h).1 q11
      refine z_iconst C dX12_reserve_28 ?_
      exact J29 x1 x2 0 σ hx1 (inr_b hx2) (by decide) rfl h
    · have h := (wpO_ite.mp h).2 q11
      refine z_iconst C dX12_reserve_24 ?_
      refine z_goto C 29 dX12_reserve_25 (by decide) ?_
      exact J29 x1 x2 1 σ hx1 (inr_b hx2) (by decide) rfl h
  · have h := (wpO_ite.mp h).1 q9
    refine z_bipush C dX12_reserve_12 (by decide) ?_
    have h := wpO_some.mp h
    exact z_ireturn T C dX12_reserve_14 (by decide) rfl h
noncomputable def fX12_right (x1 : Int) (x2 : Int) (x3 : Int) (x4 : Int) (x5 : Int) (σ : St) : Option (Int × St) :=
  bnk (fX12_in x1 0 15) (fun r3 => if r3 = 0 then (some ((-2), σ)) else (bnk (fX12_in x2 0 31) (fun r6 => if r6 = 0 then (some ((-2), σ)) else (bnk (fX12_isDay x3) (fun r9 => if r9 = 0 then (some ((-2), σ)) else (bnk (fX12_in x4 x3 416) (fun r12 => if r12 = 0 then (some ((-2), σ)) else (bnk (fX12_in x5 1 99) (fun r15 => if r15 = 0 then (some ((-2), σ)) else (if gI σ 1349 0 0 = 8 then (some ((-4), σ)) else (ck (0 ≤ gI σ 1349 0 0 ∧ gI σ 1349 0 0 < 8) (ck (0 ≤ gI σ 1349 0 0 ∧ gI σ 1349 0 0 < 8) (ck (0 ≤ gI σ 1349 0 0 ∧ gI σ 1349 0 0 < 8) (ck (0 ≤ gI σ 1349 0 0 ∧ gI σ 1349 0 0 < 8) (ck (0 ≤ gI σ 1349 0 0 ∧ gI σ 1349 0 0 < 8) (ck (inr ((gI σ 1349 0 0) + 1)) (ck (inr (((gI σ 1349 0 0) + 1) - 1)) (some (((gI σ 1349 0 0) + 1) - 1, sI (sI (sI (sI (sI (sI σ 1350 0 ((gI σ 1349 0 0).toNat) x1) 1351 0 ((gI σ 1349 0 0).toNat) x2) 1352 0 ((gI σ 1349 0 0).toNat) x3) 1353 0 ((gI σ 1349 0 0).toNat) x4) 1354 0 ((gI σ 1349 0 0).toNat) x5) 1349 0 0 ((gI σ 1349 0 0) + 1))))))))))))))))))))
set_option maxRecDepth 20000 in
set_option maxHeartbeats 4000000 in
theorem ct_X12_right (x1 : Int) (x2 : Int) (x3 : Int) (x4 : Int) (x5 : Int) (hx1 : inr x1) (hx2 : inr x2) (hx3 : inr x3) (hx4 : inr x4) (hx5 : inr x5) : Ct yX12_right cX12_right 6 (some .int) 2 (fun ad => [vo ad 12 (some 0), vi x1, vi x2, vi x3, vi x4, vi x5]) (fX12_right x1 x2 x3 x4 x5) enI okI (fun _ => True) := by
  refine Ct.of (by decide) (fun ad => Nat.le_of_ble_eq_true rfl) ?_
  intro κ ad σ X C T hpre h
  have C : Cx κ RX12 cX12_right 6 (some .int) 2 := C
  unfold fX12_right at h
  show Z κ (0, 0) (Qm κ ad σ enI okI X) 0 [(0, vo ad 12 (some 0)), (1, vi x1), (2, vi x2), (3, vi x3), (4, vi x4), (5, vi x5)] [] ad σ
  refine z_rng (fun hI1 hJ2 => ?_)
  refine z_iload_n C 1 dX12_right_0 rfl ?_
  refine z_i2l C hx1 dX12_right_1 ?_
  refine z_lconst (z := 0) C dX12_right_2 (by decide) ?_
  refine z_ldc2_w C lc_X12_284 dX12_right_3 ?_
  refine z_cSp (st := []) T C (ct_X12_in x1 0 15 (inq_i hx1) (by decide) (by decide)) lm_X12_245 ls_X12_in dX12_right_6 rfl rfl trivial (by decide) (Nat.le_of_ble_eq_true rfl) csOK_0 h (fun r3 hr4 h => ?_)
  show Z κ (0, 0) _ 9 _ [vi r3] ad σ
  refine z_if_eq C 58 (inr_b hr4) dX12_right_9 (by decide) (fun q5 => ?_) (fun q5 => ?_)
  · have h := (wpO_ite.mp h).1 q5
    refine z_bipush C dX12_right_58 (by decide) ?_
    have h := wpO_some.mp h
    exact z_ireturn T C dX12_right_60 (by decide) rfl h
  · have h := (wpO_ite.mp h).2 q5
    refine z_iload_n C 2 dX12_right_12 rfl ?_
    refine z_i2l C hx2 dX12_right_13 ?_
    refine z_lconst (z := 0) C dX12_right_14 (by decide) ?_
    refine z_ldc2_w C lc_X12_395 dX12_right_15 ?_
    refine z_cSp (st := []) T C (ct_X12_in x2 0 31 (inq_i hx2) (by decide) (by decide)) lm_X12_245 ls_X12_in dX12_right_18 rfl rfl trivial (by decide) (Nat.le_of_ble_eq_true rfl) csOK_0 h (fun r6 hr7 h => ?_)
    show Z κ (0, 0) _ 21 _ [vi r6] ad σ
    refine z_if_eq C 58 (inr_b hr7) dX12_right_21 (by decide) (fun q8 => ?_) (fun q8 => ?_)
    · have h := (wpO_ite.mp h).1 q8
      refine z_bipush C dX12_right_58 (by decide) ?_
      have h := wpO_some.mp h
      exact z_ireturn T C dX12_right_60 (by decide) rfl h
    · have h := (wpO_ite.mp h).2 q8
      refine z_iload_n C 3 dX12_right_24 rfl ?_
      refine z_cSp (st := []) T C (ct_X12_isDay x3 hx3) lm_X12_339 ls_X12_isDay dX12_right_25 rfl rfl trivial (by decide) (Nat.le_of_ble_eq_true rfl) csOK_0 h (fun r9 hr10 h => ?_)
      show Z κ (0, 0) _ 28 _ [vi r9] ad σ
      refine z_if_eq C 58 (inr_b hr10) dX12_right_28 (by decide) (fun q11 => ?_) (fun q11 => ?_)
      · have h := (wpO_ite.mp h).1 q11
        refine z_bipush C dX12_right_58 (by decide) ?_
        have h := wpO_some.mp h
        exact z_ireturn T C dX12_right_60 (by decide) rfl h
      · have h := (wpO_ite.mp h).2 q11
        refine z_iload C 4 dX12_right_31 rfl ?_
        refine z_i2l C hx4 dX12_right_33 ?_
        refine z_iload_n C 3 dX12_right_34 rfl ?_
        refine z_i2l C hx3 dX12_right_35 ?_
        refine z_ldc2_w C lc_X12_249 dX12_right_36 ?_
        refine z_cSp (st := []) T C (ct_X12_in x4 x3 416 (inq_i hx4) (inq_i hx3) (by decide)) lm_X12_245 ls_X12_in dX12_right_39 rfl rfl trivial (by decide) (Nat.le_of_ble_eq_true rfl) csOK_0 h (fun r12 hr13 h => ?_)
        show Z κ (0, 0) _ 42 _ [vi r12] ad σ
        refine z_if_eq C 58 (inr_b hr13) dX12_right_42 (by decide) (fun q14 => ?_) (fun q14 => ?_)
        · have h := (wpO_ite.mp h).1 q14
          refine z_bipush C dX12_right_58 (by decide) ?_
          have h := wpO_some.mp h
          exact z_ireturn T C dX12_right_60 (by decide) rfl h
        · have h := (wpO_ite.mp h).2 q14
          refine z_iload C 5 dX12_right_45 rfl ?_
          refine z_i2l C hx5 dX12_right_47 ?_
          refine z_lconst (z := 1) C dX12_right_48 (by decide) ?_
          refine z_ldc2_w C lc_X12_334 dX12_right_49 ?_
          refine z_cSp (st := []) T C (ct_X12_in x5 1 99 (inq_i hx5) (by decide) (by decide)) lm_X12_245 ls_X12_in dX12_right_52 rfl rfl trivial (by decide) (Nat.le_of_ble_eq_true rfl) csOK_0 h (fun r15 hr16 h => ?_)
          show Z κ (0, 0) _ 55 _ [vi r15] ad σ
          refine z_if_ne C 61 (inr_b hr16) dX12_right_55 (by decide) (fun q17 => ?_) (fun q17 => ?_)
          · have h := (wpO_ite.mp h).2 q17
            refine z_aload_n C 0 dX12_right_61 rfl ?_
            refine z_gIv (v := gI σ 1349 0 0) C li_X12_397 (sg_12 T) rfl dX12_right_62 ?_
            refine z_bipush C dX12_right_65 (by decide) ?_
            refine z_icmp_ne C 73 (hI1 1349 0 _) (by decide) dX12_right_67 (by decide) (fun q18 => ?_) (fun q18 => ?_)
            · have h := (wpO_ite.mp h).2 q18
              refine z_aload_n C 0 dX12_right_73 rfl ?_
              refine z_gA T C li_X12_135 (sg_12 T) dX12_right_74 ?_
              refine z_aload_n C 0 dX12_right_77 rfl ?_
              refine z_gIv (v := gI σ 1349 0 0) C li_X12_397 (sg_12 T) rfl dX12_right_78 ?_
              refine z_iload_n C 1 dX12_right_81 rfl ?_
              obtain ⟨hb19, h⟩ := wpO_ck.mp h
              refine z_iastore C ar_1350 (sg_1350 T) (hI1 1349 0 _) hb19 hx1 dX12_right_82 ?_
              refine z_aload_n C 0 dX12_right_83 rfl ?_
              refine z_gA T C li_X12_138 (sg_12 T) dX12_right_84 ?_
              refine z_aload_n C 0 dX12_right_87 rfl ?_
              refine z_gIv (v := gI σ 1349 0 0) C li_X12_397 (sg_12 T) (gn (by decide) rfl) dX12_right_88 ?_
              refine z_iload_n C 2 dX12_right_91 rfl ?_
              obtain ⟨hb20, h⟩ := wpO_ck.mp h
              refine z_iastore C ar_1351 (sg_1351 T) (hI1 1349 0 _) hb20 hx2 dX12_right_92 ?_
              refine z_aload_n C 0 dX12_right_93 rfl ?_
              refine z_gA T C li_X12_141 (sg_12 T) dX12_right_94 ?_
              refine z_aload_n C 0 dX12_right_97 rfl ?_
              refine z_gIv (v := gI σ 1349 0 0) C li_X12_397 (sg_12 T) (gn (by decide) (gn (by decide) rfl)) dX12_right_98 ?_
              refine z_iload_n C 3 dX12_right_101 rfl ?_
              obtain ⟨hb21, h⟩ := wpO_ck.mp h
              refine z_iastore C ar_1352 (sg_1352 T) (hI1 1349 0 _) hb21 hx3 dX12_right_102 ?_
              refine z_aload_n C 0 dX12_right_103 rfl ?_
              refine z_gA T C li_X12_144 (sg_12 T) dX12_right_104 ?_
              refine z_aload_n C 0 dX12_right_107 rfl ?_
              refine z_gIv (v := gI σ 1349 0 0) C li_X12_397 (sg_12 T) (gn (by decide) (gn (by decide) (gn (by decide) rfl))) dX12_right_108 ?_
              refine z_iload C 4 dX12_right_111 rfl ?_
              obtain ⟨hb22, h⟩ := wpO_ck.mp h
              refine z_iastore C ar_1353 (sg_1353 T) (hI1 1349 0 _) hb22 hx4 dX12_right_113 ?_
              refine z_aload_n C 0 dX12_right_114 rfl ?_
              refine z_gA T C li_X12_147 (sg_12 T) dX12_right_115 ?_
              refine z_aload_n C 0 dX12_right_118 rfl ?_
              refine z_gIv (v := gI σ 1349 0 0) C li_X12_397 (sg_12 T) (gn (by decide) (gn (by decide) (gn (by decide) (gn (by decide) rfl)))) dX12_right_119 ?_
              refine z_iload C 5 dX12_right_122 rfl ?_
              obtain ⟨hb23, h⟩ := wpO_ck.mp h
              refine z_iastore C ar_1354 (sg_1354 T) (hI1 1349 0 _) hb23 hx5 dX12_right_124 ?_
              refine z_aload_n C 0 dX12_right_125 rfl ?_
              refine z_dup C dX12_right_126 rfl ?_
              refine z_gIv (v := gI σ 1349 0 0) C li_X12_397 (sg_12 T) (gn (by decide) (gn (by decide) (gn (by decide) (gn (by decide) (gn (by decide) rfl))))) dX12_right_127 ?_
              refine z_iconst C dX12_right_130 ?_
              obtain ⟨hk24, h⟩ := wpO_ck.mp h
              refine z_iadd C dX12_right_131 ?_
              refine z_pI C lq_X12_397 (sg_12 T) hk24 dX12_right_132 ?_
              refine z_aload_n C 0 dX12_right_135 rfl ?_
              refine z_gIv (v := (gI σ 1349 0 0) + 1) C li_X12_397 (sg_12 T) gs dX12_right_136 ?_
              refine z_iconst C dX12_right_139 ?_
              obtain ⟨hk25, h⟩ := wpO_ck.mp h
              refine z_isub C dX12_right_140 ?_
              have h := wpO_some.mp h
              exact z_ireturn T C dX12_right_141 hk25 rfl h
            · have h := (wpO_ite.mp h).1 q18
              refine z_bipush C dX12_right_70 (by decide) ?_
              have h := wpO_some.mp h
              exact z_ireturn T C dX12_right_72 (by decide) rfl h
          · have h := (wpO_ite.mp h).1 q17
            refine z_bipush C dX12_right_58 (by decide) ?_
            have h := wpO_some.mp h
            exact z_ireturn T C dX12_right_60 (by decide) rfl h
noncomputable def fX12_rival_j29 (x1 : Int) (x2 : Int) (s0 : Int) (σ1 : St) : Option (Int × St) :=
  ck (0 ≤ x1 ∧ x1 < 16) (ck (x2 = 0 ∨ x2 = 1) (some (s0, sI σ1 1358 0 x1.toNat x2)))
noncomputable def fX12_rival (x1 : Int) (x2 : Int) (σ : St) : Option (Int × St) :=
  bnk (fX12_in x1 0 15) (fun r7 => if r7 = 0 then (some ((-2), σ)) else (ck (0 ≤ x1 ∧ x1 < 16) (if gI σ 1358 0 x1.toNat = 0 then (fX12_rival_j29 x1 x2 0 σ) else (fX12_rival_j29 x1 x2 1 σ))))
set_option maxRecDepth 20000 in
set_option maxHeartbeats 4000000 in
theorem ct_X12_rival (x1 : Int) (x2 : Int) (hx1 : inr x1) (hx2 : x2 = 0 ∨ x2 = 1) : Ct yX12_rival cX12_rival 4 (some .int) 1 (fun ad => [vo ad 12 (some 0), vi x1, vi x2]) (fX12_rival x1 x2) enI okI (fun _ => True) := by
  refine Ct.of (by decide) (fun ad => Nat.le_of_ble_eq_true rfl) ?_
  intro κ ad σ X C T hpre h
  have C : Cx κ RX12 cX12_rival 4 (some .int) 1 := C
  unfold fX12_rival at h
  have J29 : ∀ (x1 : Int) (x2 : Int) (s0 : Int) (σ1 : St), inr x1 → inr x2 → inr s0 → σ1.2.2.2 = σ.2.2.2 → wpO (fX12_rival_j29 x1 x2 s0 σ1) (fun q => X q.1 q.2) → Z κ (0, 0) (Qm κ ad σ enI okI X) 29 [(0, vo ad 12 (some 0)), (1, vi x1), (2, vi x2)] [vi s0] ad σ1 := by
    intro x1 x2 s0 σ1 hx1 hx2 hs0 eN1 h
    unfold fX12_rival_j29 at h
    refine z_rng (fun hI1 hJ2 => ?_)
    refine z_istore_n (lv2 := [(3, vi s0), (0, vo ad 12 (some 0)), (1, vi x1), (2, vi x2)]) C dX12_rival_29 (by decide) rfl ?_
    refine z_aload_n C 1 dX12_rival_30 rfl ?_
    refine z_gA T C li_X12_159 (sg_12 T) dX12_rival_31 ?_
    refine z_iload_n C 2 dX12_rival_34 rfl ?_
    refine z_iload_n C 3 dX12_rival_35 rfl ?_
    obtain ⟨hb3, h⟩ := wpO_ck.mp h
    obtain ⟨hb4, h⟩ := wpO_ck.mp h
    refine z_bastore C ar_1358 (sg_1358 T) hx1 hb3 hx2 hb4 dX12_rival_36 ?_
    refine z_iload_n C 0 dX12_rival_37 rfl ?_
    have h := wpO_some.mp h
    exact z_ireturn T C dX12_rival_38 hs0 eN1 h
  show Z κ (0, 0) (Qm κ ad σ enI okI X) 0 [(0, vo ad 12 (some 0)), (1, vi x1), (2, vi x2)] [] ad σ
  refine z_rng (fun hI5 hJ6 => ?_)
  refine z_iload_n C 1 dX12_rival_0 rfl ?_
  refine z_i2l C hx1 dX12_rival_1 ?_
  refine z_lconst (z := 0) C dX12_rival_2 (by decide) ?_
  refine z_ldc2_w C lc_X12_284 dX12_rival_3 ?_
  refine z_cSp (st := []) T C (ct_X12_in x1 0 15 (inq_i hx1) (by decide) (by decide)) lm_X12_245 ls_X12_in dX12_rival_6 rfl rfl trivial (by decide) (Nat.le_of_ble_eq_true rfl) csOK_0 h (fun r7 hr8 h => ?_)
  show Z κ (0, 0) _ 9 _ [vi r7] ad σ
  refine z_if_ne C 15 (inr_b hr8) dX12_rival_9 (by decide) (fun q9 => ?_) (fun q9 => ?_)
  · have h := (wpO_ite.mp h).2 q9
    refine z_aload_n C 0 dX12_rival_15 rfl ?_
    refine z_gA T C li_X12_159 (sg_12 T) dX12_rival_16 ?_
    refine z_iload_n C 1 dX12_rival_19 rfl ?_
    obtain ⟨hb10, h⟩ := wpO_ck.mp h
    refine z_bav (v := gI σ 1358 0 x1.toNat) C ar_1358 (sg_1358 T) hx1 hb10 rfl dX12_rival_20 ?_
    refine z_if_eq C 28 (hI5 1358 0 _) dX12_rival_21 (by decide) (fun q11 => ?_) (fun q11 => ?_)
    · have h := (wpO_ite.mp h).1 q11
      refine z_iconst C dX12_rival_28 ?_
      exact J29 x1 x2 0 σ hx1 (inr_b hx2) (by decide) rfl h
    · have h := (wpO_ite.mp h).2 q11
      refine z_iconst C dX12_rival_24 ?_
      refine z_goto C 29 dX12_rival_25 (by decide) ?_
      exact J29 x1 x2 1 σ hx1 (inr_b hx2) (by decide) rfl h
  · have h := (wpO_ite.mp h).1 q9
    refine z_bipush C dX12_rival_12 (by decide) ?_
    have h := wpO_some.mp h
    exact z_ireturn T C dX12_rival_14 (by decide) rfl h
noncomputable def fX12_rule (x1 : Int) (σ : St) : Option (Int × St) :=
  bnk (fX12_isDay x1) (fun r3 => if r3 = 0 then (some ((-2), σ)) else (if gI σ 1337 0 0 = 6 then (some ((-4), σ)) else (ck (0 ≤ gI σ 1337 0 0 ∧ gI σ 1337 0 0 < 6) (ck (0 ≤ gI σ 1337 0 0 ∧ gI σ 1337 0 0 < 6) (ck (inr ((gI σ 1337 0 0) + 1)) (ck (inr (((gI σ 1337 0 0) + 1) - 1)) (some (((gI σ 1337 0 0) + 1) - 1, sI (sI (sI σ 1338 0 ((gI σ 1337 0 0).toNat) x1) 1339 0 ((gI σ 1337 0 0).toNat) ((-9))) 1337 0 0 ((gI σ 1337 0 0) + 1)))))))))
set_option maxRecDepth 20000 in
set_option maxHeartbeats 4000000 in
theorem ct_X12_rule (x1 : Int) (hx1 : inr x1) : Ct yX12_rule cX12_rule 2 (some .int) 2 (fun ad => [vo ad 12 (some 0), vi x1]) (fX12_rule x1) enI okI (fun _ => True) := by
  refine Ct.of (by decide) (fun ad => Nat.le_of_ble_eq_true rfl) ?_
  intro κ ad σ X C T hpre h
  have C : Cx κ RX12 cX12_rule 2 (some .int) 2 := C
  unfold fX12_rule at h
  show Z κ (0, 0) (Qm κ ad σ enI okI X) 0 [(0, vo ad 12 (some 0)), (1, vi x1)] [] ad σ
  refine z_rng (fun hI1 hJ2 => ?_)
  refine z_iload_n C 1 dX12_rule_0 rfl ?_
  refine z_cSp (st := []) T C (ct_X12_isDay x1 hx1) lm_X12_339 ls_X12_isDay dX12_rule_1 rfl rfl trivial (by decide) (Nat.le_of_ble_eq_true rfl) csOK_0 h (fun r3 hr4 h => ?_)
  show Z κ (0, 0) _ 4 _ [vi r3] ad σ
  refine z_if_ne C 10 (inr_b hr4) dX12_rule_4 (by decide) (fun q5 => ?_) (fun q5 => ?_)
  · have h := (wpO_ite.mp h).2 q5
    refine z_aload_n C 0 dX12_rule_10 rfl ?_
    refine z_gIv (v := gI σ 1337 0 0) C li_X12_336 (sg_12 T) rfl dX12_rule_11 ?_
    refine z_bipush C dX12_rule_14 (by decide) ?_
    refine z_icmp_ne C 22 (hI1 1337 0 _) (by decide) dX12_rule_16 (by decide) (fun q6 => ?_) (fun q6 => ?_)
    · have h := (wpO_ite.mp h).2 q6
      refine z_aload_n C 0 dX12_rule_22 rfl ?_
      refine z_gA T C li_X12_111 (sg_12 T) dX12_rule_23 ?_
      refine z_aload_n C 0 dX12_rule_26 rfl ?_
      refine z_gIv (v := gI σ 1337 0 0) C li_X12_336 (sg_12 T) rfl dX12_rule_27 ?_
      refine z_iload_n C 1 dX12_rule_30 rfl ?_
      obtain ⟨hb7, h⟩ := wpO_ck.mp h
      refine z_iastore C ar_1338 (sg_1338 T) (hI1 1337 0 _) hb7 hx1 dX12_rule_31 ?_
      refine z_aload_n C 0 dX12_rule_32 rfl ?_
      refine z_gA T C li_X12_114 (sg_12 T) dX12_rule_33 ?_
      refine z_aload_n C 0 dX12_rule_36 rfl ?_
      refine z_gIv (v := gI σ 1337 0 0) C li_X12_336 (sg_12 T) (gn (by decide) rfl) dX12_rule_37 ?_
      refine z_bipush C dX12_rule_40 (by decide) ?_
      obtain ⟨hb8, h⟩ := wpO_ck.mp h
      refine z_iastore C ar_1339 (sg_1339 T) (hI1 1337 0 _) hb8 (by decide) dX12_rule_42 ?_
      refine z_aload_n C 0 dX12_rule_43 rfl ?_
      refine z_dup C dX12_rule_44 rfl ?_
      refine z_gIv (v := gI σ 1337 0 0) C li_X12_336 (sg_12 T) (gn (by decide) (gn (by decide) rfl)) dX12_rule_45 ?_
      refine z_iconst C dX12_rule_48 ?_
      obtain ⟨hk9, h⟩ := wpO_ck.mp h
      refine z_iadd C dX12_rule_49 ?_
      refine z_pI C lq_X12_336 (sg_12 T) hk9 dX12_rule_50 ?_
      refine z_aload_n C 0 dX12_rule_53 rfl ?_
      refine z_gIv (v := (gI σ 1337 0 0) + 1) C li_X12_336 (sg_12 T) gs dX12_rule_54 ?_
      refine z_iconst C dX12_rule_57 ?_
      obtain ⟨hk10, h⟩ := wpO_ck.mp h
      refine z_isub C dX12_rule_58 ?_
      have h := wpO_some.mp h
      exact z_ireturn T C dX12_rule_59 hk10 rfl h
    · have h := (wpO_ite.mp h).1 q6
      refine z_bipush C dX12_rule_19 (by decide) ?_
      have h := wpO_some.mp h
      exact z_ireturn T C dX12_rule_21 (by decide) rfl h
  · have h := (wpO_ite.mp h).1 q5
    refine z_bipush C dX12_rule_7 (by decide) ?_
    have h := wpO_some.mp h
    exact z_ireturn T C dX12_rule_9 (by decide) rfl h
noncomputable def fX12_run (σ : St) : Option (Int × St) :=
  bnd (fX12_freeAll σ) (fun r3 σ5 => some (r3, σ5))
set_option maxRecDepth 20000 in
set_option maxHeartbeats 4000000 in
theorem ct_X12_run  : Ct yX12_run cX12_run 1 (some .int) 3 (fun ad => [vo ad 12 (some 0)]) fX12_run enI okI (fun _ => True) := by
  refine Ct.of (by decide) (fun ad => Nat.le_of_ble_eq_true rfl) ?_
  intro κ ad σ X C T hpre h
  have C : Cx κ RX12 cX12_run 1 (some .int) 3 := C
  unfold fX12_run at h
  show Z κ (0, 0) (Qm κ ad σ enI okI X) 0 [(0, vo ad 12 (some 0))] [] ad σ
  refine z_rng (fun hI1 hJ2 => ?_)
  refine z_aload_n C 0 dX12_run_0 rfl ?_
  refine z_cV (st := []) T C ct_X12_freeAll lm_X12_481 lv_vX12_freeAll dX12_run_1 [] rfl rfl rfl rfl rfl (sg_12 T) trivial (by decide) (Nat.le_of_ble_eq_true rfl) csOK_0 h (fun r3 σ5 hr4 eN6 h => ?_)
  show Z κ (0, 0) _ 4 _ [vi r3] ad σ5
  refine z_rng (fun hI7 hJ8 => ?_)
  have h := wpO_some.mp h
  exact z_ireturn T C dX12_run_4 hr4 eN6 h
noncomputable def fX12_say_j24 (x1 : Int) (x2 : Int) (s0 : Int) (σ1 : St) : Option (Int × St) :=
  ck (0 ≤ x1 ∧ x1 < 8) (ck (x2 = 0 ∨ x2 = 1) (some (s0, sI σ1 1333 0 x1.toNat x2)))
noncomputable def fX12_say (x1 : Int) (x2 : Int) (σ : St) : Option (Int × St) :=
  bnk (fX12_isStory x1 σ) (fun r7 => if r7 = 0 then (some ((-1), σ)) else (ck (0 ≤ x1 ∧ x1 < 8) (if gI σ 1333 0 x1.toNat = 0 then (fX12_say_j24 x1 x2 0 σ) else (fX12_say_j24 x1 x2 1 σ))))
set_option maxRecDepth 20000 in
set_option maxHeartbeats 4000000 in
theorem ct_X12_say (x1 : Int) (x2 : Int) (hx1 : inr x1) (hx2 : x2 = 0 ∨ x2 = 1) : Ct yX12_say cX12_say 4 (some .int) 2 (fun ad => [vo ad 12 (some 0), vi x1, vi x2]) (fX12_say x1 x2) enI okI (fun _ => True) := by
  refine Ct.of (by decide) (fun ad => Nat.le_of_ble_eq_true rfl) ?_
  intro κ ad σ X C T hpre h
  have C : Cx κ RX12 cX12_say 4 (some .int) 2 := C
  unfold fX12_say at h
  have J24 : ∀ (x1 : Int) (x2 : Int) (s0 : Int) (σ1 : St), inr x1 → inr x2 → inr s0 → σ1.2.2.2 = σ.2.2.2 → wpO (fX12_say_j24 x1 x2 s0 σ1) (fun q => X q.1 q.2) → Z κ (0, 0) (Qm κ ad σ enI okI X) 24 [(0, vo ad 12 (some 0)), (1, vi x1), (2, vi x2)] [vi s0] ad σ1 := by
    intro x1 x2 s0 σ1 hx1 hx2 hs0 eN1 h
    unfold fX12_say_j24 at h
    refine z_rng (fun hI1 hJ2 => ?_)
    refine z_istore_n (lv2 := [(3, vi s0), (0, vo ad 12 (some 0)), (1, vi x1), (2, vi x2)]) C dX12_say_24 (by decide) rfl ?_
    refine z_aload_n C 1 dX12_say_25 rfl ?_
    refine z_gA T C li_X12_98 (sg_12 T) dX12_say_26 ?_
    refine z_iload_n C 2 dX12_say_29 rfl ?_
    refine z_iload_n C 3 dX12_say_30 rfl ?_
    obtain ⟨hb3, h⟩ := wpO_ck.mp h
    obtain ⟨hb4, h⟩ := wpO_ck.mp h
    refine z_bastore C ar_1333 (sg_1333 T) hx1 hb3 hx2 hb4 dX12_say_31 ?_
    refine z_iload_n C 0 dX12_say_32 rfl ?_
    have h := wpO_some.mp h
    exact z_ireturn T C dX12_say_33 hs0 eN1 h
  show Z κ (0, 0) (Qm κ ad σ enI okI X) 0 [(0, vo ad 12 (some 0)), (1, vi x1), (2, vi x2)] [] ad σ
  refine z_rng (fun hI5 hJ6 => ?_)
  refine z_aload_n C 0 dX12_say_0 rfl ?_
  refine z_iload_n C 1 dX12_say_1 rfl ?_
  refine z_cVp (st := []) T C (ct_X12_isStory x1 hx1) lm_X12_316 lv_vX12_isStory dX12_say_2 [vi x1] rfl rfl rfl rfl rfl (sg_12 T) trivial (by decide) (Nat.le_of_ble_eq_true rfl) csOK_0 h (fun r7 hr8 h => ?_)
  show Z κ (0, 0) _ 5 _ [vi r7] ad σ
  refine z_if_ne C 10 (inr_b hr8) dX12_say_5 (by decide) (fun q9 => ?_) (fun q9 => ?_)
  · have h := (wpO_ite.mp h).2 q9
    refine z_aload_n C 0 dX12_say_10 rfl ?_
    refine z_gA T C li_X12_98 (sg_12 T) dX12_say_11 ?_
    refine z_iload_n C 1 dX12_say_14 rfl ?_
    obtain ⟨hb10, h⟩ := wpO_ck.mp h
    refine z_bav (v := gI σ 1333 0 x1.toNat) C ar_1333 (sg_1333 T) hx1 hb10 rfl dX12_say_15 ?_
    refine z_if_eq C 23 (hI5 1333 0 _) dX12_say_16 (by decide) (fun q11 => ?_) (fun q11 => ?_)
    · have h := (wpO_ite.mp h).1 q11
      refine z_iconst C dX12_say_23 ?_
      exact J24 x1 x2 0 σ hx1 (inr_b hx2) (by decide) rfl h
    · have h := (wpO_ite.mp h).2 q11
      refine z_iconst C dX12_say_19 ?_
      refine z_goto C 24 dX12_say_20 (by decide) ?_
      exact J24 x1 x2 1 σ hx1 (inr_b hx2) (by decide) rfl h
  · have h := (wpO_ite.mp h).1 q9
    refine z_iconst C dX12_say_8 ?_
    have h := wpO_some.mp h
    exact z_ireturn T C dX12_say_9 (by decide) rfl h
noncomputable def fX12_send (x1 : Int) (σ : St) : Option (Int × St) :=
  bnk (fX12_isShot x1 σ) (fun r3 => if r3 = 0 then (some ((-1), σ)) else (ck (0 ≤ x1 ∧ x1 < 40) (bnd (fX12_arrives (gI σ 1311 0 x1.toNat) (gI σ 1300 0 0) 0 0 σ) (fun r7 σ9 => ck (0 ≤ x1 ∧ x1 < 40) (bnd (fX12_arrives (gI σ9 1311 0 x1.toNat) (gI σ9 1300 0 0) 0 1 σ9) (fun r14 σ16 => bnk (fX12_whereOf x1 (gI σ16 1300 0 0) σ16) (fun r21 => if r21 = 1 then (if r7 = 1000000 then (some ((-3), σ16)) else (if r14 = 1000000 then (some ((-3), σ16)) else (ck (0 ≤ x1 ∧ x1 < 40) (ck (0 ≤ x1 ∧ x1 < 40) (ck (0 ≤ x1 ∧ x1 < 40) (some (r7, sI (sI (sI σ16 1318 0 x1.toNat (gI σ16 1300 0 0)) 1321 0 x1.toNat r7) 1322 0 x1.toNat r14))))))) else (some ((-3), σ16)))))))))
set_option maxRecDepth 20000 in
set_option maxHeartbeats 4000000 in
theorem ct_X12_send (x1 : Int) (hx1 : inr x1) : Ct yX12_send cX12_send 4 (some .int) 2 (fun ad => [vo ad 12 (some 0), vi x1]) (fX12_send x1) enI okI (fun _ => True) := by
  refine Ct.of (by decide) (fun ad => Nat.le_of_ble_eq_true rfl) ?_
  intro κ ad σ X C T hpre h
  have C : Cx κ RX12 cX12_send 4 (some .int) 2 := C
  unfold fX12_send at h
  show Z κ (0, 0) (Qm κ ad σ enI okI X) 0 [(0, vo ad 12 (some 0)), (1, vi x1)] [] ad σ
  refine z_rng (fun hI1 hJ2 => ?_)
  refine z_aload_n C 0 dX12_send_0 rfl ?_
  refine z_iload_n C 1 dX12_send_1 rfl ?_
  refine z_cVp (st := []) T C (ct_X12_isShot x1 hx1) lm_X12_290 lv_vX12_isShot dX12_send_2 [vi x1] rfl rfl rfl rfl rfl (sg_12 T) trivial (by decide) (Nat.le_of_ble_eq_true rfl) csOK_0 h (fun r3 hr4 h => ?_)
  show Z κ (0, 0) _ 5 _ [vi r3] ad σ
  refine z_if_ne C 10 (inr_b hr4) dX12_send_5 (by decide) (fun q5 => ?_) (fun q5 => ?_)
  · have h := (wpO_ite.mp h).2 q5
    refine z_aload_n C 0 dX12_send_10 rfl ?_
    refine z_aload_n C 0 dX12_send_11 rfl ?_
    refine z_gA T C li_X12_35 (sg_12 T) dX12_send_12 ?_
    refine z_iload_n C 1 dX12_send_15 rfl ?_
    obtain ⟨hb6, h⟩ := wpO_ck.mp h
    refine z_iav (v := gI σ 1311 0 x1.toNat) C ar_1311 (sg_1311 T) hx1 hb6 rfl dX12_send_16 ?_
    refine z_aload_n C 0 dX12_send_17 rfl ?_
    refine z_gIv (v := gI σ 1300 0 0) C li_X12_255 (sg_12 T) rfl dX12_send_18 ?_
    refine z_iconst C dX12_send_21 ?_
    refine z_iconst C dX12_send_22 ?_
    refine z_cV (st := []) T C (ct_X12_arrives (gI σ 1311 0 x1.toNat) (gI σ 1300 0 0) 0 0 (hI1 1311 0 _) (hI1 1300 0 _) (by decide) (by decide)) lm_X12_275 lv_vX12_arrives dX12_send_23 [vi (gI σ 1311 0 x1.toNat), vi (gI σ 1300 0 0), vi 0, vi 0] rfl rfl rfl rfl rfl (sg_12 T) trivial (by decide) (Nat.le_of_ble_eq_true rfl) csOK_0 h (fun r7 σ9 hr8 eN10 h => ?_)
    show Z κ (0, 0) _ 26 _ [vi r7] ad σ9
    refine z_rng (fun hI11 hJ12 => ?_)
    refine z_istore_n (lv2 := [(2, vi r7), (0, vo ad 12 (some 0)), (1, vi x1)]) C dX12_send_26 (by decide) rfl ?_
    refine z_aload_n C 1 dX12_send_27 rfl ?_
    refine z_aload_n C 1 dX12_send_28 rfl ?_
    refine z_gA T C li_X12_35 (sg_12 T) dX12_send_29 ?_
    refine z_iload_n C 2 dX12_send_32 rfl ?_
    obtain ⟨hb13, h⟩ := wpO_ck.mp h
    refine z_iav (v := gI σ9 1311 0 x1.toNat) C ar_1311 (sg_1311 T) hx1 hb13 rfl dX12_send_33 ?_
    refine z_aload_n C 1 dX12_send_34 rfl ?_
    refine z_gIv (v := gI σ9 1300 0 0) C li_X12_255 (sg_12 T) rfl dX12_send_35 ?_
    refine z_iconst C dX12_send_38 ?_
    refine z_iconst C dX12_send_39 ?_
    refine z_cV (st := []) T C (ct_X12_arrives (gI σ9 1311 0 x1.toNat) (gI σ9 1300 0 0) 0 1 (hI11 1311 0 _) (hI11 1300 0 _) (by decide) (by decide)) lm_X12_275 lv_vX12_arrives dX12_send_40 [vi (gI σ9 1311 0 x1.toNat), vi (gI σ9 1300 0 0), vi 0, vi 1] rfl rfl rfl rfl rfl (sg_12 T) trivial (by decide) (Nat.le_of_ble_eq_true rfl) csOK_0 h (fun r14 σ16 hr15 eN17 h => ?_)
    have eN18 := eN17.trans eN10
    show Z κ (0, 0) _ 43 _ [vi r14] ad σ16
    refine z_rng (fun hI19 hJ20 => ?_)
    refine z_istore_n (lv2 := [(3, vi r14), (2, vi r7), (0, vo ad 12 (some 0)), (1, vi x1)]) C dX12_send_43 (by decide) rfl ?_
    refine z_aload_n C 2 dX12_send_44 rfl ?_
    refine z_iload_n C 3 dX12_send_45 rfl ?_
    refine z_aload_n C 2 dX12_send_46 rfl ?_
    refine z_gIv (v := gI σ16 1300 0 0) C li_X12_255 (sg_12 T) rfl dX12_send_47 ?_
    refine z_cVp (st := []) T C (ct_X12_whereOf x1 (gI σ16 1300 0 0) hx1 (hI19 1300 0 _)) lm_X12_297 lv_vX12_whereOf dX12_send_50 [vi x1, vi (gI σ16 1300 0 0)] rfl rfl rfl rfl rfl (sg_12 T) trivial (by decide) (Nat.le_of_ble_eq_true rfl) csOK_0 h (fun r21 hr22 h => ?_)
    show Z κ (0, 0) _ 53 _ [vi r21] ad σ16
    refine z_iconst C dX12_send_53 ?_
    refine z_icmp_ne C 71 hr22 (by decide) dX12_send_54 (by decide) (fun q23 => ?_) (fun q23 => ?_)
    · have h := (wpO_ite.mp h).2 q23
      refine z_bipush C dX12_send_71 (by decide) ?_
      have h := wpO_some.mp h
      exact z_ireturn T C dX12_send_73 (by decide) eN18 h
    · have h := (wpO_ite.mp h).1 q23
      refine z_iload_n C 1 dX12_send_57 rfl ?_
      refine z_ldc_w C lc_X12_270 dX12_send_58 ?_
      refine z_icmp_eq C 71 hr8 (by decide) dX12_send_61 (by decide) (fun q24 => ?_) (fun q24 => ?_)
      · have h := (wpO_ite.mp h).1 q24
        refine z_bipush C dX12_send_71 (by decide) ?_
        have h := wpO_some.mp h
        exact z_ireturn T C dX12_send_73 (by decide) eN18 h
      · have h := (wpO_ite.mp h).2 q24
        refine z_iload_n C 0 dX12_send_64 rfl ?_
        refine z_ldc_w C lc_X12_270 dX12_send_65 ?_
        refine z_icmp_ne C 74 hr15 (by decide) dX12_send_68 (by decide) (fun q25 => ?_) (fun q25 => ?_)
        · have h := (wpO_ite.mp h).2 q25
          refine z_aload_n C 2 dX12_send_74 rfl ?_
          refine z_gA T C li_X12_56 (sg_12 T) dX12_send_75 ?_
          refine z_iload_n C 3 dX12_send_78 rfl ?_
          refine z_aload_n C 2 dX12_send_79 rfl ?_
          refine z_gIv (v := gI σ16 1300 0 0) C li_X12_255 (sg_12 T) rfl dX12_send_80 ?_
          obtain ⟨hb26, h⟩ := wpO_ck.mp h
          refine z_iastore C ar_1318 (sg_1318 T) hx1 hb26 (hI19 1300 0 _) dX12_send_83 ?_
          refine z_aload_n C 2 dX12_send_84 rfl ?_
          refine z_gA T C li_X12_65 (sg_12 T) dX12_send_85 ?_
          refine z_iload_n C 3 dX12_send_88 rfl ?_
          refine z_iload_n C 1 dX12_send_89 rfl ?_
          obtain ⟨hb27, h⟩ := wpO_ck.mp h
          refine z_iastore C ar_1321 (sg_1321 T) hx1 hb27 hr8 dX12_send_90 ?_
          refine z_aload_n C 2 dX12_send_91 rfl ?_
          refine z_gA T C li_X12_68 (sg_12 T) dX12_send_92 ?_
          refine z_iload_n C 3 dX12_send_95 rfl ?_
          refine z_iload_n C 0 dX12_send_96 rfl ?_
          obtain ⟨hb28, h⟩ := wpO_ck.mp h
          refine z_iastore C ar_1322 (sg_1322 T) hx1 hb28 hr15 dX12_send_97 ?_
          refine z_iload_n C 1 dX12_send_98 rfl ?_
          have h := wpO_some.mp h
          exact z_ireturn T C dX12_send_99 hr8 eN18 h
        · have h := (wpO_ite.mp h).1 q25
          refine z_bipush C dX12_send_71 (by decide) ?_
          have h := wpO_some.mp h
          exact z_ireturn T C dX12_send_73 (by decide) eN18 h
  · have h := (wpO_ite.mp h).1 q5
    refine z_iconst C dX12_send_8 ?_
    have h := wpO_some.mp h
    exact z_ireturn T C dX12_send_9 (by decide) rfl h
noncomputable def fX12_shot_j198 (s1 : Int) (s2 : Int) (σ1 : St) : Option (Int × St) :=
  ck (0 ≤ s1 ∧ s1 < 40) (ck (0 ≤ gI σ1 1310 0 0 ∧ gI σ1 1310 0 0 < 40) (ck (0 ≤ gI σ1 1310 0 0 ∧ gI σ1 1310 0 0 < 40) (ck (0 ≤ gI σ1 1310 0 0 ∧ gI σ1 1310 0 0 < 40) (ck (inr ((gI σ1 1310 0 0) + 1)) (ck (inr (((gI σ1 1310 0 0) + 1) - 1)) (some (((gI σ1 1310 0 0) + 1) - 1, sI (sI (sI (sI (sI σ1 1319 0 s1.toNat s2) 1320 0 ((gI σ1 1310 0 0).toNat) ((-9))) 1321 0 ((gI σ1 1310 0 0).toNat) ((-9))) 1322 0 ((gI σ1 1310 0 0).toNat) ((-9))) 1310 0 0 ((gI σ1 1310 0 0) + 1))))))))
noncomputable def fX12_shot (x1 : Int) (x2 : Int) (x3 : Int) (x4 : Int) (x5 : Int) (x6 : Int) (σ : St) : Option (Int × St) :=
  bnk (fX12_isPlace x1) (fun r11 => if r11 = 0 then (some ((-1), σ)) else (bnk (fX12_in x2 0 (gI σ 1300 0 0)) (fun r14 => if r14 = 0 then (some ((-2), σ)) else (bnk (fX12_in x3 1 900) (fun r17 => if r17 = 0 then (some ((-2), σ)) else (bnk (fX12_in x4 0 15) (fun r20 => if r20 = 0 then (some ((-2), σ)) else (bnk (fX12_in x5 0 255) (fun r23 => if r23 = 0 then (some ((-2), σ)) else (bnk (fX12_in x6 0 2) (fun r26 => if r26 = 0 then (some ((-2), σ)) else (if gI σ 1310 0 0 = 40 then (some ((-4), σ)) else (ck (0 ≤ gI σ 1310 0 0 ∧ gI σ 1310 0 0 < 40) (ck (0 ≤ gI σ 1310 0 0 ∧ gI σ 1310 0 0 < 40) (ck (0 ≤ gI σ 1310 0 0 ∧ gI σ 1310 0 0 < 40) (ck (0 ≤ gI σ 1310 0 0 ∧ gI σ 1310 0 0 < 40) (ck (0 ≤ gI σ 1310 0 0 ∧ gI σ 1310 0 0 < 40) (ck (0 ≤ gI σ 1310 0 0 ∧ gI σ 1310 0 0 < 40) (ck (0 ≤ gI σ 1310 0 0 ∧ gI σ 1310 0 0 < 40) (ck (0 ≤ gI σ 1310 0 0 ∧ gI σ 1310 0 0 < 40) (if x6 = 0 then (fX12_shot_j198 (gI σ 1310 0 0) ((-9)) (sI (sI (sI (sI (sI (sI (sI (sI σ 1311 0 ((gI σ 1310 0 0).toNat) x1) 1312 0 ((gI σ 1310 0 0).toNat) x2) 1313 0 ((gI σ 1310 0 0).toNat) x3) 1314 0 ((gI σ 1310 0 0).toNat) x4) 1315 0 ((gI σ 1310 0 0).toNat) x5) 1316 0 ((gI σ 1310 0 0).toNat) x6) 1317 0 ((gI σ 1310 0 0).toNat) (gI σ 1300 0 0)) 1318 0 ((gI σ 1310 0 0).toNat) ((-9)))) else (fX12_shot_j198 (gI σ 1310 0 0) (gI σ 1300 0 0) (sI (sI (sI (sI (sI (sI (sI (sI σ 1311 0 ((gI σ 1310 0 0).toNat) x1) 1312 0 ((gI σ 1310 0 0).toNat) x2) 1313 0 ((gI σ 1310 0 0).toNat) x3) 1314 0 ((gI σ 1310 0 0).toNat) x4) 1315 0 ((gI σ 1310 0 0).toNat) x5) 1316 0 ((gI σ 1310 0 0).toNat) x6) 1317 0 ((gI σ 1310 0 0).toNat) (gI σ 1300 0 0)) 1318 0 ((gI σ 1310 0 0).toNat) ((-9)))))))))))))))))))))))))
set_option maxRecDepth 20000 in
set_option maxHeartbeats 4000000 in
theorem ct_X12_shot (x1 : Int) (x2 : Int) (x3 : Int) (x4 : Int) (x5 : Int) (x6 : Int) (hx1 : inr x1) (hx2 : inr x2) (hx3 : inr x3) (hx4 : inr x4) (hx5 : inr x5) (hx6 : inr x6) : Ct yX12_shot cX12_shot 7 (some .int) 2 (fun ad => [vo ad 12 (some 0), vi x1, vi x2, vi x3, vi x4, vi x5, vi x6]) (fX12_shot x1 x2 x3 x4 x5 x6) enI okI (fun _ => True) := by
  refine Ct.of (by decide) (fun ad => Nat.le_of_ble_eq_true rfl) ?_
  intro κ ad σ X C T hpre h
  have C : Cx κ RX12 cX12_shot 7 (some .int) 2 := C
  unfold fX12_shot at h
  have J198 : ∀ (s1 : Int) (s2 : Int) (σ1 : St), inr s1 → inr s2 → σ1.2.2.2 = σ.2.2.2 → wpO (fX12_shot_j198 s1 s2 σ1) (fun q => X q.1 q.2) → Z κ (0, 0) (Qm κ ad σ enI okI X) 198 [(0, vo ad 12 (some 0))] [vi s2, vi s1, vo ad 1319 (some 0)] ad σ1 := by
    intro s1 s2 σ1 hs1 hs2 eN1 h
    unfold fX12_shot_j198 at h
    refine z_rng (fun hI1 hJ2 => ?_)
    obtain ⟨hb3, h⟩ := wpO_ck.mp h
    refine z_iastore C ar_1319 (sg_1319 T) hs1 hb3 hs2 dX12_shot_198 ?_
    refine z_aload_n C 0 dX12_shot_199 rfl ?_
    refine z_gA T C li_X12_62 (sg_12 T) dX12_shot_200 ?_
    refine z_aload_n C 0 dX12_shot_203 rfl ?_
    refine z_gIv (v := gI σ1 1310 0 0) C li_X12_279 (sg_12 T) (gn (by decide) rfl) dX12_shot_204 ?_
    refine z_bipush C dX12_shot_207 (by decide) ?_
    obtain ⟨hb4, h⟩ := wpO_ck.mp h
    refine z_iastore C ar_1320 (sg_1320 T) (hI1 1310 0 _) hb4 (by decide) dX12_shot_209 ?_
    refine z_aload_n C 0 dX12_shot_210 rfl ?_
    refine z_gA T C li_X12_65 (sg_12 T) dX12_shot_211 ?_
    refine z_aload_n C 0 dX12_shot_214 rfl ?_
    refine z_gIv (v := gI σ1 1310 0 0) C li_X12_279 (sg_12 T) (gn (by decide) (gn (by decide) rfl)) dX12_shot_215 ?_
    refine z_bipush C dX12_shot_218 (by decide) ?_
    obtain ⟨hb5, h⟩ := wpO_ck.mp h
    refine z_iastore C ar_1321 (sg_1321 T) (hI1 1310 0 _) hb5 (by decide) dX12_shot_220 ?_
    refine z_aload_n C 0 dX12_shot_221 rfl ?_
    refine z_gA T C li_X12_68 (sg_12 T) dX12_shot_222 ?_
    refine z_aload_n C 0 dX12_shot_225 rfl ?_
    refine z_gIv (v := gI σ1 1310 0 0) C li_X12_279 (sg_12 T) (gn (by decide) (gn (by decide) (gn (by decide) rfl))) dX12_shot_226 ?_
    refine z_bipush C dX12_shot_229 (by decide) ?_
    obtain ⟨hb6, h⟩ := wpO_ck.mp h
    refine z_iastore C ar_1322 (sg_1322 T) (hI1 1310 0 _) hb6 (by decide) dX12_shot_231 ?_
    refine z_aload_n C 0 dX12_shot_232 rfl ?_
    refine z_dup C dX12_shot_233 rfl ?_
    refine z_gIv (v := gI σ1 1310 0 0) C li_X12_279 (sg_12 T) (gn (by decide) (gn (by decide) (gn (by decide) (gn (by decide) rfl)))) dX12_shot_234 ?_
    refine z_iconst C dX12_shot_237 ?_
    obtain ⟨hk7, h⟩ := wpO_ck.mp h
    refine z_iadd C dX12_shot_238 ?_
    refine z_pI C lq_X12_279 (sg_12 T) hk7 dX12_shot_239 ?_
    refine z_aload_n C 0 dX12_shot_242 rfl ?_
    refine z_gIv (v := (gI σ1 1310 0 0) + 1) C li_X12_279 (sg_12 T) gs dX12_shot_243 ?_
    refine z_iconst C dX12_shot_246 ?_
    obtain ⟨hk8, h⟩ := wpO_ck.mp h
    refine z_isub C dX12_shot_247 ?_
    have h := wpO_some.mp h
    exact z_ireturn T C dX12_shot_248 hk8 eN1 h
  show Z κ (0, 0) (Qm κ ad σ enI okI X) 0 [(0, vo ad 12 (some 0)), (1, vi x1), (2, vi x2), (3, vi x3), (4, vi x4), (5, vi x5), (6, vi x6)] [] ad σ
  refine z_rng (fun hI9 hJ10 => ?_)
  refine z_iload_n C 1 dX12_shot_0 rfl ?_
  refine z_cSp (st := []) T C (ct_X12_isPlace x1 hx1) lm_X12_258 ls_X12_isPlace dX12_shot_1 rfl rfl trivial (by decide) (Nat.le_of_ble_eq_true rfl) csOK_0 h (fun r11 hr12 h => ?_)
  show Z κ (0, 0) _ 4 _ [vi r11] ad σ
  refine z_if_ne C 9 (inr_b hr12) dX12_shot_4 (by decide) (fun q13 => ?_) (fun q13 => ?_)
  · have h := (wpO_ite.mp h).2 q13
    refine z_iload_n C 2 dX12_shot_9 rfl ?_
    refine z_i2l C hx2 dX12_shot_10 ?_
    refine z_lconst (z := 0) C dX12_shot_11 (by decide) ?_
    refine z_aload_n C 0 dX12_shot_12 rfl ?_
    refine z_gIv (v := gI σ 1300 0 0) C li_X12_255 (sg_12 T) rfl dX12_shot_13 ?_
    refine z_i2l C (hI9 1300 0 _) dX12_shot_16 ?_
    refine z_cSp (st := []) T C (ct_X12_in x2 0 (gI σ 1300 0 0) (inq_i hx2) (by decide) (inq_i (hI9 1300 0 _))) lm_X12_245 ls_X12_in dX12_shot_17 rfl rfl trivial (by decide) (Nat.le_of_ble_eq_true rfl) csOK_0 h (fun r14 hr15 h => ?_)
    show Z κ (0, 0) _ 20 _ [vi r14] ad σ
    refine z_if_eq C 74 (inr_b hr15) dX12_shot_20 (by decide) (fun q16 => ?_) (fun q16 => ?_)
    · have h := (wpO_ite.mp h).1 q16
      refine z_bipush C dX12_shot_74 (by decide) ?_
      have h := wpO_some.mp h
      exact z_ireturn T C dX12_shot_76 (by decide) rfl h
    · have h := (wpO_ite.mp h).2 q16
      refine z_iload_n C 3 dX12_shot_23 rfl ?_
      refine z_i2l C hx3 dX12_shot_24 ?_
      refine z_lconst (z := 1) C dX12_shot_25 (by decide) ?_
      refine z_ldc2_w C lc_X12_282 dX12_shot_26 ?_
      refine z_cSp (st := []) T C (ct_X12_in x3 1 900 (inq_i hx3) (by decide) (by decide)) lm_X12_245 ls_X12_in dX12_shot_29 rfl rfl trivial (by decide) (Nat.le_of_ble_eq_true rfl) csOK_0 h (fun r17 hr18 h => ?_)
      show Z κ (0, 0) _ 32 _ [vi r17] ad σ
      refine z_if_eq C 74 (inr_b hr18) dX12_shot_32 (by decide) (fun q19 => ?_) (fun q19 => ?_)
      · have h := (wpO_ite.mp h).1 q19
        refine z_bipush C dX12_shot_74 (by decide) ?_
        have h := wpO_some.mp h
        exact z_ireturn T C dX12_shot_76 (by decide) rfl h
      · have h := (wpO_ite.mp h).2 q19
        refine z_iload C 4 dX12_shot_35 rfl ?_
        refine z_i2l C hx4 dX12_shot_37 ?_
        refine z_lconst (z := 0) C dX12_shot_38 (by decide) ?_
        refine z_ldc2_w C lc_X12_284 dX12_shot_39 ?_
        refine z_cSp (st := []) T C (ct_X12_in x4 0 15 (inq_i hx4) (by decide) (by decide)) lm_X12_245 ls_X12_in dX12_shot_42 rfl rfl trivial (by decide) (Nat.le_of_ble_eq_true rfl) csOK_0 h (fun r20 hr21 h => ?_)
        show Z κ (0, 0) _ 45 _ [vi r20] ad σ
        refine z_if_eq C 74 (inr_b hr21) dX12_shot_45 (by decide) (fun q22 => ?_) (fun q22 => ?_)
        · have h := (wpO_ite.mp h).1 q22
          refine z_bipush C dX12_shot_74 (by decide) ?_
          have h := wpO_some.mp h
          exact z_ireturn T C dX12_shot_76 (by decide) rfl h
        · have h := (wpO_ite.mp h).2 q22
          refine z_iload C 5 dX12_shot_48 rfl ?_
          refine z_i2l C hx5 dX12_shot_50 ?_
          refine z_lconst (z := 0) C dX12_shot_51 (by decide) ?_
          refine z_ldc2_w C lc_X12_286 dX12_shot_52 ?_
          refine z_cSp (st := []) T C (ct_X12_in x5 0 255 (inq_i hx5) (by decide) (by decide)) lm_X12_245 ls_X12_in dX12_shot_55 rfl rfl trivial (by decide) (Nat.le_of_ble_eq_true rfl) csOK_0 h (fun r23 hr24 h => ?_)
          show Z κ (0, 0) _ 58 _ [vi r23] ad σ
          refine z_if_eq C 74 (inr_b hr24) dX12_shot_58 (by decide) (fun q25 => ?_) (fun q25 => ?_)
          · have h := (wpO_ite.mp h).1 q25
            refine z_bipush C dX12_shot_74 (by decide) ?_
            have h := wpO_some.mp h
            exact z_ireturn T C dX12_shot_76 (by decide) rfl h
          · have h := (wpO_ite.mp h).2 q25
            refine z_iload C 6 dX12_shot_61 rfl ?_
            refine z_i2l C hx6 dX12_shot_63 ?_
            refine z_lconst (z := 0) C dX12_shot_64 (by decide) ?_
            refine z_ldc2_w C lc_X12_288 dX12_shot_65 ?_
            refine z_cSp (st := []) T C (ct_X12_in x6 0 2 (inq_i hx6) (by decide) (by decide)) lm_X12_245 ls_X12_in dX12_shot_68 rfl rfl trivial (by decide) (Nat.le_of_ble_eq_true rfl) csOK_0 h (fun r26 hr27 h => ?_)
            show Z κ (0, 0) _ 71 _ [vi r26] ad σ
            refine z_if_ne C 77 (inr_b hr27) dX12_shot_71 (by decide) (fun q28 => ?_) (fun q28 => ?_)
            · have h := (wpO_ite.mp h).2 q28
              refine z_aload_n C 0 dX12_shot_77 rfl ?_
              refine z_gIv (v := gI σ 1310 0 0) C li_X12_279 (sg_12 T) rfl dX12_shot_78 ?_
              refine z_bipush C dX12_shot_81 (by decide) ?_
              refine z_icmp_ne C 89 (hI9 1310 0 _) (by decide) dX12_shot_83 (by decide) (fun q29 => ?_) (fun q29 => ?_)
              · have h := (wpO_ite.mp h).2 q29
                refine z_aload_n C 0 dX12_shot_89 rfl ?_
                refine z_gA T C li_X12_35 (sg_12 T) dX12_shot_90 ?_
                refine z_aload_n C 0 dX12_shot_93 rfl ?_
                refine z_gIv (v := gI σ 1310 0 0) C li_X12_279 (sg_12 T) rfl dX12_shot_94 ?_
                refine z_iload_n C 1 dX12_shot_97 rfl ?_
                obtain ⟨hb30, h⟩ := wpO_ck.mp h
                refine z_iastore C ar_1311 (sg_1311 T) (hI9 1310 0 _) hb30 hx1 dX12_shot_98 ?_
                refine z_aload_n C 0 dX12_shot_99 rfl ?_
                refine z_gA T C li_X12_38 (sg_12 T) dX12_shot_100 ?_
                refine z_aload_n C 0 dX12_shot_103 rfl ?_
                refine z_gIv (v := gI σ 1310 0 0) C li_X12_279 (sg_12 T) (gn (by decide) rfl) dX12_shot_104 ?_
                refine z_iload_n C 2 dX12_shot_107 rfl ?_
                obtain ⟨hb31, h⟩ := wpO_ck.mp h
                refine z_iastore C ar_1312 (sg_1312 T) (hI9 1310 0 _) hb31 hx2 dX12_shot_108 ?_
                refine z_aload_n C 0 dX12_shot_109 rfl ?_
                refine z_gA T C li_X12_41 (sg_12 T) dX12_shot_110 ?_
                refine z_aload_n C 0 dX12_shot_113 rfl ?_
                refine z_gIv (v := gI σ 1310 0 0) C li_X12_279 (sg_12 T) (gn (by decide) (gn (by decide) rfl)) dX12_shot_114 ?_
                refine z_iload_n C 3 dX12_shot_117 rfl ?_
                obtain ⟨hb32, h⟩ := wpO_ck.mp h
                refine z_iastore C ar_1313 (sg_1313 T) (hI9 1310 0 _) hb32 hx3 dX12_shot_118 ?_
                refine z_aload_n C 0 dX12_shot_119 rfl ?_
                refine z_gA T C li_X12_44 (sg_12 T) dX12_shot_120 ?_
                refine z_aload_n C 0 dX12_shot_123 rfl ?_
                refine z_gIv (v := gI σ 1310 0 0) C li_X12_279 (sg_12 T) (gn (by decide) (gn (by decide) (gn (by decide) rfl))) dX12_shot_124 ?_
                refine z_iload C 4 dX12_shot_127 rfl ?_
                obtain ⟨hb33, h⟩ := wpO_ck.mp h
                refine z_iastore C ar_1314 (sg_1314 T) (hI9 1310 0 _) hb33 hx4 dX12_shot_129 ?_
                refine z_aload_n C 0 dX12_shot_130 rfl ?_
                refine z_gA T C li_X12_47 (sg_12 T) dX12_shot_131 ?_
                refine z_aload_n C 0 dX12_shot_134 rfl ?_
                refine z_gIv (v := gI σ 1310 0 0) C li_X12_279 (sg_12 T) (gn (by decide) (gn (by decide) (gn (by decide) (gn (by decide) rfl)))) dX12_shot_135 ?_
                refine z_iload C 5 dX12_shot_138 rfl ?_
                obtain ⟨hb34, h⟩ := wpO_ck.mp h
                refine z_iastore C ar_1315 (sg_1315 T) (hI9 1310 0 _) hb34 hx5 dX12_shot_140 ?_
                refine z_aload_n C 0 dX12_shot_141 rfl ?_
                refine z_gA T C li_X12_50 (sg_12 T) dX12_shot_142 ?_
                refine z_aload_n C 0 dX12_shot_145 rfl ?_
                refine z_gIv (v := gI σ 1310 0 0) C li_X12_279 (sg_12 T) (gn (by decide) (gn (by decide) (gn (by decide) (gn (by decide) (gn (by decide) rfl))))) dX12_shot_146 ?_
                refine z_iload C 6 dX12_shot_149 rfl ?_
                obtain ⟨hb35, h⟩ := wpO_ck.mp h
                refine z_iastore C ar_1316 (sg_1316 T) (hI9 1310 0 _) hb35 hx6 dX12_shot_151 ?_
                refine z_aload_n C 0 dX12_shot_152 rfl ?_
                refine z_gA T C li_X12_53 (sg_12 T) dX12_shot_153 ?_
                refine z_aload_n C 0 dX12_shot_156 rfl ?_
                refine z_gIv (v := gI σ 1310 0 0) C li_X12_279 (sg_12 T) (gn (by decide) (gn (by decide) (gn (by decide) (gn (by decide) (gn (by decide) (gn (by decide) rfl)))))) dX12_shot_157 ?_
                refine z_aload_n C 0 dX12_shot_160 rfl ?_
                refine z_gIv (v := gI σ 1300 0 0) C li_X12_255 (sg_12 T) (gn (by decide) (gn (by decide) (gn (by decide) (gn (by decide) (gn (by decide) (gn (by decide) rfl)))))) dX12_shot_161 ?_
                obtain ⟨hb36, h⟩ := wpO_ck.mp h
                refine z_iastore C ar_1317 (sg_1317 T) (hI9 1310 0 _) hb36 (hI9 1300 0 _) dX12_shot_164 ?_
                refine z_aload_n C 0 dX12_shot_165 rfl ?_
                refine z_gA T C li_X12_56 (sg_12 T) dX12_shot_166 ?_
                refine z_aload_n C 0 dX12_shot_169 rfl ?_
                refine z_gIv (v := gI σ 1310 0 0) C li_X12_279 (sg_12 T) (gn (by decide) (gn (by decide) (gn (by decide) (gn (by decide) (gn (by decide) (gn (by decide) (gn (by decide) rfl))))))) dX12_shot_170 ?_
                refine z_bipush C dX12_shot_173 (by decide) ?_
                obtain ⟨hb37, h⟩ := wpO_ck.mp h
                refine z_iastore C ar_1318 (sg_1318 T) (hI9 1310 0 _) hb37 (by decide) dX12_shot_175 ?_
                refine z_aload_n C 0 dX12_shot_176 rfl ?_
                refine z_gA T C li_X12_59 (sg_12 T) dX12_shot_177 ?_
                refine z_aload_n C 0 dX12_shot_180 rfl ?_
                refine z_gIv (v := gI σ 1310 0 0) C li_X12_279 (sg_12 T) (gn (by decide) (gn (by decide) (gn (by decide) (gn (by decide) (gn (by decide) (gn (by decide) (gn (by decide) (gn (by decide) rfl)))))))) dX12_shot_181 ?_
                refine z_iload C 6 dX12_shot_184 rfl ?_
                refine z_if_ne C 194 hx6 dX12_shot_186 (by decide) (fun q38 => ?_) (fun q38 => ?_)
                · have h := (wpO_ite.mp h).2 q38
                  refine z_aload_n C 0 dX12_shot_194 rfl ?_
                  refine z_gIv (v := gI σ 1300 0 0) C li_X12_255 (sg_12 T) (gn (by decide) (gn (by decide) (gn (by decide) (gn (by decide) (gn (by decide) (gn (by decide) (gn (by decide) (gn (by decide) rfl)))))))) dX12_shot_195 ?_
                  refine z_sub [0] rfl ?_
                  exact J198 (gI σ 1310 0 0) (gI σ 1300 0 0) (sI (sI (sI (sI (sI (sI (sI (sI σ 1311 0 ((gI σ 1310 0 0).toNat) x1) 1312 0 ((gI σ 1310 0 0).toNat) x2) 1313 0 ((gI σ 1310 0 0).toNat) x3) 1314 0 ((gI σ 1310 0 0).toNat) x4) 1315 0 ((gI σ 1310 0 0).toNat) x5) 1316 0 ((gI σ 1310 0 0).toNat) x6) 1317 0 ((gI σ 1310 0 0).toNat) (gI σ 1300 0 0)) 1318 0 ((gI σ 1310 0 0).toNat) ((-9))) (hI9 1310 0 _) (hI9 1300 0 _) rfl h
                · have h := (wpO_ite.mp h).1 q38
                  refine z_bipush C dX12_shot_189 (by decide) ?_
                  refine z_goto C 198 dX12_shot_191 (by decide) ?_
                  refine z_sub [0] rfl ?_
                  exact J198 (gI σ 1310 0 0) ((-9)) (sI (sI (sI (sI (sI (sI (sI (sI σ 1311 0 ((gI σ 1310 0 0).toNat) x1) 1312 0 ((gI σ 1310 0 0).toNat) x2) 1313 0 ((gI σ 1310 0 0).toNat) x3) 1314 0 ((gI σ 1310 0 0).toNat) x4) 1315 0 ((gI σ 1310 0 0).toNat) x5) 1316 0 ((gI σ 1310 0 0).toNat) x6) 1317 0 ((gI σ 1310 0 0).toNat) (gI σ 1300 0 0)) 1318 0 ((gI σ 1310 0 0).toNat) ((-9))) (hI9 1310 0 _) (by decide) rfl h
              · have h := (wpO_ite.mp h).1 q29
                refine z_bipush C dX12_shot_86 (by decide) ?_
                have h := wpO_some.mp h
                exact z_ireturn T C dX12_shot_88 (by decide) rfl h
            · have h := (wpO_ite.mp h).1 q28
              refine z_bipush C dX12_shot_74 (by decide) ?_
              have h := wpO_some.mp h
              exact z_ireturn T C dX12_shot_76 (by decide) rfl h
  · have h := (wpO_ite.mp h).1 q13
    refine z_iconst C dX12_shot_7 ?_
    have h := wpO_some.mp h
    exact z_ireturn T C dX12_shot_8 (by decide) rfl h
noncomputable def fX12_show_j112 (x4 : Int) (σ1 : St) : Option (Int × St) :=
  some (x4, σ1)
noncomputable def fX12_show_j106 (x1 : Int) (x2 : Int) (x4 : Int) (x5 : Int) (σ1 : St) : Option ((Int × Int × St) ⊕ (Int × St)) :=
  ck (inr (x5 + 1)) (some (.inl ((x4, x5 + 1, σ1))))
noncomputable def fX12_show_j83 (x1 : Int) (x2 : Int) (x4 : Int) (x5 : Int) (s0 : Int) (σ1 : St) : Option ((Int × Int × St) ⊕ (Int × St)) :=
  if s0 = (-9) then (fX12_show_j106 x1 x2 x4 x5 σ1) else (ck (0 ≤ s0 ∧ s0 < 8) (ck (inr ((gI σ1 1354 0 s0.toNat) - 1)) (ck (0 ≤ s0 ∧ s0 < 8) (ck (inr (x4 + 1)) (fX12_show_j106 x1 x2 (x4 + 1) x5 (sI σ1 1354 0 s0.toNat ((gI σ1 1354 0 s0.toNat) - 1)))))))
noncomputable def fX12_show_l37 (x1 : Int) (x2 : Int) (x4 : Int) (x5 : Int) (σ1 : St) : Option ((Int × Int × St) ⊕ (Int × St)) :=
  if gI σ1 1365 0 0 ≤ x5 then (some (.inr ((x4, σ1)))) else (ck (0 ≤ x5 ∧ x5 < 8) (ck (0 ≤ gI σ1 1364 0 x5.toNat ∧ gI σ1 1364 0 x5.toNat < 8) (ck (0 ≤ gI σ1 1327 0 ((gI σ1 1364 0 x5.toNat).toNat) ∧ gI σ1 1327 0 ((gI σ1 1364 0 x5.toNat).toNat) < 16) (if gI σ1 1348 0 ((gI σ1 1327 0 ((gI σ1 1364 0 x5.toNat).toNat)).toNat) = 0 then (fX12_show_j83 x1 x2 x4 x5 ((-9)) σ1) else (bnk (fX12_rightTo (gI σ1 1327 0 ((gI σ1 1364 0 x5.toNat).toNat)) x1 x2 σ1) (fun r20 => fX12_show_j83 x1 x2 x4 x5 r20 σ1))))))
noncomputable def fX12_show_j37 (x1 : Int) (x2 : Int) (x4 : Int) (x5 : Int) (σ1 : St) : Option (Int × St) :=
  bnk (wh (fun s => fX12_show_l37 x1 x2 s.1 s.2.1 s.2.2) ((x4, x5, σ1))) (fun e => fX12_show_j112 e.1 e.2)
noncomputable def fX12_show (x1 : Int) (x2 : Int) (σ : St) : Option (Int × St) :=
  bnk (fX12_mayReel x1 x2 σ) (fun r24 => if 0 ≤ r24 then (bnd (fX12_layReel x1 x2 σ) (fun _ σ29 => if gI σ29 1366 0 0 = (-9) then (some ((-3), σ29)) else (fX12_show_j37 x1 x2 0 0 σ29))) else (some (r24, σ)))
set_option maxRecDepth 20000 in
set_option maxHeartbeats 4000000 in
theorem ct_X12_show (x1 : Int) (x2 : Int) (hx1 : inr x1) (hx2 : inr x2) : Ct yX12_show cX12_show 8 (some .int) 8 (fun ad => [vo ad 12 (some 0), vi x1, vi x2]) (fX12_show x1 x2) enI okI (fun _ => True) := by
  refine Ct.of (by decide) (fun ad => Nat.le_of_ble_eq_true rfl) ?_
  intro κ ad σ X C T hpre h
  have C : Cx κ RX12 cX12_show 8 (some .int) 8 := C
  unfold fX12_show at h
  have J112 : ∀ (x4 : Int) (σ1 : St), inr x4 → σ1.2.2.2 = σ.2.2.2 → wpO (fX12_show_j112 x4 σ1) (fun q => X q.1 q.2) → Z κ (0, 0) (Qm κ ad σ enI okI X) 112 [(4, vi x4)] [] ad σ1 := by
    intro x4 σ1 hx4 eN1 h
    unfold fX12_show_j112 at h
    refine z_rng (fun hI1 hJ2 => ?_)
    refine z_iload C 0 dX12_show_112 rfl ?_
    have h := wpO_some.mp h
    exact z_ireturn T C dX12_show_114 hx4 eN1 h
  have J37 : ∀ (x1 : Int) (x2 : Int) (x4 : Int) (x5 : Int) (σ1 : St), inr x1 → inr x2 → inr x4 → inr x5 → σ1.2.2.2 = σ.2.2.2 → wpO (fX12_show_j37 x1 x2 x4 x5 σ1) (fun q => X q.1 q.2) → Z κ (0, 0) (Qm κ ad σ enI okI X) 37 [(0, vo ad 12 (some 0)), (1, vi x1), (2, vi x2), (4, vi x4), (5, vi x5)] [] ad σ1 := by
    intro x1 x2 x4 x5 σ1 hx1 hx2 hx4 hx5 eN1 h
    unfold fX12_show_j37 at h
    have step : ∀ (P37 : (Int × Int × St) → Prop) (Q37 : (Int × St) → Prop), (∀ (x4 : Int) (x5 : Int) (σ1 : St), P37 ((x4, x5, σ1)) → inr x4 → inr x5 → σ1.2.2.2 = σ.2.2.2 → Z κ (0, 0) (Qm κ ad σ enI okI X) 37 [(0, vo ad 12 (some 0)), (1, vi x1), (2, vi x2), (4, vi x4), (5, vi x5)] [] ad σ1) → (∀ (x4 : Int) (σ1 : St), Q37 ((x4, σ1)) → inr x4 → σ1.2.2.2 = σ.2.2.2 → Z κ (0, 0) (Qm κ ad σ enI okI X) 112 [(4, vi x4)] [] ad σ1) → ∀ (x4 : Int) (x5 : Int) (σ1 : St), inr x4 → inr x5 → σ1.2.2.2 = σ.2.2.2 → wpO (fX12_show_l37 x1 x2 x4 x5 σ1) (onS P37 Q37) → Z κ (0, 0) (Qm κ ad σ enI okI X) 37 [(0, vo ad 12 (some 0)), (1, vi x1), (2, vi x2), (4, vi x4), (5, vi x5)] [] ad σ1 := by
      intro P37 Q37 hP37 hE37_112 x4 x5 σ1 hx4 hx5 eN1 h
      unfold fX12_show_l37 at h
      have J106 : ∀ (x4 : Int) (x5 : Int) (σ1 : St), inr x4 → inr x5 → σ1.2.2.2 = σ.2.2.2 → wpO (fX12_show_j106 x1 x2 x4 x5 σ1) (onS P37 Q37) → Z κ (0, 0) (Qm κ ad σ enI okI X) 106 [(0, vo ad 12 (some 0)), (1, vi x1), (2, vi x2), (4, vi x4), (5, vi x5)] [] ad σ1 := by
        intro x4 x5 σ1 hx4 hx5 eN1 h
        unfold fX12_show_j106 at h
        refine z_rng (fun hI3 hJ4 => ?_)
        obtain ⟨hk5, h⟩ := wpO_ck.mp h
        refine z_iinc (lv2 := [(5, vi (x5 + 1)), (0, vo ad 12 (some 0)), (1, vi x1), (2, vi x2), (4, vi x4)]) C 4 dX12_show_106 rfl (by decide) rfl ?_
        refine z_goto C 37 dX12_show_109 (by decide) ?_
        refine z_sub [1, 2, 3, 4, 0] rfl ?_
        have h := wpO_some.mp h
        exact hP37 x4 (x5 + 1) σ1 h hx4 hk5 eN1
      have J83 : ∀ (x4 : Int) (x5 : Int) (s0 : Int) (σ1 : St), inr x4 → inr x5 → inr s0 → σ1.2.2.2 = σ.2.2.2 → wpO (fX12_show_j83 x1 x2 x4 x5 s0 σ1) (onS P37 Q37) → Z κ (0, 0) (Qm κ ad σ enI okI X) 83 [(0, vo ad 12 (some 0)), (1, vi x1), (2, vi x2), (4, vi x4), (5, vi x5)] [vi s0] ad σ1 := by
        intro x4 x5 s0 σ1 hx4 hx5 hs0 eN1 h
        unfold fX12_show_j83 at h
        refine z_rng (fun hI6 hJ7 => ?_)
        refine z_istore (lv2 := [(7, vi s0), (0, vo ad 12 (some 0)), (1, vi x1), (2, vi x2), (4, vi x4), (5, vi x5)]) C dX12_show_83 (by decide) rfl ?_
        refine z_iload C 0 dX12_show_85 rfl ?_
        refine z_bipush C dX12_show_87 (by decide) ?_
        refine z_icmp_eq C 106 hs0 (by decide) dX12_show_89 (by decide) (fun q8 => ?_) (fun q8 => ?_)
        · have h := (wpO_ite.mp h).1 q8
          refine z_sub [1, 2, 3, 4, 5] rfl ?_
          exact J106 x4 x5 σ1 hx4 hx5 eN1 h
        · have h := (wpO_ite.mp h).2 q8
          refine z_aload_n C 1 dX12_show_92 rfl ?_
          refine z_gA T C li_X12_147 (sg_12 T) dX12_show_93 ?_
          refine z_iload C 0 dX12_show_96 rfl ?_
          refine z_dup2 C dX12_show_98 rfl rfl ?_
          obtain ⟨hb9, h⟩ := wpO_ck.mp h
          refine z_iav (v := gI σ1 1354 0 s0.toNat) C ar_1354 (sg_1354 T) hs0 hb9 rfl dX12_show_99 ?_
          refine z_iconst C dX12_show_100 ?_
          obtain ⟨hk10, h⟩ := wpO_ck.mp h
          refine z_isub C dX12_show_101 ?_
          obtain ⟨hb11, h⟩ := wpO_ck.mp h
          refine z_iastore C ar_1354 (sg_1354 T) hs0 hb11 hk10 dX12_show_102 ?_
          obtain ⟨hk12, h⟩ := wpO_ck.mp h
          refine z_iinc (lv2 := [(4, vi (x4 + 1)), (7, vi s0), (0, vo ad 12 (some 0)), (1, vi x1), (2, vi x2), (5, vi x5)]) C 4 dX12_show_103 rfl (by decide) rfl ?_
          refine z_sub [2, 3, 4, 0, 5] rfl ?_
          exact J106 (x4 + 1) x5 (sI σ1 1354 0 s0.toNat ((gI σ1 1354 0 s0.toNat) - 1)) hk12 hx5 eN1 h
      refine z_rng (fun hI13 hJ14 => ?_)
      refine z_iload C 4 dX12_show_37 rfl ?_
      refine z_aload_n C 0 dX12_show_39 rfl ?_
      refine z_gIv (v := gI σ1 1365 0 0) C li_X12_417 (sg_12 T) rfl dX12_show_40 ?_
      refine z_icmp_ge C 112 hx5 (hI13 1365 0 _) dX12_show_43 (by decide) (fun q15 => ?_) (fun q15 => ?_)
      · have h := (wpO_ite.mp h).1 q15
        refine z_sub [3] rfl ?_
        have h := wpO_some.mp h
        exact hE37_112 x4 σ1 h hx4 eN1
      · have h := (wpO_ite.mp h).2 q15
        refine z_aload_n C 0 dX12_show_46 rfl ?_
        refine z_gA T C li_X12_80 (sg_12 T) dX12_show_47 ?_
        refine z_aload_n C 0 dX12_show_50 rfl ?_
        refine z_gA T C li_X12_174 (sg_12 T) dX12_show_51 ?_
        refine z_iload C 4 dX12_show_54 rfl ?_
        obtain ⟨hb16, h⟩ := wpO_ck.mp h
        refine z_iav (v := gI σ1 1364 0 x5.toNat) C ar_1364 (sg_1364 T) hx5 hb16 rfl dX12_show_56 ?_
        obtain ⟨hb17, h⟩ := wpO_ck.mp h
        refine z_iav (v := gI σ1 1327 0 ((gI σ1 1364 0 x5.toNat).toNat)) C ar_1327 (sg_1327 T) (hI13 1364 0 _) hb17 rfl dX12_show_57 ?_
        refine z_istore (lv2 := [(6, vi (gI σ1 1327 0 ((gI σ1 1364 0 x5.toNat).toNat))), (0, vo ad 12 (some 0)), (1, vi x1), (2, vi x2), (4, vi x4), (5, vi x5)]) C dX12_show_58 (by decide) rfl ?_
        refine z_aload_n C 1 dX12_show_60 rfl ?_
        refine z_gA T C li_X12_132 (sg_12 T) dX12_show_61 ?_
        refine z_iload C 0 dX12_show_64 rfl ?_
        obtain ⟨hb18, h⟩ := wpO_ck.mp h
        refine z_bav (v := gI σ1 1348 0 ((gI σ1 1327 0 ((gI σ1 1364 0 x5.toNat).toNat)).toNat)) C ar_1348 (sg_1348 T) (hI13 1327 0 _) hb18 rfl dX12_show_66 ?_
        refine z_if_eq C 81 (hI13 1348 0 _) dX12_show_67 (by decide) (fun q19 => ?_) (fun q19 => ?_)
        · have h := (wpO_ite.mp h).1 q19
          refine z_bipush C dX12_show_81 (by decide) ?_
          refine z_sub [1, 2, 3, 4, 5] rfl ?_
          exact J83 x4 x5 ((-9)) σ1 hx4 hx5 (by decide) eN1 h
        · have h := (wpO_ite.mp h).2 q19
          refine z_aload_n C 1 dX12_show_70 rfl ?_
          refine z_iload C 0 dX12_show_71 rfl ?_
          refine z_iload_n C 2 dX12_show_73 rfl ?_
          refine z_iload_n C 3 dX12_show_74 rfl ?_
          refine z_cVp (st := []) T C (ct_X12_rightTo (gI σ1 1327 0 ((gI σ1 1364 0 x5.toNat).toNat)) x1 x2 (hI13 1327 0 _) hx1 hx2) lm_X12_400 lv_vX12_rightTo dX12_show_75 [vi (gI σ1 1327 0 ((gI σ1 1364 0 x5.toNat).toNat)), vi x1, vi x2] rfl rfl rfl rfl rfl (sg_12 T) trivial (by decide) (Nat.le_of_ble_eq_true rfl) csOK_0 h (fun r20 hr21 h => ?_)
          show Z κ (0, 0) _ 78 _ [vi r20] ad σ1
          refine z_goto C 83 dX12_show_78 (by decide) ?_
          refine z_sub [1, 2, 3, 4, 5] rfl ?_
          exact J83 x4 x5 r20 σ1 hx4 hx5 hr21 eN1 h
    exact wh_ind (P := fun s : (Int × Int × St) => inr s.1 → inr s.2.1 → s.2.2.2.2.2 = σ.2.2.2 → Z κ (0, 0) (Qm κ ad σ enI okI X) 37 [(0, vo ad 12 (some 0)), (1, vi x1), (2, vi x2), (4, vi s.1), (5, vi s.2.1)] [] ad s.2.2) (fun s hs g0 g1 g2 => step _ _ (fun _ _ _ hp => hp) (fun x4 σ1 hq hx4 eN1 => J112 x4 σ1 hx4 eN1 hq) s.1 s.2.1 s.2.2 g0 g1 g2 hs) ((x4, x5, σ1)) (wpO_bnk.mp h) hx4 hx5 eN1
  show Z κ (0, 0) (Qm κ ad σ enI okI X) 0 [(0, vo ad 12 (some 0)), (1, vi x1), (2, vi x2)] [] ad σ
  refine z_rng (fun hI22 hJ23 => ?_)
  refine z_aload_n C 0 dX12_show_0 rfl ?_
  refine z_iload_n C 1 dX12_show_1 rfl ?_
  refine z_iload_n C 2 dX12_show_2 rfl ?_
  refine z_cVp (st := []) T C (ct_X12_mayReel x1 x2 hx1 hx2) lm_X12_428 lv_vX12_mayReel dX12_show_3 [vi x1, vi x2] rfl rfl rfl rfl rfl (sg_12 T) trivial (by decide) (Nat.le_of_ble_eq_true rfl) csOK_0 h (fun r24 hr25 h => ?_)
  show Z κ (0, 0) _ 6 _ [vi r24] ad σ
  refine z_istore_n (lv2 := [(3, vi r24), (0, vo ad 12 (some 0)), (1, vi x1), (2, vi x2)]) C dX12_show_6 (by decide) rfl ?_
  refine z_iload_n C 0 dX12_show_7 rfl ?_
  refine z_if_ge C 13 hr25 dX12_show_8 (by decide) (fun q26 => ?_) (fun q26 => ?_)
  · have h := (wpO_ite.mp h).1 q26
    refine z_aload_n C 1 dX12_show_13 rfl ?_
    refine z_iload_n C 2 dX12_show_14 rfl ?_
    refine z_iload_n C 3 dX12_show_15 rfl ?_
    refine z_cV (st := []) T C (ct_X12_layReel x1 x2 hx1 hx2) lm_X12_431 lv_vX12_layReel dX12_show_16 [vi x1, vi x2] rfl rfl rfl rfl rfl (sg_12 T) trivial (by decide) (Nat.le_of_ble_eq_true rfl) csOK_0 h (fun r27 σ29 hr28 eN30 h => ?_)
    show Z κ (0, 0) _ 19 _ [] ad σ29
    refine z_rng (fun hI31 hJ32 => ?_)
    refine z_aload_n C 1 dX12_show_19 rfl ?_
    refine z_gIv (v := gI σ29 1366 0 0) C li_X12_414 (sg_12 T) rfl dX12_show_20 ?_
    refine z_bipush C dX12_show_23 (by decide) ?_
    refine z_icmp_ne C 31 (hI31 1366 0 _) (by decide) dX12_show_25 (by decide) (fun q33 => ?_) (fun q33 => ?_)
    · have h := (wpO_ite.mp h).2 q33
      refine z_iconst C dX12_show_31 ?_
      refine z_istore (lv2 := [(4, vi 0), (3, vi r24), (0, vo ad 12 (some 0)), (1, vi x1), (2, vi x2)]) C dX12_show_32 (by decide) rfl ?_
      refine z_iconst C dX12_show_34 ?_
      refine z_istore (lv2 := [(5, vi 0), (4, vi 0), (3, vi r24), (0, vo ad 12 (some 0)), (1, vi x1), (2, vi x2)]) C dX12_show_35 (by decide) rfl ?_
      refine z_sub [3, 4, 5, 1, 0] rfl ?_
      exact J37 x1 x2 0 0 σ29 hx1 hx2 (by decide) (by decide) eN30 h
    · have h := (wpO_ite.mp h).1 q33
      refine z_bipush C dX12_show_28 (by decide) ?_
      have h := wpO_some.mp h
      exact z_ireturn T C dX12_show_30 (by decide) eN30 h
  · have h := (wpO_ite.mp h).2 q26
    refine z_iload_n C 0 dX12_show_11 rfl ?_
    have h := wpO_some.mp h
    exact z_ireturn T C dX12_show_12 hr25 rfl h
noncomputable def fX12_shut (x1 : Int) (σ : St) : Option (Int × St) :=
  ck (inr ((gI σ 1301 0 0) - 1)) (bnk (fX12_in x1 0 ((gI σ 1301 0 0) - 1)) (fun r4 => if r4 = 0 then (some ((-1), σ)) else (ck (0 ≤ x1 ∧ x1 < 24) (if gI σ 1308 0 x1.toNat = 0 then (ck (0 ≤ x1 ∧ x1 < 24) (some (1, sI σ 1308 0 x1.toNat 1))) else (some ((-3), σ))))))
set_option maxRecDepth 20000 in
set_option maxHeartbeats 4000000 in
theorem ct_X12_shut (x1 : Int) (hx1 : inr x1) : Ct yX12_shut cX12_shut 2 (some .int) 1 (fun ad => [vo ad 12 (some 0), vi x1]) (fX12_shut x1) enI okI (fun _ => True) := by
  refine Ct.of (by decide) (fun ad => Nat.le_of_ble_eq_true rfl) ?_
  intro κ ad σ X C T hpre h
  have C : Cx κ RX12 cX12_shut 2 (some .int) 1 := C
  unfold fX12_shut at h
  show Z κ (0, 0) (Qm κ ad σ enI okI X) 0 [(0, vo ad 12 (some 0)), (1, vi x1)] [] ad σ
  refine z_rng (fun hI1 hJ2 => ?_)
  refine z_iload_n C 1 dX12_shut_0 rfl ?_
  refine z_i2l C hx1 dX12_shut_1 ?_
  refine z_lconst (z := 0) C dX12_shut_2 (by decide) ?_
  refine z_aload_n C 0 dX12_shut_3 rfl ?_
  refine z_gIv (v := gI σ 1301 0 0) C li_X12_267 (sg_12 T) rfl dX12_shut_4 ?_
  refine z_iconst C dX12_shut_7 ?_
  obtain ⟨hk3, h⟩ := wpO_ck.mp h
  refine z_isub C dX12_shut_8 ?_
  refine z_i2l C hk3 dX12_shut_9 ?_
  refine z_cSp (st := []) T C (ct_X12_in x1 0 ((gI σ 1301 0 0) - 1) (inq_i hx1) (by decide) (inq_i hk3)) lm_X12_245 ls_X12_in dX12_shut_10 rfl rfl trivial (by decide) (Nat.le_of_ble_eq_true rfl) csOK_0 h (fun r4 hr5 h => ?_)
  show Z κ (0, 0) _ 13 _ [vi r4] ad σ
  refine z_if_ne C 18 (inr_b hr5) dX12_shut_13 (by decide) (fun q6 => ?_) (fun q6 => ?_)
  · have h := (wpO_ite.mp h).2 q6
    refine z_aload_n C 0 dX12_shut_18 rfl ?_
    refine z_gA T C li_X12_28 (sg_12 T) dX12_shut_19 ?_
    refine z_iload_n C 1 dX12_shut_22 rfl ?_
    obtain ⟨hb7, h⟩ := wpO_ck.mp h
    refine z_bav (v := gI σ 1308 0 x1.toNat) C ar_1308 (sg_1308 T) hx1 hb7 rfl dX12_shut_23 ?_
    refine z_if_eq C 30 (hI1 1308 0 _) dX12_shut_24 (by decide) (fun q8 => ?_) (fun q8 => ?_)
    · have h := (wpO_ite.mp h).1 q8
      refine z_aload_n C 0 dX12_shut_30 rfl ?_
      refine z_gA T C li_X12_28 (sg_12 T) dX12_shut_31 ?_
      refine z_iload_n C 1 dX12_shut_34 rfl ?_
      refine z_iconst C dX12_shut_35 ?_
      obtain ⟨hb9, h⟩ := wpO_ck.mp h
      refine z_bastore C ar_1308 (sg_1308 T) hx1 hb9 (by decide) (by decide) dX12_shut_36 ?_
      refine z_iconst C dX12_shut_37 ?_
      have h := wpO_some.mp h
      exact z_ireturn T C dX12_shut_38 (by decide) rfl h
    · have h := (wpO_ite.mp h).2 q8
      refine z_bipush C dX12_shut_27 (by decide) ?_
      have h := wpO_some.mp h
      exact z_ireturn T C dX12_shut_29 (by decide) rfl h
  · have h := (wpO_ite.mp h).1 q6
    refine z_iconst C dX12_shut_16 ?_
    have h := wpO_some.mp h
    exact z_ireturn T C dX12_shut_17 (by decide) rfl h
noncomputable def fX12_story (x1 : Int) (x2 : Int) (x3 : Int) (x4 : Int) (σ : St) : Option (Int × St) :=
  bnk (fX12_isPlace x2) (fun r3 => if r3 = 0 then (some ((-1), σ)) else (bnk (fX12_in x1 0 15) (fun r6 => if r6 = 0 then (some ((-2), σ)) else (bnk (fX12_isHour x3) (fun r9 => if r9 = 0 then (some ((-2), σ)) else (bnk (fX12_in x4 0 999) (fun r12 => if r12 = 0 then (some ((-2), σ)) else (if gI σ 1326 0 0 = 8 then (some ((-4), σ)) else (ck (0 ≤ gI σ 1326 0 0 ∧ gI σ 1326 0 0 < 8) (ck (0 ≤ gI σ 1326 0 0 ∧ gI σ 1326 0 0 < 8) (ck (0 ≤ gI σ 1326 0 0 ∧ gI σ 1326 0 0 < 8) (ck (0 ≤ gI σ 1326 0 0 ∧ gI σ 1326 0 0 < 8) (ck (inr ((gI σ 1326 0 0) + 1)) (ck (inr (((gI σ 1326 0 0) + 1) - 1)) (some (((gI σ 1326 0 0) + 1) - 1, sI (sI (sI (sI (sI σ 1327 0 ((gI σ 1326 0 0).toNat) x1) 1328 0 ((gI σ 1326 0 0).toNat) x2) 1329 0 ((gI σ 1326 0 0).toNat) x3) 1330 0 ((gI σ 1326 0 0).toNat) x4) 1326 0 0 ((gI σ 1326 0 0) + 1)))))))))))))))))
set_option maxRecDepth 20000 in
set_option maxHeartbeats 4000000 in
theorem ct_X12_story (x1 : Int) (x2 : Int) (x3 : Int) (x4 : Int) (hx1 : inr x1) (hx2 : inr x2) (hx3 : inr x3) (hx4 : inr x4) : Ct yX12_story cX12_story 5 (some .int) 2 (fun ad => [vo ad 12 (some 0), vi x1, vi x2, vi x3, vi x4]) (fX12_story x1 x2 x3 x4) enI okI (fun _ => True) := by
  refine Ct.of (by decide) (fun ad => Nat.le_of_ble_eq_true rfl) ?_
  intro κ ad σ X C T hpre h
  have C : Cx κ RX12 cX12_story 5 (some .int) 2 := C
  unfold fX12_story at h
  show Z κ (0, 0) (Qm κ ad σ enI okI X) 0 [(0, vo ad 12 (some 0)), (1, vi x1), (2, vi x2), (3, vi x3), (4, vi x4)] [] ad σ
  refine z_rng (fun hI1 hJ2 => ?_)
  refine z_iload_n C 2 dX12_story_0 rfl ?_
  refine z_cSp (st := []) T C (ct_X12_isPlace x2 hx2) lm_X12_258 ls_X12_isPlace dX12_story_1 rfl rfl trivial (by decide) (Nat.le_of_ble_eq_true rfl) csOK_0 h (fun r3 hr4 h => ?_)
  show Z κ (0, 0) _ 4 _ [vi r3] ad σ
  refine z_if_ne C 9 (inr_b hr4) dX12_story_4 (by decide) (fun q5 => ?_) (fun q5 => ?_)
  · have h := (wpO_ite.mp h).2 q5
    refine z_iload_n C 1 dX12_story_9 rfl ?_
    refine z_i2l C hx1 dX12_story_10 ?_
    refine z_lconst (z := 0) C dX12_story_11 (by decide) ?_
    refine z_ldc2_w C lc_X12_284 dX12_story_12 ?_
    refine z_cSp (st := []) T C (ct_X12_in x1 0 15 (inq_i hx1) (by decide) (by decide)) lm_X12_245 ls_X12_in dX12_story_15 rfl rfl trivial (by decide) (Nat.le_of_ble_eq_true rfl) csOK_0 h (fun r6 hr7 h => ?_)
    show Z κ (0, 0) _ 18 _ [vi r6] ad σ
    refine z_if_eq C 41 (inr_b hr7) dX12_story_18 (by decide) (fun q8 => ?_) (fun q8 => ?_)
    · have h := (wpO_ite.mp h).1 q8
      refine z_bipush C dX12_story_41 (by decide) ?_
      have h := wpO_some.mp h
      exact z_ireturn T C dX12_story_43 (by decide) rfl h
    · have h := (wpO_ite.mp h).2 q8
      refine z_iload_n C 3 dX12_story_21 rfl ?_
      refine z_cSp (st := []) T C (ct_X12_isHour x3 hx3) lm_X12_262 ls_X12_isHour dX12_story_22 rfl rfl trivial (by decide) (Nat.le_of_ble_eq_true rfl) csOK_0 h (fun r9 hr10 h => ?_)
      show Z κ (0, 0) _ 25 _ [vi r9] ad σ
      refine z_if_eq C 41 (inr_b hr10) dX12_story_25 (by decide) (fun q11 => ?_) (fun q11 => ?_)
      · have h := (wpO_ite.mp h).1 q11
        refine z_bipush C dX12_story_41 (by decide) ?_
        have h := wpO_some.mp h
        exact z_ireturn T C dX12_story_43 (by decide) rfl h
      · have h := (wpO_ite.mp h).2 q11
        refine z_iload C 4 dX12_story_28 rfl ?_
        refine z_i2l C hx4 dX12_story_30 ?_
        refine z_lconst (z := 0) C dX12_story_31 (by decide) ?_
        refine z_ldc2_w C lc_X12_314 dX12_story_32 ?_
        refine z_cSp (st := []) T C (ct_X12_in x4 0 999 (inq_i hx4) (by decide) (by decide)) lm_X12_245 ls_X12_in dX12_story_35 rfl rfl trivial (by decide) (Nat.le_of_ble_eq_true rfl) csOK_0 h (fun r12 hr13 h => ?_)
        show Z κ (0, 0) _ 38 _ [vi r12] ad σ
        refine z_if_ne C 44 (inr_b hr13) dX12_story_38 (by decide) (fun q14 => ?_) (fun q14 => ?_)
        · have h := (wpO_ite.mp h).2 q14
          refine z_aload_n C 0 dX12_story_44 rfl ?_
          refine z_gIv (v := gI σ 1326 0 0) C li_X12_311 (sg_12 T) rfl dX12_story_45 ?_
          refine z_bipush C dX12_story_48 (by decide) ?_
          refine z_icmp_ne C 56 (hI1 1326 0 _) (by decide) dX12_story_50 (by decide) (fun q15 => ?_) (fun q15 => ?_)
          · have h := (wpO_ite.mp h).2 q15
            refine z_aload_n C 0 dX12_story_56 rfl ?_
            refine z_gA T C li_X12_80 (sg_12 T) dX12_story_57 ?_
            refine z_aload_n C 0 dX12_story_60 rfl ?_
            refine z_gIv (v := gI σ 1326 0 0) C li_X12_311 (sg_12 T) rfl dX12_story_61 ?_
            refine z_iload_n C 1 dX12_story_64 rfl ?_
            obtain ⟨hb16, h⟩ := wpO_ck.mp h
            refine z_iastore C ar_1327 (sg_1327 T) (hI1 1326 0 _) hb16 hx1 dX12_story_65 ?_
            refine z_aload_n C 0 dX12_story_66 rfl ?_
            refine z_gA T C li_X12_83 (sg_12 T) dX12_story_67 ?_
            refine z_aload_n C 0 dX12_story_70 rfl ?_
            refine z_gIv (v := gI σ 1326 0 0) C li_X12_311 (sg_12 T) (gn (by decide) rfl) dX12_story_71 ?_
            refine z_iload_n C 2 dX12_story_74 rfl ?_
            obtain ⟨hb17, h⟩ := wpO_ck.mp h
            refine z_iastore C ar_1328 (sg_1328 T) (hI1 1326 0 _) hb17 hx2 dX12_story_75 ?_
            refine z_aload_n C 0 dX12_story_76 rfl ?_
            refine z_gA T C li_X12_86 (sg_12 T) dX12_story_77 ?_
            refine z_aload_n C 0 dX12_story_80 rfl ?_
            refine z_gIv (v := gI σ 1326 0 0) C li_X12_311 (sg_12 T) (gn (by decide) (gn (by decide) rfl)) dX12_story_81 ?_
            refine z_iload_n C 3 dX12_story_84 rfl ?_
            obtain ⟨hb18, h⟩ := wpO_ck.mp h
            refine z_iastore C ar_1329 (sg_1329 T) (hI1 1326 0 _) hb18 hx3 dX12_story_85 ?_
            refine z_aload_n C 0 dX12_story_86 rfl ?_
            refine z_gA T C li_X12_89 (sg_12 T) dX12_story_87 ?_
            refine z_aload_n C 0 dX12_story_90 rfl ?_
            refine z_gIv (v := gI σ 1326 0 0) C li_X12_311 (sg_12 T) (gn (by decide) (gn (by decide) (gn (by decide) rfl))) dX12_story_91 ?_
            refine z_iload C 4 dX12_story_94 rfl ?_
            obtain ⟨hb19, h⟩ := wpO_ck.mp h
            refine z_iastore C ar_1330 (sg_1330 T) (hI1 1326 0 _) hb19 hx4 dX12_story_96 ?_
            refine z_aload_n C 0 dX12_story_97 rfl ?_
            refine z_dup C dX12_story_98 rfl ?_
            refine z_gIv (v := gI σ 1326 0 0) C li_X12_311 (sg_12 T) (gn (by decide) (gn (by decide) (gn (by decide) (gn (by decide) rfl)))) dX12_story_99 ?_
            refine z_iconst C dX12_story_102 ?_
            obtain ⟨hk20, h⟩ := wpO_ck.mp h
            refine z_iadd C dX12_story_103 ?_
            refine z_pI C lq_X12_311 (sg_12 T) hk20 dX12_story_104 ?_
            refine z_aload_n C 0 dX12_story_107 rfl ?_
            refine z_gIv (v := (gI σ 1326 0 0) + 1) C li_X12_311 (sg_12 T) gs dX12_story_108 ?_
            refine z_iconst C dX12_story_111 ?_
            obtain ⟨hk21, h⟩ := wpO_ck.mp h
            refine z_isub C dX12_story_112 ?_
            have h := wpO_some.mp h
            exact z_ireturn T C dX12_story_113 hk21 rfl h
          · have h := (wpO_ite.mp h).1 q15
            refine z_bipush C dX12_story_53 (by decide) ?_
            have h := wpO_some.mp h
            exact z_ireturn T C dX12_story_55 (by decide) rfl h
        · have h := (wpO_ite.mp h).1 q14
          refine z_bipush C dX12_story_41 (by decide) ?_
          have h := wpO_some.mp h
          exact z_ireturn T C dX12_story_43 (by decide) rfl h
  · have h := (wpO_ite.mp h).1 q5
    refine z_iconst C dX12_story_7 ?_
    have h := wpO_some.mp h
    exact z_ireturn T C dX12_story_8 (by decide) rfl h
noncomputable def fX12_strike (x1 : Int) (x2 : Int) (σ : St) : Option (Int × St) :=
  bnk (fX12_isRule x1 σ) (fun r3 => if r3 = 0 then (some ((-1), σ)) else (bnk (fX12_isDay x2) (fun r6 => if r6 = 0 then (some ((-2), σ)) else (ck (0 ≤ x1 ∧ x1 < 6) (if gI σ 1339 0 x1.toNat = (-9) then (ck (0 ≤ x1 ∧ x1 < 6) (some (1, sI σ 1339 0 x1.toNat x2))) else (some ((-3), σ)))))))
set_option maxRecDepth 20000 in
set_option maxHeartbeats 4000000 in
theorem ct_X12_strike (x1 : Int) (x2 : Int) (hx1 : inr x1) (hx2 : inr x2) : Ct yX12_strike cX12_strike 3 (some .int) 2 (fun ad => [vo ad 12 (some 0), vi x1, vi x2]) (fX12_strike x1 x2) enI okI (fun _ => True) := by
  refine Ct.of (by decide) (fun ad => Nat.le_of_ble_eq_true rfl) ?_
  intro κ ad σ X C T hpre h
  have C : Cx κ RX12 cX12_strike 3 (some .int) 2 := C
  unfold fX12_strike at h
  show Z κ (0, 0) (Qm κ ad σ enI okI X) 0 [(0, vo ad 12 (some 0)), (1, vi x1), (2, vi x2)] [] ad σ
  refine z_rng (fun hI1 hJ2 => ?_)
  refine z_aload_n C 0 dX12_strike_0 rfl ?_
  refine z_iload_n C 1 dX12_strike_1 rfl ?_
  refine z_cVp (st := []) T C (ct_X12_isRule x1 hx1) lm_X12_342 lv_vX12_isRule dX12_strike_2 [vi x1] rfl rfl rfl rfl rfl (sg_12 T) trivial (by decide) (Nat.le_of_ble_eq_true rfl) csOK_0 h (fun r3 hr4 h => ?_)
  show Z κ (0, 0) _ 5 _ [vi r3] ad σ
  refine z_if_ne C 10 (inr_b hr4) dX12_strike_5 (by decide) (fun q5 => ?_) (fun q5 => ?_)
  · have h := (wpO_ite.mp h).2 q5
    refine z_iload_n C 2 dX12_strike_10 rfl ?_
    refine z_cSp (st := []) T C (ct_X12_isDay x2 hx2) lm_X12_339 ls_X12_isDay dX12_strike_11 rfl rfl trivial (by decide) (Nat.le_of_ble_eq_true rfl) csOK_0 h (fun r6 hr7 h => ?_)
    show Z κ (0, 0) _ 14 _ [vi r6] ad σ
    refine z_if_ne C 20 (inr_b hr7) dX12_strike_14 (by decide) (fun q8 => ?_) (fun q8 => ?_)
    · have h := (wpO_ite.mp h).2 q8
      refine z_aload_n C 0 dX12_strike_20 rfl ?_
      refine z_gA T C li_X12_114 (sg_12 T) dX12_strike_21 ?_
      refine z_iload_n C 1 dX12_strike_24 rfl ?_
      obtain ⟨hb9, h⟩ := wpO_ck.mp h
      refine z_iav (v := gI σ 1339 0 x1.toNat) C ar_1339 (sg_1339 T) hx1 hb9 rfl dX12_strike_25 ?_
      refine z_bipush C dX12_strike_26 (by decide) ?_
      refine z_icmp_eq C 34 (hI1 1339 0 _) (by decide) dX12_strike_28 (by decide) (fun q10 => ?_) (fun q10 => ?_)
      · have h := (wpO_ite.mp h).1 q10
        refine z_aload_n C 0 dX12_strike_34 rfl ?_
        refine z_gA T C li_X12_114 (sg_12 T) dX12_strike_35 ?_
        refine z_iload_n C 1 dX12_strike_38 rfl ?_
        refine z_iload_n C 2 dX12_strike_39 rfl ?_
        obtain ⟨hb11, h⟩ := wpO_ck.mp h
        refine z_iastore C ar_1339 (sg_1339 T) hx1 hb11 hx2 dX12_strike_40 ?_
        refine z_iconst C dX12_strike_41 ?_
        have h := wpO_some.mp h
        exact z_ireturn T C dX12_strike_42 (by decide) rfl h
      · have h := (wpO_ite.mp h).2 q10
        refine z_bipush C dX12_strike_31 (by decide) ?_
        have h := wpO_some.mp h
        exact z_ireturn T C dX12_strike_33 (by decide) rfl h
    · have h := (wpO_ite.mp h).1 q8
      refine z_bipush C dX12_strike_17 (by decide) ?_
      have h := wpO_some.mp h
      exact z_ireturn T C dX12_strike_19 (by decide) rfl h
  · have h := (wpO_ite.mp h).1 q5
    refine z_iconst C dX12_strike_8 ?_
    have h := wpO_some.mp h
    exact z_ireturn T C dX12_strike_9 (by decide) rfl h
noncomputable def fX12_way (x1 : Int) (x2 : Int) (x3 : Int) (x4 : Int) (x5 : Int) (x6 : Int) (σ : St) : Option (Int × St) :=
  bnk (fX12_isPlace x1) (fun r3 => if r3 = 0 then (some ((-1), σ)) else (bnk (fX12_isPlace x2) (fun r6 => if r6 = 0 then (some ((-1), σ)) else (bnk (fX12_isHour x3) (fun r9 => if r9 = 0 then (some ((-2), σ)) else (bnk (fX12_in x4 1 500) (fun r12 => if r12 = 0 then (some ((-2), σ)) else (bnk (fX12_in x5 1 500) (fun r15 => if r15 = 0 then (some ((-2), σ)) else (bnk (fX12_in x6 0 200) (fun r18 => if r18 = 0 then (some ((-2), σ)) else (if x1 = x2 then (some ((-3), σ)) else (if gI σ 1301 0 0 = 24 then (some ((-4), σ)) else (ck (0 ≤ gI σ 1301 0 0 ∧ gI σ 1301 0 0 < 24) (ck (0 ≤ gI σ 1301 0 0 ∧ gI σ 1301 0 0 < 24) (ck (0 ≤ gI σ 1301 0 0 ∧ gI σ 1301 0 0 < 24) (ck (0 ≤ gI σ 1301 0 0 ∧ gI σ 1301 0 0 < 24) (ck (0 ≤ gI σ 1301 0 0 ∧ gI σ 1301 0 0 < 24) (ck (0 ≤ gI σ 1301 0 0 ∧ gI σ 1301 0 0 < 24) (ck (inr ((gI σ 1301 0 0) + 1)) (ck (inr (((gI σ 1301 0 0) + 1) - 1)) (some (((gI σ 1301 0 0) + 1) - 1, sI (sI (sI (sI (sI (sI (sI σ 1302 0 ((gI σ 1301 0 0).toNat) x1) 1303 0 ((gI σ 1301 0 0).toNat) x2) 1304 0 ((gI σ 1301 0 0).toNat) x3) 1305 0 ((gI σ 1301 0 0).toNat) x4) 1306 0 ((gI σ 1301 0 0).toNat) x5) 1307 0 ((gI σ 1301 0 0).toNat) x6) 1301 0 0 ((gI σ 1301 0 0) + 1))))))))))))))))))))))))
set_option maxRecDepth 20000 in
set_option maxHeartbeats 4000000 in
theorem ct_X12_way (x1 : Int) (x2 : Int) (x3 : Int) (x4 : Int) (x5 : Int) (x6 : Int) (hx1 : inr x1) (hx2 : inr x2) (hx3 : inr x3) (hx4 : inr x4) (hx5 : inr x5) (hx6 : inr x6) : Ct yX12_way cX12_way 7 (some .int) 2 (fun ad => [vo ad 12 (some 0), vi x1, vi x2, vi x3, vi x4, vi x5, vi x6]) (fX12_way x1 x2 x3 x4 x5 x6) enI okI (fun _ => True) := by
  refine Ct.of (by decide) (fun ad => Nat.le_of_ble_eq_true rfl) ?_
  intro κ ad σ X C T hpre h
  have C : Cx κ RX12 cX12_way 7 (some .int) 2 := C
  unfold fX12_way at h
  show Z κ (0, 0) (Qm κ ad σ enI okI X) 0 [(0, vo ad 12 (some 0)), (1, vi x1), (2, vi x2), (3, vi x3), (4, vi x4), (5, vi x5), (6, vi x6)] [] ad σ
  refine z_rng (fun hI1 hJ2 => ?_)
  refine z_iload_n C 1 dX12_way_0 rfl ?_
  refine z_cSp (st := []) T C (ct_X12_isPlace x1 hx1) lm_X12_258 ls_X12_isPlace dX12_way_1 rfl rfl trivial (by decide) (Nat.le_of_ble_eq_true rfl) csOK_0 h (fun r3 hr4 h => ?_)
  show Z κ (0, 0) _ 4 _ [vi r3] ad σ
  refine z_if_eq C 14 (inr_b hr4) dX12_way_4 (by decide) (fun q5 => ?_) (fun q5 => ?_)
  · have h := (wpO_ite.mp h).1 q5
    refine z_iconst C dX12_way_14 ?_
    have h := wpO_some.mp h
    exact z_ireturn T C dX12_way_15 (by decide) rfl h
  · have h := (wpO_ite.mp h).2 q5
    refine z_iload_n C 2 dX12_way_7 rfl ?_
    refine z_cSp (st := []) T C (ct_X12_isPlace x2 hx2) lm_X12_258 ls_X12_isPlace dX12_way_8 rfl rfl trivial (by decide) (Nat.le_of_ble_eq_true rfl) csOK_0 h (fun r6 hr7 h => ?_)
    show Z κ (0, 0) _ 11 _ [vi r6] ad σ
    refine z_if_ne C 16 (inr_b hr7) dX12_way_11 (by decide) (fun q8 => ?_) (fun q8 => ?_)
    · have h := (wpO_ite.mp h).2 q8
      refine z_iload_n C 3 dX12_way_16 rfl ?_
      refine z_cSp (st := []) T C (ct_X12_isHour x3 hx3) lm_X12_262 ls_X12_isHour dX12_way_17 rfl rfl trivial (by decide) (Nat.le_of_ble_eq_true rfl) csOK_0 h (fun r9 hr10 h => ?_)
      show Z κ (0, 0) _ 20 _ [vi r9] ad σ
      refine z_if_eq C 62 (inr_b hr10) dX12_way_20 (by decide) (fun q11 => ?_) (fun q11 => ?_)
      · have h := (wpO_ite.mp h).1 q11
        refine z_bipush C dX12_way_62 (by decide) ?_
        have h := wpO_some.mp h
        exact z_ireturn T C dX12_way_64 (by decide) rfl h
      · have h := (wpO_ite.mp h).2 q11
        refine z_iload C 4 dX12_way_23 rfl ?_
        refine z_i2l C hx4 dX12_way_25 ?_
        refine z_lconst (z := 1) C dX12_way_26 (by decide) ?_
        refine z_ldc2_w C lc_X12_253 dX12_way_27 ?_
        refine z_cSp (st := []) T C (ct_X12_in x4 1 500 (inq_i hx4) (by decide) (by decide)) lm_X12_245 ls_X12_in dX12_way_30 rfl rfl trivial (by decide) (Nat.le_of_ble_eq_true rfl) csOK_0 h (fun r12 hr13 h => ?_)
        show Z κ (0, 0) _ 33 _ [vi r12] ad σ
        refine z_if_eq C 62 (inr_b hr13) dX12_way_33 (by decide) (fun q14 => ?_) (fun q14 => ?_)
        · have h := (wpO_ite.mp h).1 q14
          refine z_bipush C dX12_way_62 (by decide) ?_
          have h := wpO_some.mp h
          exact z_ireturn T C dX12_way_64 (by decide) rfl h
        · have h := (wpO_ite.mp h).2 q14
          refine z_iload C 5 dX12_way_36 rfl ?_
          refine z_i2l C hx5 dX12_way_38 ?_
          refine z_lconst (z := 1) C dX12_way_39 (by decide) ?_
          refine z_ldc2_w C lc_X12_253 dX12_way_40 ?_
          refine z_cSp (st := []) T C (ct_X12_in x5 1 500 (inq_i hx5) (by decide) (by decide)) lm_X12_245 ls_X12_in dX12_way_43 rfl rfl trivial (by decide) (Nat.le_of_ble_eq_true rfl) csOK_0 h (fun r15 hr16 h => ?_)
          show Z κ (0, 0) _ 46 _ [vi r15] ad σ
          refine z_if_eq C 62 (inr_b hr16) dX12_way_46 (by decide) (fun q17 => ?_) (fun q17 => ?_)
          · have h := (wpO_ite.mp h).1 q17
            refine z_bipush C dX12_way_62 (by decide) ?_
            have h := wpO_some.mp h
            exact z_ireturn T C dX12_way_64 (by decide) rfl h
          · have h := (wpO_ite.mp h).2 q17
            refine z_iload C 6 dX12_way_49 rfl ?_
            refine z_i2l C hx6 dX12_way_51 ?_
            refine z_lconst (z := 0) C dX12_way_52 (by decide) ?_
            refine z_ldc2_w C lc_X12_265 dX12_way_53 ?_
            refine z_cSp (st := []) T C (ct_X12_in x6 0 200 (inq_i hx6) (by decide) (by decide)) lm_X12_245 ls_X12_in dX12_way_56 rfl rfl trivial (by decide) (Nat.le_of_ble_eq_true rfl) csOK_0 h (fun r18 hr19 h => ?_)
            show Z κ (0, 0) _ 59 _ [vi r18] ad σ
            refine z_if_ne C 65 (inr_b hr19) dX12_way_59 (by decide) (fun q20 => ?_) (fun q20 => ?_)
            · have h := (wpO_ite.mp h).2 q20
              refine z_iload_n C 1 dX12_way_65 rfl ?_
              refine z_iload_n C 2 dX12_way_66 rfl ?_
              refine z_icmp_ne C 73 hx1 hx2 dX12_way_67 (by decide) (fun q21 => ?_) (fun q21 => ?_)
              · have h := (wpO_ite.mp h).2 q21
                refine z_aload_n C 0 dX12_way_73 rfl ?_
                refine z_gIv (v := gI σ 1301 0 0) C li_X12_267 (sg_12 T) rfl dX12_way_74 ?_
                refine z_bipush C dX12_way_77 (by decide) ?_
                refine z_icmp_ne C 85 (hI1 1301 0 _) (by decide) dX12_way_79 (by decide) (fun q22 => ?_) (fun q22 => ?_)
                · have h := (wpO_ite.mp h).2 q22
                  refine z_aload_n C 0 dX12_way_85 rfl ?_
                  refine z_gA T C li_X12_7 (sg_12 T) dX12_way_86 ?_
                  refine z_aload_n C 0 dX12_way_89 rfl ?_
                  refine z_gIv (v := gI σ 1301 0 0) C li_X12_267 (sg_12 T) rfl dX12_way_90 ?_
                  refine z_iload_n C 1 dX12_way_93 rfl ?_
                  obtain ⟨hb23, h⟩ := wpO_ck.mp h
                  refine z_iastore C ar_1302 (sg_1302 T) (hI1 1301 0 _) hb23 hx1 dX12_way_94 ?_
                  refine z_aload_n C 0 dX12_way_95 rfl ?_
                  refine z_gA T C li_X12_13 (sg_12 T) dX12_way_96 ?_
                  refine z_aload_n C 0 dX12_way_99 rfl ?_
                  refine z_gIv (v := gI σ 1301 0 0) C li_X12_267 (sg_12 T) (gn (by decide) rfl) dX12_way_100 ?_
                  refine z_iload_n C 2 dX12_way_103 rfl ?_
                  obtain ⟨hb24, h⟩ := wpO_ck.mp h
                  refine z_iastore C ar_1303 (sg_1303 T) (hI1 1301 0 _) hb24 hx2 dX12_way_104 ?_
                  refine z_aload_n C 0 dX12_way_105 rfl ?_
                  refine z_gA T C li_X12_16 (sg_12 T) dX12_way_106 ?_
                  refine z_aload_n C 0 dX12_way_109 rfl ?_
                  refine z_gIv (v := gI σ 1301 0 0) C li_X12_267 (sg_12 T) (gn (by decide) (gn (by decide) rfl)) dX12_way_110 ?_
                  refine z_iload_n C 3 dX12_way_113 rfl ?_
                  obtain ⟨hb25, h⟩ := wpO_ck.mp h
                  refine z_iastore C ar_1304 (sg_1304 T) (hI1 1301 0 _) hb25 hx3 dX12_way_114 ?_
                  refine z_aload_n C 0 dX12_way_115 rfl ?_
                  refine z_gA T C li_X12_19 (sg_12 T) dX12_way_116 ?_
                  refine z_aload_n C 0 dX12_way_119 rfl ?_
                  refine z_gIv (v := gI σ 1301 0 0) C li_X12_267 (sg_12 T) (gn (by decide) (gn (by decide) (gn (by decide) rfl))) dX12_way_120 ?_
                  refine z_iload C 4 dX12_way_123 rfl ?_
                  obtain ⟨hb26, h⟩ := wpO_ck.mp h
                  refine z_iastore C ar_1305 (sg_1305 T) (hI1 1301 0 _) hb26 hx4 dX12_way_125 ?_
                  refine z_aload_n C 0 dX12_way_126 rfl ?_
                  refine z_gA T C li_X12_22 (sg_12 T) dX12_way_127 ?_
                  refine z_aload_n C 0 dX12_way_130 rfl ?_
                  refine z_gIv (v := gI σ 1301 0 0) C li_X12_267 (sg_12 T) (gn (by decide) (gn (by decide) (gn (by decide) (gn (by decide) rfl)))) dX12_way_131 ?_
                  refine z_iload C 5 dX12_way_134 rfl ?_
                  obtain ⟨hb27, h⟩ := wpO_ck.mp h
                  refine z_iastore C ar_1306 (sg_1306 T) (hI1 1301 0 _) hb27 hx5 dX12_way_136 ?_
                  refine z_aload_n C 0 dX12_way_137 rfl ?_
                  refine z_gA T C li_X12_25 (sg_12 T) dX12_way_138 ?_
                  refine z_aload_n C 0 dX12_way_141 rfl ?_
                  refine z_gIv (v := gI σ 1301 0 0) C li_X12_267 (sg_12 T) (gn (by decide) (gn (by decide) (gn (by decide) (gn (by decide) (gn (by decide) rfl))))) dX12_way_142 ?_
                  refine z_iload C 6 dX12_way_145 rfl ?_
                  obtain ⟨hb28, h⟩ := wpO_ck.mp h
                  refine z_iastore C ar_1307 (sg_1307 T) (hI1 1301 0 _) hb28 hx6 dX12_way_147 ?_
                  refine z_aload_n C 0 dX12_way_148 rfl ?_
                  refine z_dup C dX12_way_149 rfl ?_
                  refine z_gIv (v := gI σ 1301 0 0) C li_X12_267 (sg_12 T) (gn (by decide) (gn (by decide) (gn (by decide) (gn (by decide) (gn (by decide) (gn (by decide) rfl)))))) dX12_way_150 ?_
                  refine z_iconst C dX12_way_153 ?_
                  obtain ⟨hk29, h⟩ := wpO_ck.mp h
                  refine z_iadd C dX12_way_154 ?_
                  refine z_pI C lq_X12_267 (sg_12 T) hk29 dX12_way_155 ?_
                  refine z_aload_n C 0 dX12_way_158 rfl ?_
                  refine z_gIv (v := (gI σ 1301 0 0) + 1) C li_X12_267 (sg_12 T) gs dX12_way_159 ?_
                  refine z_iconst C dX12_way_162 ?_
                  obtain ⟨hk30, h⟩ := wpO_ck.mp h
                  refine z_isub C dX12_way_163 ?_
                  have h := wpO_some.mp h
                  exact z_ireturn T C dX12_way_164 hk30 rfl h
                · have h := (wpO_ite.mp h).1 q22
                  refine z_bipush C dX12_way_82 (by decide) ?_
                  have h := wpO_some.mp h
                  exact z_ireturn T C dX12_way_84 (by decide) rfl h
              · have h := (wpO_ite.mp h).1 q21
                refine z_bipush C dX12_way_70 (by decide) ?_
                have h := wpO_some.mp h
                exact z_ireturn T C dX12_way_72 (by decide) rfl h
            · have h := (wpO_ite.mp h).1 q20
              refine z_bipush C dX12_way_62 (by decide) ?_
              have h := wpO_some.mp h
              exact z_ireturn T C dX12_way_64 (by decide) rfl h
    · have h := (wpO_ite.mp h).1 q8
      refine z_iconst C dX12_way_14 ?_
      have h := wpO_some.mp h
      exact z_ireturn T C dX12_way_15 (by decide) rfl h
noncomputable def fX12_week_j109 (x1 : Int) (σ1 : St) : Option (Int × St) :=
  ck (0 ≤ x1 ∧ x1 < 8) (some (gI σ1 1391 0 x1.toNat, σ1))
noncomputable def fX12_week_j102 (x1 : Int) (x2 : Int) (x3 : Int) (s1 : Int) (s2 : Int) (σ1 : St) : Option ((Int × St) ⊕ St) :=
  ck (0 ≤ s1 ∧ s1 < 8) (ck (inr (x3 + 1)) (some (.inl ((x3 + 1, sI σ1 1391 0 s1.toNat s2)))))
noncomputable def fX12_week_j79 (x1 : Int) (x2 : Int) (x3 : Int) (x4 : Int) (σ1 : St) : Option ((Int × St) ⊕ St) :=
  ck (0 ≤ x3 ∧ x3 < 8) (if x4 ≤ gI σ1 1380 0 x3.toNat then (fX12_week_j102 x1 x2 x3 x3 x4 σ1) else (fX12_week_j102 x1 x2 x3 x3 ((-9)) σ1))
noncomputable def fX12_week_l46 (x1 : Int) (x2 : Int) (x3 : Int) (x4 : Int) (σ1 : St) : Option ((Int × St) ⊕ (Int × St)) :=
  ck (0 ≤ x3 ∧ x3 < 8) (if gI σ1 1380 0 x3.toNat < x4 then (some (.inr ((x4, σ1)))) else (bnd (fX12_earnsMost σ1) (fun r16 σ18 => if r16 = x2 then (some (.inr ((x4, σ18)))) else (ck (inr (x4 + 1)) (ck (0 ≤ x3 ∧ x3 < 8) (some (.inl ((x4 + 1, sI σ18 1391 0 x3.toNat (x4 + 1))))))))))
noncomputable def fX12_week_j46 (x1 : Int) (x2 : Int) (x3 : Int) (x4 : Int) (σ1 : St) : Option ((Int × St) ⊕ St) :=
  bnk (wh (fun s => fX12_week_l46 x1 x2 x3 s.1 s.2) ((x4, σ1))) (fun e => fX12_week_j79 x1 x2 x3 e.1 e.2)
noncomputable def fX12_week_l25 (x1 : Int) (x2 : Int) (x3 : Int) (σ1 : St) : Option ((Int × St) ⊕ St) :=
  if x1 < x3 then (some (.inr σ1)) else (ck (0 ≤ x3 ∧ x3 < 8) (ck (0 ≤ x3 ∧ x3 < 8) (fX12_week_j46 x1 x2 x3 (gI σ1 1379 0 x3.toNat) (sI σ1 1391 0 x3.toNat (gI σ1 1379 0 x3.toNat)))))
noncomputable def fX12_week_j25 (x1 : Int) (x2 : Int) (x3 : Int) (σ1 : St) : Option (Int × St) :=
  bnk (wh (fun s => fX12_week_l25 x1 x2 s.1 s.2) ((x3, σ1))) (fun e => fX12_week_j109 x1 e)
noncomputable def fX12_week (x1 : Int) (σ : St) : Option (Int × St) :=
  ck (inr ((gI σ 1378 0 0) - 1)) (bnk (fX12_in x1 0 ((gI σ 1378 0 0) - 1)) (fun r34 => if r34 = 0 then (some ((-1), σ)) else (bnd (fX12_freeAll σ) (fun r37 σ39 => fX12_week_j25 x1 r37 0 σ39))))
set_option maxRecDepth 20000 in
set_option maxHeartbeats 4000000 in
theorem ct_X12_week (x1 : Int) (hx1 : inr x1) : Ct yX12_week cX12_week 5 (some .int) 3 (fun ad => [vo ad 12 (some 0), vi x1]) (fX12_week x1) enI okI (fun _ => True) := by
  refine Ct.of (by decide) (fun ad => Nat.le_of_ble_eq_true rfl) ?_
  intro κ ad σ X C T hpre h
  have C : Cx κ RX12 cX12_week 5 (some .int) 3 := C
  unfold fX12_week at h
  have J109 : ∀ (x1 : Int) (σ1 : St), inr x1 → σ1.2.2.2 = σ.2.2.2 → wpO (fX12_week_j109 x1 σ1) (fun q => X q.1 q.2) → Z κ (0, 0) (Qm κ ad σ enI okI X) 109 [(0, vo ad 12 (some 0)), (1, vi x1)] [] ad σ1 := by
    intro x1 σ1 hx1 eN1 h
    unfold fX12_week_j109 at h
    refine z_rng (fun hI1 hJ2 => ?_)
    refine z_aload_n C 0 dX12_week_109 rfl ?_
    refine z_gA T C li_X12_240 (sg_12 T) dX12_week_110 ?_
    refine z_iload_n C 1 dX12_week_113 rfl ?_
    obtain ⟨hb3, h⟩ := wpO_ck.mp h
    refine z_iav (v := gI σ1 1391 0 x1.toNat) C ar_1391 (sg_1391 T) hx1 hb3 rfl dX12_week_114 ?_
    have h := wpO_some.mp h
    exact z_ireturn T C dX12_week_115 (hI1 1391 0 _) eN1 h
  have J25 : ∀ (x1 : Int) (x2 : Int) (x3 : Int) (σ1 : St), inr x1 → inr x2 → inr x3 → σ1.2.2.2 = σ.2.2.2 → wpO (fX12_week_j25 x1 x2 x3 σ1) (fun q => X q.1 q.2) → Z κ (0, 0) (Qm κ ad σ enI okI X) 25 [(0, vo ad 12 (some 0)), (1, vi x1), (2, vi x2), (3, vi x3)] [] ad σ1 := by
    intro x1 x2 x3 σ1 hx1 hx2 hx3 eN1 h
    unfold fX12_week_j25 at h
    have step : ∀ (P25 : (Int × St) → Prop) (Q25 : St → Prop), (∀ (x3 : Int) (σ1 : St), P25 ((x3, σ1)) → inr x3 → σ1.2.2.2 = σ.2.2.2 → Z κ (0, 0) (Qm κ ad σ enI okI X) 25 [(0, vo ad 12 (some 0)), (1, vi x1), (2, vi x2), (3, vi x3)] [] ad σ1) → (∀ (σ1 : St), Q25 (σ1) → σ1.2.2.2 = σ.2.2.2 → Z κ (0, 0) (Qm κ ad σ enI okI X) 109 [(0, vo ad 12 (some 0)), (1, vi x1)] [] ad σ1) → ∀ (x3 : Int) (σ1 : St), inr x3 → σ1.2.2.2 = σ.2.2.2 → wpO (fX12_week_l25 x1 x2 x3 σ1) (onS P25 Q25) → Z κ (0, 0) (Qm κ ad σ enI okI X) 25 [(0, vo ad 12 (some 0)), (1, vi x1), (2, vi x2), (3, vi x3)] [] ad σ1 := by
      intro P25 Q25 hP25 hE25_109 x3 σ1 hx3 eN1 h
      unfold fX12_week_l25 at h
      have J102 : ∀ (x3 : Int) (s1 : Int) (s2 : Int) (σ1 : St), inr x3 → inr s1 → inr s2 → σ1.2.2.2 = σ.2.2.2 → wpO (fX12_week_j102 x1 x2 x3 s1 s2 σ1) (onS P25 Q25) → Z κ (0, 0) (Qm κ ad σ enI okI X) 102 [(0, vo ad 12 (some 0)), (1, vi x1), (2, vi x2), (3, vi x3)] [vi s2, vi s1, vo ad 1391 (some 0)] ad σ1 := by
        intro x3 s1 s2 σ1 hx3 hs1 hs2 eN1 h
        unfold fX12_week_j102 at h
        refine z_rng (fun hI4 hJ5 => ?_)
        obtain ⟨hb6, h⟩ := wpO_ck.mp h
        refine z_iastore C ar_1391 (sg_1391 T) hs1 hb6 hs2 dX12_week_102 ?_
        obtain ⟨hk7, h⟩ := wpO_ck.mp h
        refine z_iinc (lv2 := [(3, vi (x3 + 1)), (0, vo ad 12 (some 0)), (1, vi x1), (2, vi x2)]) C 3 dX12_week_103 rfl (by decide) rfl ?_
        refine z_goto C 25 dX12_week_106 (by decide) ?_
        refine z_sub [1, 2, 3, 0] rfl ?_
        have h := wpO_some.mp h
        exact hP25 (x3 + 1) (sI σ1 1391 0 s1.toNat s2) h hk7 eN1
      have J79 : ∀ (x3 : Int) (x4 : Int) (σ1 : St), inr x3 → inr x4 → σ1.2.2.2 = σ.2.2.2 → wpO (fX12_week_j79 x1 x2 x3 x4 σ1) (onS P25 Q25) → Z κ (0, 0) (Qm κ ad σ enI okI X) 79 [(0, vo ad 12 (some 0)), (1, vi x1), (2, vi x2), (3, vi x3), (4, vi x4)] [] ad σ1 := by
        intro x3 x4 σ1 hx3 hx4 eN1 h
        unfold fX12_week_j79 at h
        refine z_rng (fun hI8 hJ9 => ?_)
        refine z_aload_n C 0 dX12_week_79 rfl ?_
        refine z_gA T C li_X12_240 (sg_12 T) dX12_week_80 ?_
        refine z_iload_n C 3 dX12_week_83 rfl ?_
        refine z_iload C 4 dX12_week_84 rfl ?_
        refine z_aload_n C 0 dX12_week_86 rfl ?_
        refine z_gA T C li_X12_210 (sg_12 T) dX12_week_87 ?_
        refine z_iload_n C 3 dX12_week_90 rfl ?_
        obtain ⟨hb10, h⟩ := wpO_ck.mp h
        refine z_iav (v := gI σ1 1380 0 x3.toNat) C ar_1380 (sg_1380 T) hx3 hb10 rfl dX12_week_91 ?_
        refine z_icmp_le C 100 hx4 (hI8 1380 0 _) dX12_week_92 (by decide) (fun q11 => ?_) (fun q11 => ?_)
        · have h := (wpO_ite.mp h).1 q11
          refine z_iload C 4 dX12_week_100 rfl ?_
          refine z_sub [0, 1, 2, 3] rfl ?_
          exact J102 x3 x3 x4 σ1 hx3 hx3 hx4 eN1 h
        · have h := (wpO_ite.mp h).2 q11
          refine z_bipush C dX12_week_95 (by decide) ?_
          refine z_goto C 102 dX12_week_97 (by decide) ?_
          refine z_sub [0, 1, 2, 3] rfl ?_
          exact J102 x3 x3 ((-9)) σ1 hx3 hx3 (by decide) eN1 h
      have J46 : ∀ (x3 : Int) (x4 : Int) (σ1 : St), inr x3 → inr x4 → σ1.2.2.2 = σ.2.2.2 → wpO (fX12_week_j46 x1 x2 x3 x4 σ1) (onS P25 Q25) → Z κ (0, 0) (Qm κ ad σ enI okI X) 46 [(0, vo ad 12 (some 0)), (1, vi x1), (2, vi x2), (3, vi x3), (4, vi x4)] [] ad σ1 := by
        intro x3 x4 σ1 hx3 hx4 eN1 h
        unfold fX12_week_j46 at h
        have step : ∀ (P46 : (Int × St) → Prop) (Q46 : (Int × St) → Prop), (∀ (x4 : Int) (σ1 : St), P46 ((x4, σ1)) → inr x4 → σ1.2.2.2 = σ.2.2.2 → Z κ (0, 0) (Qm κ ad σ enI okI X) 46 [(0, vo ad 12 (some 0)), (1, vi x1), (2, vi x2), (3, vi x3), (4, vi x4)] [] ad σ1) → (∀ (x4 : Int) (σ1 : St), Q46 ((x4, σ1)) → inr x4 → σ1.2.2.2 = σ.2.2.2 → Z κ (0, 0) (Qm κ ad σ enI okI X) 79 [(0, vo ad 12 (some 0)), (1, vi x1), (2, vi x2), (3, vi x3), (4, vi x4)] [] ad σ1) → ∀ (x4 : Int) (σ1 : St), inr x4 → σ1.2.2.2 = σ.2.2.2 → wpO (fX12_week_l46 x1 x2 x3 x4 σ1) (onS P46 Q46) → Z κ (0, 0) (Qm κ ad σ enI okI X) 46 [(0, vo ad 12 (some 0)), (1, vi x1), (2, vi x2), (3, vi x3), (4, vi x4)] [] ad σ1 := by
          intro P46 Q46 hP46 hE46_79 x4 σ1 hx4 eN1 h
          unfold fX12_week_l46 at h
          refine z_rng (fun hI12 hJ13 => ?_)
          refine z_iload C 4 dX12_week_46 rfl ?_
          refine z_aload_n C 0 dX12_week_48 rfl ?_
          refine z_gA T C li_X12_210 (sg_12 T) dX12_week_49 ?_
          refine z_iload_n C 3 dX12_week_52 rfl ?_
          obtain ⟨hb14, h⟩ := wpO_ck.mp h
          refine z_iav (v := gI σ1 1380 0 x3.toNat) C ar_1380 (sg_1380 T) hx3 hb14 rfl dX12_week_53 ?_
          refine z_icmp_gt C 79 hx4 (hI12 1380 0 _) dX12_week_54 (by decide) (fun q15 => ?_) (fun q15 => ?_)
          · have h := (wpO_ite.mp h).1 q15
            have h := wpO_some.mp h
            exact hE46_79 x4 σ1 h hx4 eN1
          · have h := (wpO_ite.mp h).2 q15
            refine z_aload_n C 0 dX12_week_57 rfl ?_
            refine z_cV (st := []) T C ct_X12_earnsMost lm_X12_478 lv_vX12_earnsMost dX12_week_58 [] rfl rfl rfl rfl rfl (sg_12 T) trivial (by decide) (Nat.le_of_ble_eq_true rfl) csOK_0 h (fun r16 σ18 hr17 eN19 h => ?_)
            have eN20 := eN19.trans eN1
            show Z κ (0, 0) _ 61 _ [vi r16] ad σ18
            refine z_rng (fun hI21 hJ22 => ?_)
            refine z_iload_n C 2 dX12_week_61 rfl ?_
            refine z_icmp_eq C 79 hr17 hx2 dX12_week_62 (by decide) (fun q23 => ?_) (fun q23 => ?_)
            · have h := (wpO_ite.mp h).1 q23
              have h := wpO_some.mp h
              exact hE46_79 x4 σ18 h hx4 eN20
            · have h := (wpO_ite.mp h).2 q23
              obtain ⟨hk24, h⟩ := wpO_ck.mp h
              refine z_iinc (lv2 := [(4, vi (x4 + 1)), (0, vo ad 12 (some 0)), (1, vi x1), (2, vi x2), (3, vi x3)]) C 4 dX12_week_65 rfl (by decide) rfl ?_
              refine z_aload_n C 1 dX12_week_68 rfl ?_
              refine z_gA T C li_X12_240 (sg_12 T) dX12_week_69 ?_
              refine z_iload_n C 4 dX12_week_72 rfl ?_
              refine z_iload C 0 dX12_week_73 rfl ?_
              obtain ⟨hb25, h⟩ := wpO_ck.mp h
              refine z_iastore C ar_1391 (sg_1391 T) hx3 hb25 hk24 dX12_week_75 ?_
              refine z_goto C 46 dX12_week_76 (by decide) ?_
              refine z_sub [1, 2, 3, 4, 0] rfl ?_
              have h := wpO_some.mp h
              exact hP46 (x4 + 1) (sI σ18 1391 0 x3.toNat (x4 + 1)) h hk24 eN20
        exact wh_ind (P := fun s : (Int × St) => inr s.1 → s.2.2.2.2 = σ.2.2.2 → Z κ (0, 0) (Qm κ ad σ enI okI X) 46 [(0, vo ad 12 (some 0)), (1, vi x1), (2, vi x2), (3, vi x3), (4, vi s.1)] [] ad s.2) (fun s hs g0 g1 => step _ _ (fun _ _ hp => hp) (fun x4 σ1 hq hx4 eN1 => J79 x3 x4 σ1 hx3 hx4 eN1 hq) s.1 s.2 g0 g1 hs) ((x4, σ1)) (wpO_bnk.mp h) hx4 eN1
      refine z_rng (fun hI26 hJ27 => ?_)
      refine z_iload_n C 3 dX12_week_25 rfl ?_
      refine z_iload_n C 1 dX12_week_26 rfl ?_
      refine z_icmp_gt C 109 hx3 hx1 dX12_week_27 (by decide) (fun q28 => ?_) (fun q28 => ?_)
      · have h := (wpO_ite.mp h).1 q28
        refine z_sub [0, 1] rfl ?_
        have h := wpO_some.mp h
        exact hE25_109 σ1 h eN1
      · have h := (wpO_ite.mp h).2 q28
        refine z_aload_n C 0 dX12_week_30 rfl ?_
        refine z_gA T C li_X12_207 (sg_12 T) dX12_week_31 ?_
        refine z_iload_n C 3 dX12_week_34 rfl ?_
        obtain ⟨hb29, h⟩ := wpO_ck.mp h
        refine z_iav (v := gI σ1 1379 0 x3.toNat) C ar_1379 (sg_1379 T) hx3 hb29 rfl dX12_week_35 ?_
        refine z_istore (lv2 := [(4, vi (gI σ1 1379 0 x3.toNat)), (0, vo ad 12 (some 0)), (1, vi x1), (2, vi x2), (3, vi x3)]) C dX12_week_36 (by decide) rfl ?_
        refine z_aload_n C 1 dX12_week_38 rfl ?_
        refine z_gA T C li_X12_240 (sg_12 T) dX12_week_39 ?_
        refine z_iload_n C 4 dX12_week_42 rfl ?_
        refine z_iload C 0 dX12_week_43 rfl ?_
        obtain ⟨hb30, h⟩ := wpO_ck.mp h
        refine z_iastore C ar_1391 (sg_1391 T) hx3 hb30 (hI26 1379 0 _) dX12_week_45 ?_
        refine z_sub [1, 2, 3, 4, 0] rfl ?_
        exact J46 x3 (gI σ1 1379 0 x3.toNat) (sI σ1 1391 0 x3.toNat (gI σ1 1379 0 x3.toNat)) hx3 (hI26 1379 0 _) eN1 h
    exact wh_ind (P := fun s : (Int × St) => inr s.1 → s.2.2.2.2 = σ.2.2.2 → Z κ (0, 0) (Qm κ ad σ enI okI X) 25 [(0, vo ad 12 (some 0)), (1, vi x1), (2, vi x2), (3, vi s.1)] [] ad s.2) (fun s hs g0 g1 => step _ _ (fun _ _ hp => hp) (fun σ1 hq eN1 => J109 x1 σ1 hx1 eN1 hq) s.1 s.2 g0 g1 hs) ((x3, σ1)) (wpO_bnk.mp h) hx3 eN1
  show Z κ (0, 0) (Qm κ ad σ enI okI X) 0 [(0, vo ad 12 (some 0)), (1, vi x1)] [] ad σ
  refine z_rng (fun hI31 hJ32 => ?_)
  refine z_iload_n C 1 dX12_week_0 rfl ?_
  refine z_i2l C hx1 dX12_week_1 ?_
  refine z_lconst (z := 0) C dX12_week_2 (by decide) ?_
  refine z_aload_n C 0 dX12_week_3 rfl ?_
  refine z_gIv (v := gI σ 1378 0 0) C li_X12_460 (sg_12 T) rfl dX12_week_4 ?_
  refine z_iconst C dX12_week_7 ?_
  obtain ⟨hk33, h⟩ := wpO_ck.mp h
  refine z_isub C dX12_week_8 ?_
  refine z_i2l C hk33 dX12_week_9 ?_
  refine z_cSp (st := []) T C (ct_X12_in x1 0 ((gI σ 1378 0 0) - 1) (inq_i hx1) (by decide) (inq_i hk33)) lm_X12_245 ls_X12_in dX12_week_10 rfl rfl trivial (by decide) (Nat.le_of_ble_eq_true rfl) csOK_0 h (fun r34 hr35 h => ?_)
  show Z κ (0, 0) _ 13 _ [vi r34] ad σ
  refine z_if_ne C 18 (inr_b hr35) dX12_week_13 (by decide) (fun q36 => ?_) (fun q36 => ?_)
  · have h := (wpO_ite.mp h).2 q36
    refine z_aload_n C 0 dX12_week_18 rfl ?_
    refine z_cV (st := []) T C ct_X12_freeAll lm_X12_481 lv_vX12_freeAll dX12_week_19 [] rfl rfl rfl rfl rfl (sg_12 T) trivial (by decide) (Nat.le_of_ble_eq_true rfl) csOK_0 h (fun r37 σ39 hr38 eN40 h => ?_)
    show Z κ (0, 0) _ 22 _ [vi r37] ad σ39
    refine z_rng (fun hI41 hJ42 => ?_)
    refine z_istore_n (lv2 := [(2, vi r37), (0, vo ad 12 (some 0)), (1, vi x1)]) C dX12_week_22 (by decide) rfl ?_
    refine z_iconst C dX12_week_23 ?_
    refine z_istore_n (lv2 := [(3, vi 0), (2, vi r37), (0, vo ad 12 (some 0)), (1, vi x1)]) C dX12_week_24 (by decide) rfl ?_
    refine z_sub [2, 3, 1, 0] rfl ?_
    exact J25 x1 r37 0 σ39 hx1 hr38 (by decide) eN40 h
  · have h := (wpO_ite.mp h).1 q36
    refine z_iconst C dX12_week_16 ?_
    have h := wpO_some.mp h
    exact z_ireturn T C dX12_week_17 (by decide) rfl h
noncomputable def fX12_where (x1 : Int) (x2 : Int) (σ : St) : Option Int :=
  bnk (fX12_isShot x1 σ) (fun r3 => if r3 = 0 then (some ((-1))) else (bnk (fX12_in x2 0 (gI σ 1300 0 0)) (fun r6 => if r6 = 0 then (some ((-2))) else (bnk (fX12_whereOf x1 x2 σ) (fun r9 => some r9)))))
set_option maxRecDepth 20000 in
set_option maxHeartbeats 4000000 in
theorem ct_X12_where (x1 : Int) (x2 : Int) (hx1 : inr x1) (hx2 : inr x2) : Ct yX12_where cX12_where 3 (some .int) 2 (fun ad => [vo ad 12 (some 0), vi x1, vi x2]) (pu (fX12_where x1 x2)) enI okI (fun _ => True) := by
  refine Ct.of (by decide) (fun ad => Nat.le_of_ble_eq_true rfl) ?_
  intro κ ad σ X C T hpre h
  have C : Cx κ RX12 cX12_where 3 (some .int) 2 := C
  have h := wpO_pu.mp h
  unfold fX12_where at h
  show Z κ (0, 0) (Qm κ ad σ enI okI X) 0 [(0, vo ad 12 (some 0)), (1, vi x1), (2, vi x2)] [] ad σ
  refine z_rng (fun hI1 hJ2 => ?_)
  refine z_aload_n C 0 dX12_where_0 rfl ?_
  refine z_iload_n C 1 dX12_where_1 rfl ?_
  refine z_cVp (st := []) T C (ct_X12_isShot x1 hx1) lm_X12_290 lv_vX12_isShot dX12_where_2 [vi x1] rfl rfl rfl rfl rfl (sg_12 T) trivial (by decide) (Nat.le_of_ble_eq_true rfl) csOK_0 h (fun r3 hr4 h => ?_)
  show Z κ (0, 0) _ 5 _ [vi r3] ad σ
  refine z_if_ne C 10 (inr_b hr4) dX12_where_5 (by decide) (fun q5 => ?_) (fun q5 => ?_)
  · have h := (wpO_ite.mp h).2 q5
    refine z_iload_n C 2 dX12_where_10 rfl ?_
    refine z_i2l C hx2 dX12_where_11 ?_
    refine z_lconst (z := 0) C dX12_where_12 (by decide) ?_
    refine z_aload_n C 0 dX12_where_13 rfl ?_
    refine z_gIv (v := gI σ 1300 0 0) C li_X12_255 (sg_12 T) rfl dX12_where_14 ?_
    refine z_i2l C (hI1 1300 0 _) dX12_where_17 ?_
    refine z_cSp (st := []) T C (ct_X12_in x2 0 (gI σ 1300 0 0) (inq_i hx2) (by decide) (inq_i (hI1 1300 0 _))) lm_X12_245 ls_X12_in dX12_where_18 rfl rfl trivial (by decide) (Nat.le_of_ble_eq_true rfl) csOK_0 h (fun r6 hr7 h => ?_)
    show Z κ (0, 0) _ 21 _ [vi r6] ad σ
    refine z_if_eq C 33 (inr_b hr7) dX12_where_21 (by decide) (fun q8 => ?_) (fun q8 => ?_)
    · have h := (wpO_ite.mp h).1 q8
      refine z_bipush C dX12_where_33 (by decide) ?_
      have h := wpO_some.mp h
      exact z_ireturn T C dX12_where_35 (by decide) rfl h
    · have h := (wpO_ite.mp h).2 q8
      refine z_aload_n C 0 dX12_where_24 rfl ?_
      refine z_iload_n C 1 dX12_where_25 rfl ?_
      refine z_iload_n C 2 dX12_where_26 rfl ?_
      refine z_cVp (st := []) T C (ct_X12_whereOf x1 x2 hx1 hx2) lm_X12_297 lv_vX12_whereOf dX12_where_27 [vi x1, vi x2] rfl rfl rfl rfl rfl (sg_12 T) trivial (by decide) (Nat.le_of_ble_eq_true rfl) csOK_0 h (fun r9 hr10 h => ?_)
      show Z κ (0, 0) _ 30 _ [vi r9] ad σ
      refine z_goto C 35 dX12_where_30 (by decide) ?_
      have h := wpO_some.mp h
      exact z_ireturn T C dX12_where_35 hr10 rfl h
  · have h := (wpO_ite.mp h).1 q5
    refine z_iconst C dX12_where_8 ?_
    have h := wpO_some.mp h
    exact z_ireturn T C dX12_where_9 (by decide) rfl h
noncomputable def fX7_tell (x0 : Nat) (x1 : Int) (σ : St) : Option (Unit × St) :=
  if gI σ 806 x0 0 = 0 then (some ((), sI σ 807 x0 0 x1)) else (some ((), sI (sI σ 807 x0 0 x1) 809 x0 0 x1))
set_option maxRecDepth 20000 in
set_option maxHeartbeats 4000000 in
theorem ct_X7_tell (x0 : Nat) (x1 : Int) (hx1 : inr x1) : Ct yX7_tell cX7_tell 2 none 0 (fun ad => [vo ad 7 (some x0), vi x1]) (fX7_tell x0 x1) enV okV (fun σ => x0 < gN σ 7) := by
  refine Ct.of (by decide) (fun ad => Nat.le_of_ble_eq_true rfl) ?_
  intro κ ad σ X C T hpre h
  have C : Cx κ RX7 cX7_tell 2 none 0 := C
  have hx0 : x0 < gN σ 7 := hpre
  unfold fX7_tell at h
  show Z κ (0, 0) (Qm κ ad σ enV okV X) 0 [(0, vo ad 7 (some x0)), (1, vi x1)] [] ad σ
  refine z_rng (fun hI1 hJ2 => ?_)
  refine z_aload_n C 0 dX7_tell_0 rfl ?_
  refine z_iload_n C 1 dX7_tell_1 rfl ?_
  refine z_pI C lq_X7_49 (nN rfl hx0) hx1 dX7_tell_2 ?_
  refine z_aload_n C 0 dX7_tell_5 rfl ?_
  refine z_gIv (v := gI σ 806 x0 0) C li_X7_46 (nN rfl hx0) (gn (by decide) rfl) dX7_tell_6 ?_
  refine z_if_eq C 17 (hI1 806 x0 _) dX7_tell_9 (by decide) (fun q3 => ?_) (fun q3 => ?_)
  · have h := (wpO_ite.mp h).1 q3
    have h := wpO_some.mp h
    exact z_return T C dX7_tell_17 rfl h
  · have h := (wpO_ite.mp h).2 q3
    refine z_aload_n C 0 dX7_tell_12 rfl ?_
    refine z_iload_n C 1 dX7_tell_13 rfl ?_
    refine z_pI C lq_X7_16 (nN rfl hx0) hx1 dX7_tell_14 ?_
    have h := wpO_some.mp h
    exact z_return T C dX7_tell_17 rfl h
noncomputable def fX9_isFull (σ : St) : Option Int :=
  if gI σ 1001 0 0 < 24 then (some 0) else (some 1)
set_option maxRecDepth 20000 in
set_option maxHeartbeats 4000000 in
theorem ct_X9_isFull  : Ct yX9_isFull cX9_isFull 1 (some .boolean) 0 (fun ad => [vo ad 9 (some 0)]) (pu (fX9_isFull)) enI okB (fun _ => True) := by
  refine Ct.of (by decide) (fun ad => Nat.le_of_ble_eq_true rfl) ?_
  intro κ ad σ X C T hpre h
  have C : Cx κ RX9 cX9_isFull 1 (some .boolean) 0 := C
  have h := wpO_pu.mp h
  unfold fX9_isFull at h
  show Z κ (0, 0) (Qm κ ad σ enI okB X) 0 [(0, vo ad 9 (some 0))] [] ad σ
  refine z_rng (fun hI1 hJ2 => ?_)
  refine z_aload_n C 0 dX9_isFull_0 rfl ?_
  refine z_gIv (v := gI σ 1001 0 0) C li_X9_21 (sg_9 T) rfl dX9_isFull_1 ?_
  refine z_bipush C dX9_isFull_4 (by decide) ?_
  refine z_icmp_lt C 13 (hI1 1001 0 _) (by decide) dX9_isFull_6 (by decide) (fun q3 => ?_) (fun q3 => ?_)
  · have h := (wpO_ite.mp h).1 q3
    refine z_iconst C dX9_isFull_13 ?_
    have h := wpO_some.mp h
    exact z_breturn T C dX9_isFull_14 (by decide) rfl h
  · have h := (wpO_ite.mp h).2 q3
    refine z_iconst C dX9_isFull_9 ?_
    refine z_goto C 14 dX9_isFull_10 (by decide) ?_
    have h := wpO_some.mp h
    exact z_breturn T C dX9_isFull_14 (by decide) rfl h
noncomputable def fX9_add (x1 : Nat) (σ : St) : Option (Int × St) :=
  bnk (fX9_isFull σ) (fun r3 => if r3 = 0 then (ck (0 ≤ gI σ 1001 0 0 ∧ gI σ 1001 0 0 < 24) (ck (inr ((gI σ 1001 0 0) + 1)) (ck (inr (((gI σ 1001 0 0) + 1) - 1)) (some (((gI σ 1001 0 0) + 1) - 1, sI (sP σ 1000 0 ((gI σ 1001 0 0).toNat) (some x1)) 1001 0 0 ((gI σ 1001 0 0) + 1)))))) else (some ((-4), σ)))
set_option maxRecDepth 20000 in
set_option maxHeartbeats 4000000 in
theorem ct_X9_add (x1 : Nat) : Ct yX9_add cX9_add 2 (some .int) 1 (fun ad => [vo ad 9 (some 0), vo ad 10 (some x1)]) (fX9_add x1) enI okI (fun σ => x1 < gN σ 10) := by
  refine Ct.of (by decide) (fun ad => Nat.le_of_ble_eq_true rfl) ?_
  intro κ ad σ X C T hpre h
  have C : Cx κ RX9 cX9_add 2 (some .int) 1 := C
  have hx1 : x1 < gN σ 10 := hpre
  unfold fX9_add at h
  show Z κ (0, 0) (Qm κ ad σ enI okI X) 0 [(0, vo ad 9 (some 0)), (1, vo ad 10 (some x1))] [] ad σ
  refine z_rng (fun hI1 hJ2 => ?_)
  refine z_aload_n C 0 dX9_add_0 rfl ?_
  refine z_cVp (st := []) T C ct_X9_isFull lm_X9_25 lv_vX9_isFull dX9_add_1 [] rfl rfl rfl rfl rfl (sg_9 T) trivial (by decide) (Nat.le_of_ble_eq_true rfl) csOK_0 h (fun r3 hr4 h => ?_)
  show Z κ (0, 0) _ 4 _ [vi r3] ad σ
  refine z_if_eq C 10 (inr_b hr4) dX9_add_4 (by decide) (fun q5 => ?_) (fun q5 => ?_)
  · have h := (wpO_ite.mp h).1 q5
    refine z_aload_n C 0 dX9_add_10 rfl ?_
    refine z_gA T C li_X9_11 (sg_9 T) dX9_add_11 ?_
    refine z_aload_n C 0 dX9_add_14 rfl ?_
    refine z_gIv (v := gI σ 1001 0 0) C li_X9_21 (sg_9 T) rfl dX9_add_15 ?_
    refine z_aload_n C 1 dX9_add_18 rfl ?_
    obtain ⟨hb6, h⟩ := wpO_ck.mp h
    refine z_aastore (K := 10) (t0 := 3) C ar_1000 (fun _ => rfl) ⟨_, _, rfl⟩ rfl (sg_1000 T) (hI1 1001 0 _) hb6 (fun _ q => by cases q; exact nNl rfl hx1) dX9_add_19 ?_
    refine z_aload_n C 0 dX9_add_20 rfl ?_
    refine z_dup C dX9_add_21 rfl ?_
    refine z_gIv (v := gI σ 1001 0 0) C li_X9_21 (sg_9 T) (gnP rfl) dX9_add_22 ?_
    refine z_iconst C dX9_add_25 ?_
    obtain ⟨hk7, h⟩ := wpO_ck.mp h
    refine z_iadd C dX9_add_26 ?_
    refine z_pI C lq_X9_21 (sg_9 T) hk7 dX9_add_27 ?_
    refine z_aload_n C 0 dX9_add_30 rfl ?_
    refine z_gIv (v := (gI σ 1001 0 0) + 1) C li_X9_21 (sg_9 T) gs dX9_add_31 ?_
    refine z_iconst C dX9_add_34 ?_
    obtain ⟨hk8, h⟩ := wpO_ck.mp h
    refine z_isub C dX9_add_35 ?_
    have h := wpO_some.mp h
    exact z_ireturn T C dX9_add_36 hk8 rfl h
  · have h := (wpO_ite.mp h).2 q5
    refine z_bipush C dX9_add_7 (by decide) ?_
    have h := wpO_some.mp h
    exact z_ireturn T C dX9_add_9 (by decide) rfl h
