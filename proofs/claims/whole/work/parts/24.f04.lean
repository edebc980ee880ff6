noncomputable def fX12_lieOf_j45 (σ : St) : Option Int :=
  some ((-9))
noncomputable def fX12_lieOf_j36 (x4 : Int) (σ : St) : Option Int :=
  some x4
noncomputable def fX12_lieOf_j39 (x1 : Int) (x2 : Int) (x3 : Int) (x4 : Int) (σ : St) : Option (Int ⊕ (Int ⊕ Unit)) :=
  ck (inr (x4 + 1)) (some (.inl (x4 + 1)))
noncomputable def fX12_lieOf_l3 (x1 : Int) (x2 : Int) (x3 : Int) (σ : St) (x4 : Int) : Option (Int ⊕ (Int ⊕ Unit)) :=
  if 8 ≤ x4 then (some (.inr (.inr (())))) else (ck (0 ≤ x1 ∧ x1 < 40) (if iand (ishr (gI σ 1315 0 x1.toNat) x4) 1 = 1 then (bnk (fX12_canBe x4 x2 x3 σ) (fun r13 => if r13 = 0 then (some (.inr (.inl x4))) else (fX12_lieOf_j39 x1 x2 x3 x4 σ))) else (fX12_lieOf_j39 x1 x2 x3 x4 σ)))
noncomputable def fX12_lieOf_j3 (x1 : Int) (x2 : Int) (x3 : Int) (x4 : Int) (σ : St) : Option Int :=
  bnk (wh (fun s => fX12_lieOf_l3 x1 x2 x3 σ s) x4) (fun e => Sum.elim (fun a0 => fX12_lieOf_j36 a0 σ) (fun b0 => fX12_lieOf_j45 σ) e)
noncomputable def fX12_lieOf (x1 : Int) (x2 : Int) (x3 : Int) (σ : St) : Option Int :=
  fX12_lieOf_j3 x1 x2 x3 0 σ
set_option maxRecDepth 20000 in
set_option maxHeartbeats 4000000 in
theorem ct_X12_lieOf (x1 : Int) (x2 : Int) (x3 : Int) (hx1 : inr x1) (hx2 : inr x2) (hx3 : inr x3) : Ct yX12_lieOf cX12_lieOf 5 (some .int) 2 (fun ad => [vo ad 12 (some 0), vi x1, vi x2, vi x3]) (pu (fX12_lieOf x1 x2 x3)) enI okI (fun _ => True) := by
  refine Ct.of (by decide) (fun ad => Nat.le_of_ble_eq_true rfl) ?_
  intro κ ad σ X C T hpre h
  have C : Cx κ RX12 cX12_lieOf 5 (some .int) 2 := C
  have h := wpO_pu.mp h
  unfold fX12_lieOf at h
  have J45 : wpO (fX12_lieOf_j45 σ) (fun r => X r σ) → Z κ (0, 0) (Qm κ ad σ enI okI X) 45 [] [] ad σ := by
    intro h
    unfold fX12_lieOf_j45 at h
    refine z_rng (fun hI1 hJ2 => ?_)
    refine z_bipush C dX12_lieOf_45 (by decide) ?_
    have h := wpO_some.mp h
    exact z_ireturn T C dX12_lieOf_47 (by decide) rfl h
  have J36 : ∀ (x4 : Int), inr x4 → wpO (fX12_lieOf_j36 x4 σ) (fun r => X r σ) → Z κ (0, 0) (Qm κ ad σ enI okI X) 36 [(4, vi x4)] [] ad σ := by
    intro x4 hx4 h
    unfold fX12_lieOf_j36 at h
    refine z_rng (fun hI3 hJ4 => ?_)
    refine z_iload C 0 dX12_lieOf_36 rfl ?_
    have h := wpO_some.mp h
    exact z_ireturn T C dX12_lieOf_38 hx4 rfl h
  have J3 : ∀ (x1 : Int) (x2 : Int) (x3 : Int) (x4 : Int), inr x1 → inr x2 → inr x3 → inr x4 → wpO (fX12_lieOf_j3 x1 x2 x3 x4 σ) (fun r => X r σ) → Z κ (0, 0) (Qm κ ad σ enI okI X) 3 [(0, vo ad 12 (some 0)), (1, vi x1), (2, vi x2), (3, vi x3), (4, vi x4)] [] ad σ := by
    intro x1 x2 x3 x4 hx1 hx2 hx3 hx4 h
    unfold fX12_lieOf_j3 at h
    have step : ∀ (P3 : Int → Prop) (Q3 : (Int ⊕ Unit) → Prop), (∀ (x4 : Int), P3 x4 → inr x4 → Z κ (0, 0) (Qm κ ad σ enI okI X) 3 [(0, vo ad 12 (some 0)), (1, vi x1), (2, vi x2), (3, vi x3), (4, vi x4)] [] ad σ) → (∀ (x4 : Int), Q3 (.inl x4) → inr x4 → Z κ (0, 0) (Qm κ ad σ enI okI X) 36 [(4, vi x4)] [] ad σ) → (Q3 (.inr (())) → Z κ (0, 0) (Qm κ ad σ enI okI X) 45 [] [] ad σ) → ∀ (x4 : Int), inr x4 → wpO (fX12_lieOf_l3 x1 x2 x3 σ x4) (onS P3 Q3) → Z κ (0, 0) (Qm κ ad σ enI okI X) 3 [(0, vo ad 12 (some 0)), (1, vi x1), (2, vi x2), (3, vi x3), (4, vi x4)] [] ad σ := by
      intro P3 Q3 hP3 hE3_36 hE3_45 x4 hx4 h
      unfold fX12_lieOf_l3 at h
      have J39 : ∀ (x4 : Int), inr x4 → wpO (fX12_lieOf_j39 x1 x2 x3 x4 σ) (onS P3 Q3) → Z κ (0, 0) (Qm κ ad σ enI okI X) 39 [(0, vo ad 12 (some 0)), (1, vi x1), (2, vi x2), (3, vi x3), (4, vi x4)] [] ad σ := by
        intro x4 hx4 h
        unfold fX12_lieOf_j39 at h
        refine z_rng (fun hI5 hJ6 => ?_)
        obtain ⟨hk7, h⟩ := wpO_ck.mp h
        refine z_iinc (lv2 := [(4, vi (x4 + 1)), (0, vo ad 12 (some 0)), (1, vi x1), (2, vi x2), (3, vi x3)]) C 4 dX12_lieOf_39 rfl (by decide) rfl ?_
        refine z_goto C 3 dX12_lieOf_42 (by decide) ?_
        refine z_sub [1, 2, 3, 4, 0] rfl ?_
        have h := wpO_some.mp h
        exact hP3 (x4 + 1) h hk7
      refine z_rng (fun hI8 hJ9 => ?_)
      refine z_iload C 4 dX12_lieOf_3 rfl ?_
      refine z_bipush C dX12_lieOf_5 (by decide) ?_
      refine z_icmp_ge C 45 hx4 (by decide) dX12_lieOf_7 (by decide) (fun q10 => ?_) (fun q10 => ?_)
      · have h := (wpO_ite.mp h).1 q10
        refine z_sub [] rfl ?_
        have h := wpO_some.mp h
        exact hE3_45 h
      · have h := (wpO_ite.mp h).2 q10
        refine z_aload_n C 0 dX12_lieOf_10 rfl ?_
        refine z_gA T C li_X12_47 (sg_12 T) dX12_lieOf_11 ?_
        refine z_iload_n C 1 dX12_lieOf_14 rfl ?_
        obtain ⟨hb11, h⟩ := wpO_ck.mp h
        refine z_iav (v := gI σ 1315 0 x1.toNat) C ar_1315 (sg_1315 T) hx1 hb11 rfl dX12_lieOf_15 ?_
        refine z_iload C 4 dX12_lieOf_16 rfl ?_
        refine z_ishr C dX12_lieOf_18 ?_
        refine z_iconst C dX12_lieOf_19 ?_
        refine z_iand C dX12_lieOf_20 ?_
        refine z_iconst C dX12_lieOf_21 ?_
        refine z_icmp_ne C 39 (inr_iand _ _) (by decide) dX12_lieOf_22 (by decide) (fun q12 => ?_) (fun q12 => ?_)
        · have h := (wpO_ite.mp h).2 q12
          exact J39 x4 hx4 h
        · have h := (wpO_ite.mp h).1 q12
          refine z_aload_n C 0 dX12_lieOf_25 rfl ?_
          refine z_iload C 4 dX12_lieOf_26 rfl ?_
          refine z_iload_n C 2 dX12_lieOf_28 rfl ?_
          refine z_iload_n C 3 dX12_lieOf_29 rfl ?_
          refine z_cVp (st := []) T C (ct_X12_canBe x4 x2 x3 hx4 hx2 hx3) lm_X12_303 lv_vX12_canBe dX12_lieOf_30 [vi x4, vi x2, vi x3] rfl rfl rfl rfl rfl (sg_12 T) trivial (by decide) (Nat.le_of_ble_eq_true rfl) csOK_0 h (fun r13 hr14 h => ?_)
          show Z κ (0, 0) _ 33 _ [vi r13] ad σ
          refine z_if_ne C 39 (inr_b hr14) dX12_lieOf_33 (by decide) (fun q15 => ?_) (fun q15 => ?_)
          · have h := (wpO_ite.mp h).2 q15
            exact J39 x4 hx4 h
          · have h := (wpO_ite.mp h).1 q15
            refine z_sub [4] rfl ?_
            have h := wpO_some.mp h
            exact hE3_36 x4 h hx4
    exact wh_ind (P := fun s : Int => inr s → Z κ (0, 0) (Qm κ ad σ enI okI X) 3 [(0, vo ad 12 (some 0)), (1, vi x1), (2, vi x2), (3, vi x3), (4, vi s)] [] ad σ) (fun s hs g0 => step _ _ (fun _ hp => hp) (fun x4 hq hx4 => J36 x4 hx4 hq) (fun hq => J45 hq) s g0 hs) x4 (wpO_bnk.mp h) hx4
  show Z κ (0, 0) (Qm κ ad σ enI okI X) 0 [(0, vo ad 12 (some 0)), (1, vi x1), (2, vi x2), (3, vi x3)] [] ad σ
  refine z_rng (fun hI16 hJ17 => ?_)
  refine z_iconst C dX12_lieOf_0 ?_
  refine z_istore (lv2 := [(4, vi 0), (0, vo ad 12 (some 0)), (1, vi x1), (2, vi x2), (3, vi x3)]) C dX12_lieOf_1 (by decide) rfl ?_
  refine z_sub [1, 2, 3, 4, 0] rfl ?_
  exact J3 x1 x2 x3 0 hx1 hx2 hx3 (by decide) h
noncomputable def fX12_manyOf_j142 (x3 : Int) (σ : St) : Option Int :=
  some x3
noncomputable def fX12_manyOf_j134 (x1 : Int) (x2 : Int) (x4 : Int) (s0 : Int) (s1 : Int) (σ : St) : Option ((Int × Int) ⊕ Int) :=
  ck (inr (s0 + s1)) (ck (inr (x4 + 1)) (some (.inl ((s0 + s1, x4 + 1)))))
noncomputable def fX12_manyOf_j121 (x1 : Int) (x2 : Int) (x3 : Int) (x4 : Int) (s0 : Int) (σ : St) : Option ((Int × Int) ⊕ Int) :=
  if s0 = 0 then (fX12_manyOf_j134 x1 x2 x4 x3 0 σ) else (fX12_manyOf_j134 x1 x2 x4 x3 1 σ)
noncomputable def fX12_manyOf_l5 (x1 : Int) (x2 : Int) (σ : St) (x3 : Int) (x4 : Int) : Option ((Int × Int) ⊕ Int) :=
  ck (0 ≤ x1 ∧ x1 < 8) (if gI σ 1331 0 x1.toNat ≤ x4 then (some (.inr x3)) else (ck (inr (6 * x1)) (ck (inr ((6 * x1) + x4)) (ck (0 ≤ (6 * x1) + x4 ∧ (6 * x1) + x4 < 48) (if x2 = 0 then (ck (0 ≤ x1 ∧ x1 < 8) (ck (0 ≤ gI σ 1332 0 (((6 * x1) + x4).toNat) ∧ gI σ 1332 0 (((6 * x1) + x4).toNat) < 40) (ck (inr ((idiv (gI σ 1329 0 x1.toNat) 24) - (idiv (gI σ 1312 0 ((gI σ 1332 0 (((6 * x1) + x4).toNat)).toNat)) 24))) (if (idiv (gI σ 1329 0 x1.toNat) 24) - (idiv (gI σ 1312 0 ((gI σ 1332 0 (((6 * x1) + x4).toNat)).toNat)) 24) ≤ gI σ 1335 0 0 then (fX12_manyOf_j121 x1 x2 x3 x4 0 σ) else (fX12_manyOf_j121 x1 x2 x3 x4 1 σ))))) else (if x2 = 1 then (ck (0 ≤ x1 ∧ x1 < 8) (ck (0 ≤ x1 ∧ x1 < 8) (bnk (fX12_lieOf (gI σ 1332 0 (((6 * x1) + x4).toNat)) (gI σ 1328 0 x1.toNat) (gI σ 1329 0 x1.toNat) σ) (fun r23 => if r23 = (-9) then (fX12_manyOf_j121 x1 x2 x3 x4 0 σ) else (fX12_manyOf_j121 x1 x2 x3 x4 1 σ))))) else (ck (0 ≤ gI σ 1332 0 (((6 * x1) + x4).toNat) ∧ gI σ 1332 0 (((6 * x1) + x4).toNat) < 40) (if gI σ 1316 0 ((gI σ 1332 0 (((6 * x1) + x4).toNat)).toNat) = 2 then (fX12_manyOf_j121 x1 x2 x3 x4 1 σ) else (fX12_manyOf_j121 x1 x2 x3 x4 0 σ)))))))))
noncomputable def fX12_manyOf_j5 (x1 : Int) (x2 : Int) (x3 : Int) (x4 : Int) (σ : St) : Option Int :=
  bnk (wh (fun s => fX12_manyOf_l5 x1 x2 σ s.1 s.2) ((x3, x4))) (fun e => fX12_manyOf_j142 e σ)
noncomputable def fX12_manyOf (x1 : Int) (x2 : Int) (σ : St) : Option Int :=
  fX12_manyOf_j5 x1 x2 0 0 σ
set_option maxRecDepth 20000 in
set_option maxHeartbeats 4000000 in
theorem ct_X12_manyOf (x1 : Int) (x2 : Int) (hx1 : inr x1) (hx2 : inr x2) : Ct yX12_manyOf cX12_manyOf 7 (some .int) 3 (fun ad => [vo ad 12 (some 0), vi x1, vi x2]) (pu (fX12_manyOf x1 x2)) enI okI (fun _ => True) := by
  refine Ct.of (by decide) (fun ad => Nat.le_of_ble_eq_true rfl) ?_
  intro κ ad σ X C T hpre h
  have C : Cx κ RX12 cX12_manyOf 7 (some .int) 3 := C
  have h := wpO_pu.mp h
  unfold fX12_manyOf at h
  have J142 : ∀ (x3 : Int), inr x3 → wpO (fX12_manyOf_j142 x3 σ) (fun r => X r σ) → Z κ (0, 0) (Qm κ ad σ enI okI X) 142 [(3, vi x3)] [] ad σ := by
    intro x3 hx3 h
    unfold fX12_manyOf_j142 at h
    refine z_rng (fun hI1 hJ2 => ?_)
    refine z_iload_n C 0 dX12_manyOf_142 rfl ?_
    have h := wpO_some.mp h
    exact z_ireturn T C dX12_manyOf_143 hx3 rfl h
  have J5 : ∀ (x1 : Int) (x2 : Int) (x3 : Int) (x4 : Int), inr x1 → inr x2 → inr x3 → inr x4 → wpO (fX12_manyOf_j5 x1 x2 x3 x4 σ) (fun r => X r σ) → Z κ (0, 0) (Qm κ ad σ enI okI X) 5 [(0, vo ad 12 (some 0)), (1, vi x1), (2, vi x2), (3, vi x3), (4, vi x4)] [] ad σ := by
    intro x1 x2 x3 x4 hx1 hx2 hx3 hx4 h
    unfold fX12_manyOf_j5 at h
    have step : ∀ (P5 : (Int × Int) → Prop) (Q5 : Int → Prop), (∀ (x3 : Int) (x4 : Int), P5 ((x3, x4)) → inr x3 → inr x4 → Z κ (0, 0) (Qm κ ad σ enI okI X) 5 [(0, vo ad 12 (some 0)), (1, vi x1), (2, vi x2), (3, vi x3), (4, vi x4)] [] ad σ) → (∀ (x3 : Int), Q5 (x3) → inr x3 → Z κ (0, 0) (Qm κ ad σ enI okI X) 142 [(3, vi x3)] [] ad σ) → ∀ (x3 : Int) (x4 : Int), inr x3 → inr x4 → wpO (fX12_manyOf_l5 x1 x2 σ x3 x4) (onS P5 Q5) → Z κ (0, 0) (Qm κ ad σ enI okI X) 5 [(0, vo ad 12 (some 0)), (1, vi x1), (2, vi x2), (3, vi x3), (4, vi x4)] [] ad σ := by
      intro P5 Q5 hP5 hE5_142 x3 x4 hx3 hx4 h
      unfold fX12_manyOf_l5 at h
      have J134 : ∀ (x4 : Int) (s0 : Int) (s1 : Int), inr x4 → inr s0 → inr s1 → wpO (fX12_manyOf_j134 x1 x2 x4 s0 s1 σ) (onS P5 Q5) → Z κ (0, 0) (Qm κ ad σ enI okI X) 134 [(0, vo ad 12 (some 0)), (1, vi x1), (2, vi x2), (4, vi x4)] [vi s1, vi s0] ad σ := by
        intro x4 s0 s1 hx4 hs0 hs1 h
        unfold fX12_manyOf_j134 at h
        refine z_rng (fun hI3 hJ4 => ?_)
        obtain ⟨hk5, h⟩ := wpO_ck.mp h
        refine z_iadd C dX12_manyOf_134 ?_
        refine z_istore_n (lv2 := [(3, vi (s0 + s1)), (0, vo ad 12 (some 0)), (1, vi x1), (2, vi x2), (4, vi x4)]) C dX12_manyOf_135 (by decide) rfl ?_
        obtain ⟨hk6, h⟩ := wpO_ck.mp h
        refine z_iinc (lv2 := [(4, vi (x4 + 1)), (3, vi (s0 + s1)), (0, vo ad 12 (some 0)), (1, vi x1), (2, vi x2)]) C 4 dX12_manyOf_136 rfl (by decide) rfl ?_
        refine z_goto C 5 dX12_manyOf_139 (by decide) ?_
        refine z_sub [2, 3, 4, 1, 0] rfl ?_
        have h := wpO_some.mp h
        exact hP5 (s0 + s1) (x4 + 1) h hk5 hk6
      have J121 : ∀ (x3 : Int) (x4 : Int) (s0 : Int), inr x3 → inr x4 → inr s0 → wpO (fX12_manyOf_j121 x1 x2 x3 x4 s0 σ) (onS P5 Q5) → Z κ (0, 0) (Qm κ ad σ enI okI X) 121 [(0, vo ad 12 (some 0)), (1, vi x1), (2, vi x2), (3, vi x3), (4, vi x4)] [vi s0] ad σ := by
        intro x3 x4 s0 hx3 hx4 hs0 h
        unfold fX12_manyOf_j121 at h
        refine z_rng (fun hI7 hJ8 => ?_)
        refine z_istore (lv2 := [(6, vi s0), (0, vo ad 12 (some 0)), (1, vi x1), (2, vi x2), (3, vi x3), (4, vi x4)]) C dX12_manyOf_121 (by decide) rfl ?_
        refine z_iload_n C 4 dX12_manyOf_123 rfl ?_
        refine z_iload C 0 dX12_manyOf_124 rfl ?_
        refine z_if_eq C 133 hs0 dX12_manyOf_126 (by decide) (fun q9 => ?_) (fun q9 => ?_)
        · have h := (wpO_ite.mp h).1 q9
          refine z_iconst C dX12_manyOf_133 ?_
          refine z_sub [1, 2, 3, 5] rfl ?_
          exact J134 x4 x3 0 hx4 hx3 (by decide) h
        · have h := (wpO_ite.mp h).2 q9
          refine z_iconst C dX12_manyOf_129 ?_
          refine z_goto C 134 dX12_manyOf_130 (by decide) ?_
          refine z_sub [1, 2, 3, 5] rfl ?_
          exact J134 x4 x3 1 hx4 hx3 (by decide) h
      refine z_rng (fun hI10 hJ11 => ?_)
      refine z_iload C 4 dX12_manyOf_5 rfl ?_
      refine z_aload_n C 0 dX12_manyOf_7 rfl ?_
      refine z_gA T C li_X12_92 (sg_12 T) dX12_manyOf_8 ?_
      refine z_iload_n C 1 dX12_manyOf_11 rfl ?_
      obtain ⟨hb12, h⟩ := wpO_ck.mp h
      refine z_iav (v := gI σ 1331 0 x1.toNat) C ar_1331 (sg_1331 T) hx1 hb12 rfl dX12_manyOf_12 ?_
      refine z_icmp_ge C 142 hx4 (hI10 1331 0 _) dX12_manyOf_13 (by decide) (fun q13 => ?_) (fun q13 => ?_)
      · have h := (wpO_ite.mp h).1 q13
        refine z_sub [3] rfl ?_
        have h := wpO_some.mp h
        exact hE5_142 x3 h hx3
      · have h := (wpO_ite.mp h).2 q13
        refine z_aload_n C 0 dX12_manyOf_16 rfl ?_
        refine z_gA T C li_X12_95 (sg_12 T) dX12_manyOf_17 ?_
        refine z_bipush C dX12_manyOf_20 (by decide) ?_
        refine z_iload_n C 1 dX12_manyOf_22 rfl ?_
        obtain ⟨hk14, h⟩ := wpO_ck.mp h
        refine z_imul C dX12_manyOf_23 ?_
        refine z_iload C 4 dX12_manyOf_24 rfl ?_
        obtain ⟨hk15, h⟩ := wpO_ck.mp h
        refine z_iadd C dX12_manyOf_26 ?_
        obtain ⟨hb16, h⟩ := wpO_ck.mp h
        refine z_iav (v := gI σ 1332 0 (((6 * x1) + x4).toNat)) C ar_1332 (sg_1332 T) hk15 hb16 rfl dX12_manyOf_27 ?_
        refine z_istore (lv2 := [(5, vi (gI σ 1332 0 (((6 * x1) + x4).toNat))), (0, vo ad 12 (some 0)), (1, vi x1), (2, vi x2), (3, vi x3), (4, vi x4)]) C dX12_manyOf_28 (by decide) rfl ?_
        refine z_iload_n C 3 dX12_manyOf_30 rfl ?_
        refine z_if_ne C 69 hx2 dX12_manyOf_31 (by decide) (fun q17 => ?_) (fun q17 => ?_)
        · have h := (wpO_ite.mp h).2 q17
          refine z_iload_n C 3 dX12_manyOf_69 rfl ?_
          refine z_iconst C dX12_manyOf_70 ?_
          refine z_icmp_ne C 105 hx2 (by decide) dX12_manyOf_71 (by decide) (fun q18 => ?_) (fun q18 => ?_)
          · have h := (wpO_ite.mp h).2 q18
            refine z_aload_n C 1 dX12_manyOf_105 rfl ?_
            refine z_gA T C li_X12_50 (sg_12 T) dX12_manyOf_106 ?_
            refine z_iload C 0 dX12_manyOf_109 rfl ?_
            obtain ⟨hb19, h⟩ := wpO_ck.mp h
            refine z_iav (v := gI σ 1316 0 ((gI σ 1332 0 (((6 * x1) + x4).toNat)).toNat)) C ar_1316 (sg_1316 T) (hI10 1332 0 _) hb19 rfl dX12_manyOf_111 ?_
            refine z_iconst C dX12_manyOf_112 ?_
            refine z_icmp_ne C 120 (hI10 1316 0 _) (by decide) dX12_manyOf_113 (by decide) (fun q20 => ?_) (fun q20 => ?_)
            · have h := (wpO_ite.mp h).2 q20
              refine z_iconst C dX12_manyOf_120 ?_
              refine z_sub [1, 2, 3, 4, 5] rfl ?_
              exact J121 x3 x4 0 hx3 hx4 (by decide) h
            · have h := (wpO_ite.mp h).1 q20
              refine z_iconst C dX12_manyOf_116 ?_
              refine z_goto C 121 dX12_manyOf_117 (by decide) ?_
              refine z_sub [1, 2, 3, 4, 5] rfl ?_
              exact J121 x3 x4 1 hx3 hx4 (by decide) h
          · have h := (wpO_ite.mp h).1 q18
            refine z_aload_n C 1 dX12_manyOf_74 rfl ?_
            refine z_iload C 0 dX12_manyOf_75 rfl ?_
            refine z_aload_n C 1 dX12_manyOf_77 rfl ?_
            refine z_gA T C li_X12_83 (sg_12 T) dX12_manyOf_78 ?_
            refine z_iload_n C 2 dX12_manyOf_81 rfl ?_
            obtain ⟨hb21, h⟩ := wpO_ck.mp h
            refine z_iav (v := gI σ 1328 0 x1.toNat) C ar_1328 (sg_1328 T) hx1 hb21 rfl dX12_manyOf_82 ?_
            refine z_aload_n C 1 dX12_manyOf_83 rfl ?_
            refine z_gA T C li_X12_86 (sg_12 T) dX12_manyOf_84 ?_
            refine z_iload_n C 2 dX12_manyOf_87 rfl ?_
            obtain ⟨hb22, h⟩ := wpO_ck.mp h
            refine z_iav (v := gI σ 1329 0 x1.toNat) C ar_1329 (sg_1329 T) hx1 hb22 rfl dX12_manyOf_88 ?_
            refine z_cVp (st := []) T C (ct_X12_lieOf (gI σ 1332 0 (((6 * x1) + x4).toNat)) (gI σ 1328 0 x1.toNat) (gI σ 1329 0 x1.toNat) (hI10 1332 0 _) (hI10 1328 0 _) (hI10 1329 0 _)) lm_X12_307 lv_vX12_lieOf dX12_manyOf_89 [vi (gI σ 1332 0 (((6 * x1) + x4).toNat)), vi (gI σ 1328 0 x1.toNat), vi (gI σ 1329 0 x1.toNat)] rfl rfl rfl rfl rfl (sg_12 T) trivial (by decide) (Nat.le_of_ble_eq_true rfl) csOK_0 h (fun r23 hr24 h => ?_)
            show Z κ (0, 0) _ 92 _ [vi r23] ad σ
            refine z_bipush C dX12_manyOf_92 (by decide) ?_
            refine z_icmp_eq C 101 hr24 (by decide) dX12_manyOf_94 (by decide) (fun q25 => ?_) (fun q25 => ?_)
            · have h := (wpO_ite.mp h).1 q25
              refine z_iconst C dX12_manyOf_101 ?_
              refine z_goto C 121 dX12_manyOf_102 (by decide) ?_
              refine z_sub [1, 2, 3, 4, 5] rfl ?_
              exact J121 x3 x4 0 hx3 hx4 (by decide) h
            · have h := (wpO_ite.mp h).2 q25
              refine z_iconst C dX12_manyOf_97 ?_
              refine z_goto C 121 dX12_manyOf_98 (by decide) ?_
              refine z_sub [1, 2, 3, 4, 5] rfl ?_
              exact J121 x3 x4 1 hx3 hx4 (by decide) h
        · have h := (wpO_ite.mp h).1 q17
          refine z_aload_n C 1 dX12_manyOf_34 rfl ?_
          refine z_gA T C li_X12_86 (sg_12 T) dX12_manyOf_35 ?_
          refine z_iload_n C 2 dX12_manyOf_38 rfl ?_
          obtain ⟨hb26, h⟩ := wpO_ck.mp h
          refine z_iav (v := gI σ 1329 0 x1.toNat) C ar_1329 (sg_1329 T) hx1 hb26 rfl dX12_manyOf_39 ?_
          refine z_bipush C dX12_manyOf_40 (by decide) ?_
          refine z_idiv C (by decide) (by decide) dX12_manyOf_42 ?_
          refine z_aload_n C 1 dX12_manyOf_43 rfl ?_
          refine z_gA T C li_X12_38 (sg_12 T) dX12_manyOf_44 ?_
          refine z_iload C 0 dX12_manyOf_47 rfl ?_
          obtain ⟨hb27, h⟩ := wpO_ck.mp h
          refine z_iav (v := gI σ 1312 0 ((gI σ 1332 0 (((6 * x1) + x4).toNat)).toNat)) C ar_1312 (sg_1312 T) (hI10 1332 0 _) hb27 rfl dX12_manyOf_49 ?_
          refine z_bipush C dX12_manyOf_50 (by decide) ?_
          refine z_idiv C (by decide) (by decide) dX12_manyOf_52 ?_
          obtain ⟨hk28, h⟩ := wpO_ck.mp h
          refine z_isub C dX12_manyOf_53 ?_
          refine z_aload_n C 1 dX12_manyOf_54 rfl ?_
          refine z_gIv (v := gI σ 1335 0 0) C li_X12_104 (sg_12 T) rfl dX12_manyOf_55 ?_
          refine z_icmp_le C 65 hk28 (hI10 1335 0 _) dX12_manyOf_58 (by decide) (fun q29 => ?_) (fun q29 => ?_)
          · have h := (wpO_ite.mp h).1 q29
            refine z_iconst C dX12_manyOf_65 ?_
            refine z_goto C 121 dX12_manyOf_66 (by decide) ?_
            refine z_sub [1, 2, 3, 4, 5] rfl ?_
            exact J121 x3 x4 0 hx3 hx4 (by decide) h
          · have h := (wpO_ite.mp h).2 q29
            refine z_iconst C dX12_manyOf_61 ?_
            refine z_goto C 121 dX12_manyOf_62 (by decide) ?_
            refine z_sub [1, 2, 3, 4, 5] rfl ?_
            exact J121 x3 x4 1 hx3 hx4 (by decide) h
    exact wh_ind (P := fun s : (Int × Int) => inr s.1 → inr s.2 → Z κ (0, 0) (Qm κ ad σ enI okI X) 5 [(0, vo ad 12 (some 0)), (1, vi x1), (2, vi x2), (3, vi s.1), (4, vi s.2)] [] ad σ) (fun s hs g0 g1 => step _ _ (fun _ _ hp => hp) (fun x3 hq hx3 => J142 x3 hx3 hq) s.1 s.2 g0 g1 hs) ((x3, x4)) (wpO_bnk.mp h) hx3 hx4
  show Z κ (0, 0) (Qm κ ad σ enI okI X) 0 [(0, vo ad 12 (some 0)), (1, vi x1), (2, vi x2)] [] ad σ
  refine z_rng (fun hI30 hJ31 => ?_)
  refine z_iconst C dX12_manyOf_0 ?_
  refine z_istore_n (lv2 := [(3, vi 0), (0, vo ad 12 (some 0)), (1, vi x1), (2, vi x2)]) C dX12_manyOf_1 (by decide) rfl ?_
  refine z_iconst C dX12_manyOf_2 ?_
  refine z_istore (lv2 := [(4, vi 0), (3, vi 0), (0, vo ad 12 (some 0)), (1, vi x1), (2, vi x2)]) C dX12_manyOf_3 (by decide) rfl ?_
  refine z_sub [2, 3, 4, 1, 0] rfl ?_
  exact J5 x1 x2 0 0 hx1 hx2 (by decide) (by decide) h
noncomputable def fX12_peek_j45 (x1 : Int) (σ1 : St) : Option (Int × St) :=
  ck (0 ≤ x1 ∧ x1 < 6) (if gI σ1 1340 0 x1.toNat ≤ gI σ1 1342 0 0 then (some (0, σ1)) else (ck (inr (80 * x1)) (ck (inr ((80 * x1) + (gI σ1 1342 0 0))) (ck (0 ≤ (80 * x1) + (gI σ1 1342 0 0) ∧ (80 * x1) + (gI σ1 1342 0 0) < 480) (some (gI σ1 1341 0 (((80 * x1) + (gI σ1 1342 0 0)).toNat), σ1))))))
noncomputable def fX12_peek_l0 (x1 : Int) (σ1 : St) : Option (St ⊕ St) :=
  ck (0 ≤ x1 ∧ x1 < 6) (if gI σ1 1340 0 x1.toNat ≤ gI σ1 1342 0 0 then (some (.inr σ1)) else (ck (inr (80 * x1)) (ck (inr ((80 * x1) + (gI σ1 1342 0 0))) (ck (0 ≤ (80 * x1) + (gI σ1 1342 0 0) ∧ (80 * x1) + (gI σ1 1342 0 0) < 480) (if gI σ1 1341 0 (((80 * x1) + (gI σ1 1342 0 0)).toNat) = 32 then (ck (inr ((gI σ1 1342 0 0) + 1)) (some (.inl (sI σ1 1342 0 0 ((gI σ1 1342 0 0) + 1))))) else (some (.inr σ1)))))))
noncomputable def fX12_peek_j0 (x1 : Int) (σ1 : St) : Option (Int × St) :=
  bnk (wh (fun s => fX12_peek_l0 x1 s) σ1) (fun e => fX12_peek_j45 x1 e)
noncomputable def fX12_peek (x1 : Int) (σ : St) : Option (Int × St) :=
  fX12_peek_j0 x1 σ
set_option maxRecDepth 20000 in
set_option maxHeartbeats 4000000 in
theorem ct_X12_peek (x1 : Int) (hx1 : inr x1) : Ct yX12_peek cX12_peek 2 (some .int) 0 (fun ad => [vo ad 12 (some 0), vi x1]) (fX12_peek x1) enI okI (fun _ => True) := by
  refine Ct.of (by decide) (fun ad => Nat.le_of_ble_eq_true rfl) ?_
  intro κ ad σ X C T hpre h
  have C : Cx κ RX12 cX12_peek 2 (some .int) 0 := C
  unfold fX12_peek at h
  have J45 : ∀ (x1 : Int) (σ1 : St), inr x1 → σ1.2.2.2 = σ.2.2.2 → wpO (fX12_peek_j45 x1 σ1) (fun q => X q.1 q.2) → Z κ (0, 0) (Qm κ ad σ enI okI X) 45 [(0, vo ad 12 (some 0)), (1, vi x1)] [] ad σ1 := by
    intro x1 σ1 hx1 eN1 h
    unfold fX12_peek_j45 at h
    refine z_rng (fun hI1 hJ2 => ?_)
    refine z_aload_n C 0 dX12_peek_45 rfl ?_
    refine z_gIv (v := gI σ1 1342 0 0) C li_X12_345 (sg_12 T) rfl dX12_peek_46 ?_
    refine z_aload_n C 0 dX12_peek_49 rfl ?_
    refine z_gA T C li_X12_117 (sg_12 T) dX12_peek_50 ?_
    refine z_iload_n C 1 dX12_peek_53 rfl ?_
    obtain ⟨hb3, h⟩ := wpO_ck.mp h
    refine z_iav (v := gI σ1 1340 0 x1.toNat) C ar_1340 (sg_1340 T) hx1 hb3 rfl dX12_peek_54 ?_
    refine z_icmp_ge C 75 (hI1 1342 0 _) (hI1 1340 0 _) dX12_peek_55 (by decide) (fun q4 => ?_) (fun q4 => ?_)
    · have h := (wpO_ite.mp h).1 q4
      refine z_iconst C dX12_peek_75 ?_
      have h := wpO_some.mp h
      exact z_ireturn T C dX12_peek_76 (by decide) eN1 h
    · have h := (wpO_ite.mp h).2 q4
      refine z_aload_n C 0 dX12_peek_58 rfl ?_
      refine z_gA T C li_X12_120 (sg_12 T) dX12_peek_59 ?_
      refine z_bipush C dX12_peek_62 (by decide) ?_
      refine z_iload_n C 1 dX12_peek_64 rfl ?_
      obtain ⟨hk5, h⟩ := wpO_ck.mp h
      refine z_imul C dX12_peek_65 ?_
      refine z_aload_n C 0 dX12_peek_66 rfl ?_
      refine z_gIv (v := gI σ1 1342 0 0) C li_X12_345 (sg_12 T) rfl dX12_peek_67 ?_
      obtain ⟨hk6, h⟩ := wpO_ck.mp h
      refine z_iadd C dX12_peek_70 ?_
      obtain ⟨hb7, h⟩ := wpO_ck.mp h
      refine z_iav (v := gI σ1 1341 0 (((80 * x1) + (gI σ1 1342 0 0)).toNat)) C ar_1341 (sg_1341 T) hk6 hb7 rfl dX12_peek_71 ?_
      refine z_goto C 76 dX12_peek_72 (by decide) ?_
      have h := wpO_some.mp h
      exact z_ireturn T C dX12_peek_76 (hI1 1341 0 _) eN1 h
  have J0 : ∀ (x1 : Int) (σ1 : St), inr x1 → σ1.2.2.2 = σ.2.2.2 → wpO (fX12_peek_j0 x1 σ1) (fun q => X q.1 q.2) → Z κ (0, 0) (Qm κ ad σ enI okI X) 0 [(0, vo ad 12 (some 0)), (1, vi x1)] [] ad σ1 := by
    intro x1 σ1 hx1 eN1 h
    unfold fX12_peek_j0 at h
    have step : ∀ (P0 : St → Prop) (Q0 : St → Prop), (∀  (σ1 : St), P0 σ1 → σ1.2.2.2 = σ.2.2.2 → Z κ (0, 0) (Qm κ ad σ enI okI X) 0 [(0, vo ad 12 (some 0)), (1, vi x1)] [] ad σ1) → (∀ (σ1 : St), Q0 (σ1) → σ1.2.2.2 = σ.2.2.2 → Z κ (0, 0) (Qm κ ad σ enI okI X) 45 [(0, vo ad 12 (some 0)), (1, vi x1)] [] ad σ1) → ∀  (σ1 : St), σ1.2.2.2 = σ.2.2.2 → wpO (fX12_peek_l0 x1 σ1) (onS P0 Q0) → Z κ (0, 0) (Qm κ ad σ enI okI X) 0 [(0, vo ad 12 (some 0)), (1, vi x1)] [] ad σ1 := by
      intro P0 Q0 hP0 hE0_45 σ1 eN1 h
      unfold fX12_peek_l0 at h
      refine z_rng (fun hI8 hJ9 => ?_)
      refine z_aload_n C 0 dX12_peek_0 rfl ?_
      refine z_gIv (v := gI σ1 1342 0 0) C li_X12_345 (sg_12 T) rfl dX12_peek_1 ?_
      refine z_aload_n C 0 dX12_peek_4 rfl ?_
      refine z_gA T C li_X12_117 (sg_12 T) dX12_peek_5 ?_
      refine z_iload_n C 1 dX12_peek_8 rfl ?_
      obtain ⟨hb10, h⟩ := wpO_ck.mp h
      refine z_iav (v := gI σ1 1340 0 x1.toNat) C ar_1340 (sg_1340 T) hx1 hb10 rfl dX12_peek_9 ?_
      refine z_icmp_ge C 45 (hI8 1342 0 _) (hI8 1340 0 _) dX12_peek_10 (by decide) (fun q11 => ?_) (fun q11 => ?_)
      · have h := (wpO_ite.mp h).1 q11
        have h := wpO_some.mp h
        exact hE0_45 σ1 h eN1
      · have h := (wpO_ite.mp h).2 q11
        refine z_aload_n C 0 dX12_peek_13 rfl ?_
        refine z_gA T C li_X12_120 (sg_12 T) dX12_peek_14 ?_
        refine z_bipush C dX12_peek_17 (by decide) ?_
        refine z_iload_n C 1 dX12_peek_19 rfl ?_
        obtain ⟨hk12, h⟩ := wpO_ck.mp h
        refine z_imul C dX12_peek_20 ?_
        refine z_aload_n C 0 dX12_peek_21 rfl ?_
        refine z_gIv (v := gI σ1 1342 0 0) C li_X12_345 (sg_12 T) rfl dX12_peek_22 ?_
        obtain ⟨hk13, h⟩ := wpO_ck.mp h
        refine z_iadd C dX12_peek_25 ?_
        obtain ⟨hb14, h⟩ := wpO_ck.mp h
        refine z_iav (v := gI σ1 1341 0 (((80 * x1) + (gI σ1 1342 0 0)).toNat)) C ar_1341 (sg_1341 T) hk13 hb14 rfl dX12_peek_26 ?_
        refine z_bipush C dX12_peek_27 (by decide) ?_
        refine z_icmp_ne C 45 (hI8 1341 0 _) (by decide) dX12_peek_29 (by decide) (fun q15 => ?_) (fun q15 => ?_)
        · have h := (wpO_ite.mp h).2 q15
          have h := wpO_some.mp h
          exact hE0_45 σ1 h eN1
        · have h := (wpO_ite.mp h).1 q15
          refine z_aload_n C 0 dX12_peek_32 rfl ?_
          refine z_dup C dX12_peek_33 rfl ?_
          refine z_gIv (v := gI σ1 1342 0 0) C li_X12_345 (sg_12 T) rfl dX12_peek_34 ?_
          refine z_iconst C dX12_peek_37 ?_
          obtain ⟨hk16, h⟩ := wpO_ck.mp h
          refine z_iadd C dX12_peek_38 ?_
          refine z_pI C lq_X12_345 (sg_12 T) hk16 dX12_peek_39 ?_
          refine z_goto C 0 dX12_peek_42 (by decide) ?_
          have h := wpO_some.mp h
          exact hP0 (sI σ1 1342 0 0 ((gI σ1 1342 0 0) + 1)) h eN1
    exact wh_ind (P := fun s : St => s.2.2.2 = σ.2.2.2 → Z κ (0, 0) (Qm κ ad σ enI okI X) 0 [(0, vo ad 12 (some 0)), (1, vi x1)] [] ad s) (fun s hs g0 => step _ _ (fun _ hp => hp) (fun σ1 hq eN1 => J45 x1 σ1 hx1 eN1 hq) s g0 hs) σ1 (wpO_bnk.mp h) eN1
  show Z κ (0, 0) (Qm κ ad σ enI okI X) 0 [(0, vo ad 12 (some 0)), (1, vi x1)] [] ad σ
  refine z_rng (fun hI17 hJ18 => ?_)
  exact J0 x1 σ hx1 rfl h
noncomputable def fX12_push (x1 : Int) (σ : St) : Option (Unit × St) :=
  ck (0 ≤ gI σ 1343 0 0 ∧ gI σ 1343 0 0 < 84) (ck (inr ((gI σ 1343 0 0) + 1)) (ck (inr ((gI σ 1342 0 0) + 1)) (some ((), sI (sI (sI σ 1344 0 ((gI σ 1343 0 0).toNat) x1) 1343 0 0 ((gI σ 1343 0 0) + 1)) 1342 0 0 ((gI σ 1342 0 0) + 1)))))
set_option maxRecDepth 20000 in
set_option maxHeartbeats 4000000 in
theorem ct_X12_push (x1 : Int) (hx1 : inr x1) : Ct yX12_push cX12_push 2 none 0 (fun ad => [vo ad 12 (some 0), vi x1]) (fX12_push x1) enV okV (fun _ => True) := by
  refine Ct.of (by decide) (fun ad => Nat.le_of_ble_eq_true rfl) ?_
  intro κ ad σ X C T hpre h
  have C : Cx κ RX12 cX12_push 2 none 0 := C
  unfold fX12_push at h
  show Z κ (0, 0) (Qm κ ad σ enV okV X) 0 [(0, vo ad 12 (some 0)), (1, vi x1)] [] ad σ
  refine z_rng (fun hI1 hJ2 => ?_)
  refine z_aload_n C 0 dX12_push_0 rfl ?_
  refine z_gA T C li_X12_123 (sg_12 T) dX12_push_1 ?_
  refine z_aload_n C 0 dX12_push_4 rfl ?_
  refine z_gIv (v := gI σ 1343 0 0) C li_X12_365 (sg_12 T) rfl dX12_push_5 ?_
  refine z_iload_n C 1 dX12_push_8 rfl ?_
  obtain ⟨hb3, h⟩ := wpO_ck.mp h
  refine z_iastore C ar_1344 (sg_1344 T) (hI1 1343 0 _) hb3 hx1 dX12_push_9 ?_
  refine z_aload_n C 0 dX12_push_10 rfl ?_
  refine z_dup C dX12_push_11 rfl ?_
  refine z_gIv (v := gI σ 1343 0 0) C li_X12_365 (sg_12 T) (gn (by decide) rfl) dX12_push_12 ?_
  refine z_iconst C dX12_push_15 ?_
  obtain ⟨hk4, h⟩ := wpO_ck.mp h
  refine z_iadd C dX12_push_16 ?_
  refine z_pI C lq_X12_365 (sg_12 T) hk4 dX12_push_17 ?_
  refine z_aload_n C 0 dX12_push_20 rfl ?_
  refine z_dup C dX12_push_21 rfl ?_
  refine z_gIv (v := gI σ 1342 0 0) C li_X12_345 (sg_12 T) (gn (by decide) (gn (by decide) rfl)) dX12_push_22 ?_
  refine z_iconst C dX12_push_25 ?_
  obtain ⟨hk5, h⟩ := wpO_ck.mp h
  refine z_iadd C dX12_push_26 ?_
  refine z_pI C lq_X12_345 (sg_12 T) hk5 dX12_push_27 ?_
  have h := wpO_some.mp h
  exact z_return T C dX12_push_30 rfl h
noncomputable def fX12_letterValue (x0 : Int) : Option Int :=
  if x0 = 102 then (some 3) else (if x0 = 107 then (some 7) else (if x0 = 108 then (some 2) else (if x0 = 111 then (some 4) else (if x0 = 112 then (some 1) else (if x0 = 115 then (some 0) else (if x0 = 117 then (some 5) else (if x0 = 120 then (some 6) else (some ((-9))))))))))
set_option maxRecDepth 20000 in
set_option maxHeartbeats 4000000 in
theorem ct_X12_letterValue (x0 : Int) (hx0 : inr x0) : Ct yX12_letterValue cX12_letterValue 1 (some .int) 0 (fun ad => [vi x0]) (pu (fun _ => fX12_letterValue x0)) enI okI (fun _ => True) := by
  refine Ct.of (by decide) (fun ad => Nat.le_of_ble_eq_true rfl) ?_
  intro κ ad σ X C T hpre h
  have C : Cx κ RX12 cX12_letterValue 1 (some .int) 0 := C
  have h := wpO_pu.mp h
  unfold fX12_letterValue at h
  show Z κ (0, 0) (Qm κ ad σ enI okI X) 0 [(0, vi x0)] [] ad σ
  refine z_iload_n C 0 dX12_letterValue_0 rfl ?_
  by_cases q1 : x0 = 102
  · have h := (wpO_ite.mp h).1 q1
    refine z_tableIn (off := 97) C 98 hx0 dX12_letterValue_1 (by omega) (by omega) (by rw [q1]; rfl) (by decide) ?_
    refine z_iconst C dX12_letterValue_98 ?_
    have h := wpO_some.mp h
    exact z_ireturn T C dX12_letterValue_99 (by decide) rfl h
  have h := (wpO_ite.mp h).2 q1
  by_cases q2 : x0 = 107
  · have h := (wpO_ite.mp h).1 q2
    refine z_tableIn (off := 106) C 107 hx0 dX12_letterValue_1 (by omega) (by omega) (by rw [q2]; rfl) (by decide) ?_
    refine z_bipush C dX12_letterValue_107 (by decide) ?_
    have h := wpO_some.mp h
    exact z_ireturn T C dX12_letterValue_109 (by decide) rfl h
  have h := (wpO_ite.mp h).2 q2
  by_cases q3 : x0 = 108
  · have h := (wpO_ite.mp h).1 q3
    refine z_tableIn (off := 95) C 96 hx0 dX12_letterValue_1 (by omega) (by omega) (by rw [q3]; rfl) (by decide) ?_
    refine z_iconst C dX12_letterValue_96 ?_
    have h := wpO_some.mp h
    exact z_ireturn T C dX12_letterValue_97 (by decide) rfl h
  have h := (wpO_ite.mp h).2 q3
  by_cases q4 : x0 = 111
  · have h := (wpO_ite.mp h).1 q4
    refine z_tableIn (off := 99) C 100 hx0 dX12_letterValue_1 (by omega) (by omega) (by rw [q4]; rfl) (by decide) ?_
    refine z_iconst C dX12_letterValue_100 ?_
    have h := wpO_some.mp h
    exact z_ireturn T C dX12_letterValue_101 (by decide) rfl h
  have h := (wpO_ite.mp h).2 q4
  by_cases q5 : x0 = 112
  · have h := (wpO_ite.mp h).1 q5
    refine z_tableIn (off := 93) C 94 hx0 dX12_letterValue_1 (by omega) (by omega) (by rw [q5]; rfl) (by decide) ?_
    refine z_iconst C dX12_letterValue_94 ?_
    have h := wpO_some.mp h
    exact z_ireturn T C dX12_letterValue_95 (by decide) rfl h
  have h := (wpO_ite.mp h).2 q5
  by_cases q6 : x0 = 115
  · have h := (wpO_ite.mp h).1 q6
    refine z_tableIn (off := 91) C 92 hx0 dX12_letterValue_1 (by omega) (by omega) (by rw [q6]; rfl) (by decide) ?_
    refine z_iconst C dX12_letterValue_92 ?_
    have h := wpO_some.mp h
    exact z_ireturn T C dX12_letterValue_93 (by decide) rfl h
  have h := (wpO_ite.mp h).2 q6
  by_cases q7 : x0 = 117
  · have h := (wpO_ite.mp h).1 q7
    refine z_tableIn (off := 101) C 102 hx0 dX12_letterValue_1 (by omega) (by omega) (by rw [q7]; rfl) (by decide) ?_
    refine z_iconst C dX12_letterValue_102 ?_
    have h := wpO_some.mp h
    exact z_ireturn T C dX12_letterValue_103 (by decide) rfl h
  have h := (wpO_ite.mp h).2 q7
  by_cases q8 : x0 = 120
  · have h := (wpO_ite.mp h).1 q8
    refine z_tableIn (off := 103) C 104 hx0 dX12_letterValue_1 (by omega) (by omega) (by rw [q8]; rfl) (by decide) ?_
    refine z_bipush C dX12_letterValue_104 (by decide) ?_
    have h := wpO_some.mp h
    exact z_ireturn T C dX12_letterValue_106 (by decide) rfl h
  have h := (wpO_ite.mp h).2 q8
  by_cases q10 : x0 = 103
  · refine z_tableIn (off := 109) C 110 hx0 dX12_letterValue_1 (by omega) (by omega) (by rw [q10]; rfl) (by decide) ?_
    refine z_bipush C dX12_letterValue_110 (by decide) ?_
    have h := wpO_some.mp h
    exact z_ireturn T C dX12_letterValue_112 (by decide) rfl h
  by_cases q11 : x0 = 104
  · refine z_tableIn (off := 109) C 110 hx0 dX12_letterValue_1 (by omega) (by omega) (by rw [q11]; rfl) (by decide) ?_
    refine z_bipush C dX12_letterValue_110 (by decide) ?_
    have h := wpO_some.mp h
    exact z_ireturn T C dX12_letterValue_112 (by decide) rfl h
  by_cases q12 : x0 = 105
  · refine z_tableIn (off := 109) C 110 hx0 dX12_letterValue_1 (by omega) (by omega) (by rw [q12]; rfl) (by decide) ?_
    refine z_bipush C dX12_letterValue_110 (by decide) ?_
    have h := wpO_some.mp h
    exact z_ireturn T C dX12_letterValue_112 (by decide) rfl h
  by_cases q13 : x0 = 106
  · refine z_tableIn (off := 109) C 110 hx0 dX12_letterValue_1 (by omega) (by omega) (by rw [q13]; rfl) (by decide) ?_
    refine z_bipush C dX12_letterValue_110 (by decide) ?_
    have h := wpO_some.mp h
    exact z_ireturn T C dX12_letterValue_112 (by decide) rfl h
  by_cases q14 : x0 = 109
  · refine z_tableIn (off := 109) C 110 hx0 dX12_letterValue_1 (by omega) (by omega) (by rw [q14]; rfl) (by decide) ?_
    refine z_bipush C dX12_letterValue_110 (by decide) ?_
    have h := wpO_some.mp h
    exact z_ireturn T C dX12_letterValue_112 (by decide) rfl h
  by_cases q15 : x0 = 110
  · refine z_tableIn (off := 109) C 110 hx0 dX12_letterValue_1 (by omega) (by omega) (by rw [q15]; rfl) (by decide) ?_
    refine z_bipush C dX12_letterValue_110 (by decide) ?_
    have h := wpO_some.mp h
    exact z_ireturn T C dX12_letterValue_112 (by decide) rfl h
  by_cases q16 : x0 = 113
  · refine z_tableIn (off := 109) C 110 hx0 dX12_letterValue_1 (by omega) (by omega) (by rw [q16]; rfl) (by decide) ?_
    refine z_bipush C dX12_letterValue_110 (by decide) ?_
    have h := wpO_some.mp h
    exact z_ireturn T C dX12_letterValue_112 (by decide) rfl h
  by_cases q17 : x0 = 114
  · refine z_tableIn (off := 109) C 110 hx0 dX12_letterValue_1 (by omega) (by omega) (by rw [q17]; rfl) (by decide) ?_
    refine z_bipush C dX12_letterValue_110 (by decide) ?_
    have h := wpO_some.mp h
    exact z_ireturn T C dX12_letterValue_112 (by decide) rfl h
  by_cases q18 : x0 = 116
  · refine z_tableIn (off := 109) C 110 hx0 dX12_letterValue_1 (by omega) (by omega) (by rw [q18]; rfl) (by decide) ?_
    refine z_bipush C dX12_letterValue_110 (by decide) ?_
    have h := wpO_some.mp h
    exact z_ireturn T C dX12_letterValue_112 (by decide) rfl h
  by_cases q19 : x0 = 118
  · refine z_tableIn (off := 109) C 110 hx0 dX12_letterValue_1 (by omega) (by omega) (by rw [q19]; rfl) (by decide) ?_
    refine z_bipush C dX12_letterValue_110 (by decide) ?_
    have h := wpO_some.mp h
    exact z_ireturn T C dX12_letterValue_112 (by decide) rfl h
  by_cases q20 : x0 = 119
  · refine z_tableIn (off := 109) C 110 hx0 dX12_letterValue_1 (by omega) (by omega) (by rw [q20]; rfl) (by decide) ?_
    refine z_bipush C dX12_letterValue_110 (by decide) ?_
    have h := wpO_some.mp h
    exact z_ireturn T C dX12_letterValue_112 (by decide) rfl h
  refine z_tableOut C 110 hx0 dX12_letterValue_1 (by omega) (by decide) ?_
  refine z_bipush C dX12_letterValue_110 (by decide) ?_
  have h := wpO_some.mp h
  exact z_ireturn T C dX12_letterValue_112 (by decide) rfl h
noncomputable def fX12_takeAsking_j246 (s1 : Int) (s2 : Int) (σ1 : St) : Option (Int × St) :=
  ck (0 ≤ s1 ∧ s1 < 84) (ck (s2 = 0 ∨ s2 = 1) (ck (inr ((gI σ1 1345 0 0) + 1)) (some (1, sI (sI σ1 1346 0 s1.toNat s2) 1345 0 0 ((gI σ1 1345 0 0) + 1)))))
noncomputable def fX12_takeAsking_j172 (x2 : Int) (x3 : Int) (x4 : Int) (σ1 : St) : Option (Int × St) :=
  if x3 = 60 then (ck (0 ≤ x2 ∧ x2 < 8) (if x4 ≤ gI σ1 1347 0 x2.toNat then (fX12_takeAsking_j246 (gI σ1 1345 0 0) 0 σ1) else (fX12_takeAsking_j246 (gI σ1 1345 0 0) 1 σ1))) else (if x3 = 61 then (ck (0 ≤ x2 ∧ x2 < 8) (if gI σ1 1347 0 x2.toNat = x4 then (fX12_takeAsking_j246 (gI σ1 1345 0 0) 1 σ1) else (fX12_takeAsking_j246 (gI σ1 1345 0 0) 0 σ1))) else (ck (0 ≤ x2 ∧ x2 < 8) (if gI σ1 1347 0 x2.toNat ≤ x4 then (fX12_takeAsking_j246 (gI σ1 1345 0 0) 0 σ1) else (fX12_takeAsking_j246 (gI σ1 1345 0 0) 1 σ1))))
noncomputable def fX12_takeAsking_l85 (x1 : Int) (x2 : Int) (x3 : Int) (x4 : Int) (x5 : Int) (σ1 : St) : Option ((Int × Int × St) ⊕ (Int × St)) :=
  if 4 ≤ x5 then (some (.inr ((x4, σ1)))) else (ck (0 ≤ x1 ∧ x1 < 6) (if gI σ1 1340 0 x1.toNat ≤ gI σ1 1342 0 0 then (some (.inr ((x4, σ1)))) else (ck (inr (80 * x1)) (ck (inr ((80 * x1) + (gI σ1 1342 0 0))) (ck (0 ≤ (80 * x1) + (gI σ1 1342 0 0) ∧ (80 * x1) + (gI σ1 1342 0 0) < 480) (bnk (fX12_in (gI σ1 1341 0 (((80 * x1) + (gI σ1 1342 0 0)).toNat)) 48 57) (fun r24 => if r24 = 0 then (some (.inr ((x4, σ1)))) else (ck (inr (10 * x4)) (ck (inr (80 * x1)) (ck (inr ((80 * x1) + (gI σ1 1342 0 0))) (ck (0 ≤ (80 * x1) + (gI σ1 1342 0 0) ∧ (80 * x1) + (gI σ1 1342 0 0) < 480) (ck (inr ((10 * x4) + (gI σ1 1341 0 (((80 * x1) + (gI σ1 1342 0 0)).toNat)))) (ck (inr (((10 * x4) + (gI σ1 1341 0 (((80 * x1) + (gI σ1 1342 0 0)).toNat))) - 48)) (ck (inr ((gI σ1 1342 0 0) + 1)) (ck (inr (x5 + 1)) (some (.inl ((((10 * x4) + (gI σ1 1341 0 (((80 * x1) + (gI σ1 1342 0 0)).toNat))) - 48, x5 + 1, sI σ1 1342 0 0 ((gI σ1 1342 0 0) + 1))))))))))))))))))))
noncomputable def fX12_takeAsking_j85 (x1 : Int) (x2 : Int) (x3 : Int) (x4 : Int) (x5 : Int) (σ1 : St) : Option (Int × St) :=
  bnk (wh (fun s => fX12_takeAsking_l85 x1 x2 x3 s.1 s.2.1 s.2.2) ((x4, x5, σ1))) (fun e => fX12_takeAsking_j172 x2 x3 e.1 e.2)
noncomputable def fX12_takeAsking (x1 : Int) (σ : St) : Option (Int × St) :=
  bnd (fX12_peek x1 σ) (fun r37 σ39 => bnk (fX12_letterValue r37) (fun r43 => if r43 = (-9) then (some (0, σ39)) else (ck (inr ((gI σ39 1342 0 0) + 1)) (bnd (fX12_peek x1 (sI σ39 1342 0 0 ((gI σ39 1342 0 0) + 1))) (fun r47 σ49 => bnk (fX12_in r47 60 62) (fun r54 => if r54 = 0 then (some (0, σ49)) else (ck (inr ((gI σ49 1342 0 0) + 1)) (bnd (fX12_peek x1 (sI σ49 1342 0 0 ((gI σ49 1342 0 0) + 1))) (fun r58 σ60 => bnk (fX12_in r58 48 57) (fun r65 => if r65 = 0 then (some (0, σ60)) else (fX12_takeAsking_j85 x1 r43 r47 0 0 σ60)))))))))))
set_option maxRecDepth 20000 in
set_option maxHeartbeats 4000000 in
theorem ct_X12_takeAsking (x1 : Int) (hx1 : inr x1) : Ct yX12_takeAsking cX12_takeAsking 6 (some .boolean) 1 (fun ad => [vo ad 12 (some 0), vi x1]) (fX12_takeAsking x1) enI okB (fun _ => True) := by
  refine Ct.of (by decide) (fun ad => Nat.le_of_ble_eq_true rfl) ?_
  intro κ ad σ X C T hpre h
  have C : Cx κ RX12 cX12_takeAsking 6 (some .boolean) 1 := C
  unfold fX12_takeAsking at h
  have J246 : ∀ (s1 : Int) (s2 : Int) (σ1 : St), inr s1 → inr s2 → σ1.2.2.2 = σ.2.2.2 → wpO (fX12_takeAsking_j246 s1 s2 σ1) (fun q => X q.1 q.2) → Z κ (0, 0) (Qm κ ad σ enI okB X) 246 [(0, vo ad 12 (some 0))] [vi s2, vi s1, vo ad 1346 (some 0)] ad σ1 := by
    intro s1 s2 σ1 hs1 hs2 eN1 h
    unfold fX12_takeAsking_j246 at h
    refine z_rng (fun hI1 hJ2 => ?_)
    obtain ⟨hb3, h⟩ := wpO_ck.mp h
    obtain ⟨hb4, h⟩ := wpO_ck.mp h
    refine z_bastore C ar_1346 (sg_1346 T) hs1 hb3 hs2 hb4 dX12_takeAsking_246 ?_
    refine z_aload_n C 0 dX12_takeAsking_247 rfl ?_
    refine z_dup C dX12_takeAsking_248 rfl ?_
    refine z_gIv (v := gI σ1 1345 0 0) C li_X12_362 (sg_12 T) (gn (by decide) rfl) dX12_takeAsking_249 ?_
    refine z_iconst C dX12_takeAsking_252 ?_
    obtain ⟨hk5, h⟩ := wpO_ck.mp h
    refine z_iadd C dX12_takeAsking_253 ?_
    refine z_pI C lq_X12_362 (sg_12 T) hk5 dX12_takeAsking_254 ?_
    refine z_iconst C dX12_takeAsking_257 ?_
    have h := wpO_some.mp h
    exact z_breturn T C dX12_takeAsking_258 (by decide) eN1 h
  have J172 : ∀ (x2 : Int) (x3 : Int) (x4 : Int) (σ1 : St), inr x2 → inr x3 → inr x4 → σ1.2.2.2 = σ.2.2.2 → wpO (fX12_takeAsking_j172 x2 x3 x4 σ1) (fun q => X q.1 q.2) → Z κ (0, 0) (Qm κ ad σ enI okB X) 172 [(0, vo ad 12 (some 0)), (2, vi x2), (3, vi x3), (4, vi x4)] [] ad σ1 := by
    intro x2 x3 x4 σ1 hx2 hx3 hx4 eN1 h
    unfold fX12_takeAsking_j172 at h
    refine z_rng (fun hI6 hJ7 => ?_)
    refine z_aload_n C 0 dX12_takeAsking_172 rfl ?_
    refine z_gA T C li_X12_126 (sg_12 T) dX12_takeAsking_173 ?_
    refine z_aload_n C 0 dX12_takeAsking_176 rfl ?_
    refine z_gIv (v := gI σ1 1345 0 0) C li_X12_362 (sg_12 T) rfl dX12_takeAsking_177 ?_
    refine z_iload_n C 2 dX12_takeAsking_180 rfl ?_
    refine z_bipush C dX12_takeAsking_181 (by decide) ?_
    refine z_icmp_ne C 205 hx3 (by decide) dX12_takeAsking_183 (by decide) (fun q8 => ?_) (fun q8 => ?_)
    · have h := (wpO_ite.mp h).2 q8
      refine z_iload_n C 2 dX12_takeAsking_205 rfl ?_
      refine z_bipush C dX12_takeAsking_206 (by decide) ?_
      refine z_icmp_ne C 230 hx3 (by decide) dX12_takeAsking_208 (by decide) (fun q9 => ?_) (fun q9 => ?_)
      · have h := (wpO_ite.mp h).2 q9
        refine z_aload_n C 0 dX12_takeAsking_230 rfl ?_
        refine z_gA T C li_X12_129 (sg_12 T) dX12_takeAsking_231 ?_
        refine z_iload_n C 1 dX12_takeAsking_234 rfl ?_
        obtain ⟨hb10, h⟩ := wpO_ck.mp h
        refine z_iav (v := gI σ1 1347 0 x2.toNat) C ar_1347 (sg_1347 T) hx2 hb10 rfl dX12_takeAsking_235 ?_
        refine z_iload C 3 dX12_takeAsking_236 rfl ?_
        refine z_icmp_le C 245 (hI6 1347 0 _) hx4 dX12_takeAsking_238 (by decide) (fun q11 => ?_) (fun q11 => ?_)
        · have h := (wpO_ite.mp h).1 q11
          refine z_iconst C dX12_takeAsking_245 ?_
          refine z_sub [0] rfl ?_
          exact J246 (gI σ1 1345 0 0) 0 σ1 (hI6 1345 0 _) (by decide) eN1 h
        · have h := (wpO_ite.mp h).2 q11
          refine z_iconst C dX12_takeAsking_241 ?_
          refine z_goto C 246 dX12_takeAsking_242 (by decide) ?_
          refine z_sub [0] rfl ?_
          exact J246 (gI σ1 1345 0 0) 1 σ1 (hI6 1345 0 _) (by decide) eN1 h
      · have h := (wpO_ite.mp h).1 q9
        refine z_aload_n C 0 dX12_takeAsking_211 rfl ?_
        refine z_gA T C li_X12_129 (sg_12 T) dX12_takeAsking_212 ?_
        refine z_iload_n C 1 dX12_takeAsking_215 rfl ?_
        obtain ⟨hb12, h⟩ := wpO_ck.mp h
        refine z_iav (v := gI σ1 1347 0 x2.toNat) C ar_1347 (sg_1347 T) hx2 hb12 rfl dX12_takeAsking_216 ?_
        refine z_iload C 3 dX12_takeAsking_217 rfl ?_
        refine z_icmp_ne C 226 (hI6 1347 0 _) hx4 dX12_takeAsking_219 (by decide) (fun q13 => ?_) (fun q13 => ?_)
        · have h := (wpO_ite.mp h).2 q13
          refine z_iconst C dX12_takeAsking_226 ?_
          refine z_goto C 246 dX12_takeAsking_227 (by decide) ?_
          refine z_sub [0] rfl ?_
          exact J246 (gI σ1 1345 0 0) 0 σ1 (hI6 1345 0 _) (by decide) eN1 h
        · have h := (wpO_ite.mp h).1 q13
          refine z_iconst C dX12_takeAsking_222 ?_
          refine z_goto C 246 dX12_takeAsking_223 (by decide) ?_
          refine z_sub [0] rfl ?_
          exact J246 (gI σ1 1345 0 0) 1 σ1 (hI6 1345 0 _) (by decide) eN1 h
    · have h := (wpO_ite.mp h).1 q8
      refine z_aload_n C 0 dX12_takeAsking_186 rfl ?_
      refine z_gA T C li_X12_129 (sg_12 T) dX12_takeAsking_187 ?_
      refine z_iload_n C 1 dX12_takeAsking_190 rfl ?_
      obtain ⟨hb14, h⟩ := wpO_ck.mp h
      refine z_iav (v := gI σ1 1347 0 x2.toNat) C ar_1347 (sg_1347 T) hx2 hb14 rfl dX12_takeAsking_191 ?_
      refine z_iload C 3 dX12_takeAsking_192 rfl ?_
      refine z_icmp_ge C 201 (hI6 1347 0 _) hx4 dX12_takeAsking_194 (by decide) (fun q15 => ?_) (fun q15 => ?_)
      · have h := (wpO_ite.mp h).1 q15
        refine z_iconst C dX12_takeAsking_201 ?_
        refine z_goto C 246 dX12_takeAsking_202 (by decide) ?_
        refine z_sub [0] rfl ?_
        exact J246 (gI σ1 1345 0 0) 0 σ1 (hI6 1345 0 _) (by decide) eN1 h
      · have h := (wpO_ite.mp h).2 q15
        refine z_iconst C dX12_takeAsking_197 ?_
        refine z_goto C 246 dX12_takeAsking_198 (by decide) ?_
        refine z_sub [0] rfl ?_
        exact J246 (gI σ1 1345 0 0) 1 σ1 (hI6 1345 0 _) (by decide) eN1 h
  have J85 : ∀ (x1 : Int) (x2 : Int) (x3 : Int) (x4 : Int) (x5 : Int) (σ1 : St), inr x1 → inr x2 → inr x3 → inr x4 → inr x5 → σ1.2.2.2 = σ.2.2.2 → wpO (fX12_takeAsking_j85 x1 x2 x3 x4 x5 σ1) (fun q => X q.1 q.2) → Z κ (0, 0) (Qm κ ad σ enI okB X) 85 [(0, vo ad 12 (some 0)), (1, vi x1), (2, vi x2), (3, vi x3), (4, vi x4), (5, vi x5)] [] ad σ1 := by
    intro x1 x2 x3 x4 x5 σ1 hx1 hx2 hx3 hx4 hx5 eN1 h
    unfold fX12_takeAsking_j85 at h
    have step : ∀ (P85 : (Int × Int × St) → Prop) (Q85 : (Int × St) → Prop), (∀ (x4 : Int) (x5 : Int) (σ1 : St), P85 ((x4, x5, σ1)) → inr x4 → inr x5 → σ1.2.2.2 = σ.2.2.2 → Z κ (0, 0) (Qm κ ad σ enI okB X) 85 [(0, vo ad 12 (some 0)), (1, vi x1), (2, vi x2), (3, vi x3), (4, vi x4), (5, vi x5)] [] ad σ1) → (∀ (x4 : Int) (σ1 : St), Q85 ((x4, σ1)) → inr x4 → σ1.2.2.2 = σ.2.2.2 → Z κ (0, 0) (Qm κ ad σ enI okB X) 172 [(0, vo ad 12 (some 0)), (2, vi x2), (3, vi x3), (4, vi x4)] [] ad σ1) → ∀ (x4 : Int) (x5 : Int) (σ1 : St), inr x4 → inr x5 → σ1.2.2.2 = σ.2.2.2 → wpO (fX12_takeAsking_l85 x1 x2 x3 x4 x5 σ1) (onS P85 Q85) → Z κ (0, 0) (Qm κ ad σ enI okB X) 85 [(0, vo ad 12 (some 0)), (1, vi x1), (2, vi x2), (3, vi x3), (4, vi x4), (5, vi x5)] [] ad σ1 := by
      intro P85 Q85 hP85 hE85_172 x4 x5 σ1 hx4 hx5 eN1 h
      unfold fX12_takeAsking_l85 at h
      refine z_rng (fun hI16 hJ17 => ?_)
      refine z_iload C 5 dX12_takeAsking_85 rfl ?_
      refine z_iconst C dX12_takeAsking_87 ?_
      refine z_icmp_ge C 172 hx5 (by decide) dX12_takeAsking_88 (by decide) (fun q18 => ?_) (fun q18 => ?_)
      · have h := (wpO_ite.mp h).1 q18
        refine z_sub [0, 2, 3, 4] rfl ?_
        have h := wpO_some.mp h
        exact hE85_172 x4 σ1 h hx4 eN1
      · have h := (wpO_ite.mp h).2 q18
        refine z_aload_n C 0 dX12_takeAsking_91 rfl ?_
        refine z_gIv (v := gI σ1 1342 0 0) C li_X12_345 (sg_12 T) rfl dX12_takeAsking_92 ?_
        refine z_aload_n C 0 dX12_takeAsking_95 rfl ?_
        refine z_gA T C li_X12_117 (sg_12 T) dX12_takeAsking_96 ?_
        refine z_iload_n C 1 dX12_takeAsking_99 rfl ?_
        obtain ⟨hb19, h⟩ := wpO_ck.mp h
        refine z_iav (v := gI σ1 1340 0 x1.toNat) C ar_1340 (sg_1340 T) hx1 hb19 rfl dX12_takeAsking_100 ?_
        refine z_icmp_ge C 172 (hI16 1342 0 _) (hI16 1340 0 _) dX12_takeAsking_101 (by decide) (fun q20 => ?_) (fun q20 => ?_)
        · have h := (wpO_ite.mp h).1 q20
          refine z_sub [0, 2, 3, 4] rfl ?_
          have h := wpO_some.mp h
          exact hE85_172 x4 σ1 h hx4 eN1
        · have h := (wpO_ite.mp h).2 q20
          refine z_aload_n C 0 dX12_takeAsking_104 rfl ?_
          refine z_gA T C li_X12_120 (sg_12 T) dX12_takeAsking_105 ?_
          refine z_bipush C dX12_takeAsking_108 (by decide) ?_
          refine z_iload_n C 1 dX12_takeAsking_110 rfl ?_
          obtain ⟨hk21, h⟩ := wpO_ck.mp h
          refine z_imul C dX12_takeAsking_111 ?_
          refine z_aload_n C 0 dX12_takeAsking_112 rfl ?_
          refine z_gIv (v := gI σ1 1342 0 0) C li_X12_345 (sg_12 T) rfl dX12_takeAsking_113 ?_
          obtain ⟨hk22, h⟩ := wpO_ck.mp h
          refine z_iadd C dX12_takeAsking_116 ?_
          obtain ⟨hb23, h⟩ := wpO_ck.mp h
          refine z_iav (v := gI σ1 1341 0 (((80 * x1) + (gI σ1 1342 0 0)).toNat)) C ar_1341 (sg_1341 T) hk22 hb23 rfl dX12_takeAsking_117 ?_
          refine z_i2l C (hI16 1341 0 _) dX12_takeAsking_118 ?_
          refine z_ldc2_w C lc_X12_358 dX12_takeAsking_119 ?_
          refine z_ldc2_w C lc_X12_360 dX12_takeAsking_122 ?_
          refine z_cSp (st := []) T C (ct_X12_in (gI σ1 1341 0 (((80 * x1) + (gI σ1 1342 0 0)).toNat)) 48 57 (inq_i (hI16 1341 0 _)) (by decide) (by decide)) lm_X12_245 ls_X12_in dX12_takeAsking_125 rfl rfl trivial (by decide) (Nat.le_of_ble_eq_true rfl) csOK_0 h (fun r24 hr25 h => ?_)
          show Z κ (0, 0) _ 128 _ [vi r24] ad σ1
          refine z_if_eq C 172 (inr_b hr25) dX12_takeAsking_128 (by decide) (fun q26 => ?_) (fun q26 => ?_)
          · have h := (wpO_ite.mp h).1 q26
            refine z_sub [0, 2, 3, 4] rfl ?_
            have h := wpO_some.mp h
            exact hE85_172 x4 σ1 h hx4 eN1
          · have h := (wpO_ite.mp h).2 q26
            refine z_bipush C dX12_takeAsking_131 (by decide) ?_
            refine z_iload C 4 dX12_takeAsking_133 rfl ?_
            obtain ⟨hk27, h⟩ := wpO_ck.mp h
            refine z_imul C dX12_takeAsking_135 ?_
            refine z_aload_n C 0 dX12_takeAsking_136 rfl ?_
            refine z_gA T C li_X12_120 (sg_12 T) dX12_takeAsking_137 ?_
            refine z_bipush C dX12_takeAsking_140 (by decide) ?_
            refine z_iload_n C 1 dX12_takeAsking_142 rfl ?_
            obtain ⟨hk28, h⟩ := wpO_ck.mp h
            refine z_imul C dX12_takeAsking_143 ?_
            refine z_aload_n C 0 dX12_takeAsking_144 rfl ?_
            refine z_gIv (v := gI σ1 1342 0 0) C li_X12_345 (sg_12 T) rfl dX12_takeAsking_145 ?_
            obtain ⟨hk29, h⟩ := wpO_ck.mp h
            refine z_iadd C dX12_takeAsking_148 ?_
            obtain ⟨hb30, h⟩ := wpO_ck.mp h
            refine z_iav (v := gI σ1 1341 0 (((80 * x1) + (gI σ1 1342 0 0)).toNat)) C ar_1341 (sg_1341 T) hk29 hb30 rfl dX12_takeAsking_149 ?_
            obtain ⟨hk31, h⟩ := wpO_ck.mp h
            refine z_iadd C dX12_takeAsking_150 ?_
            refine z_bipush C dX12_takeAsking_151 (by decide) ?_
            obtain ⟨hk32, h⟩ := wpO_ck.mp h
            refine z_isub C dX12_takeAsking_153 ?_
            refine z_istore (lv2 := [(4, vi (((10 * x4) + (gI σ1 1341 0 (((80 * x1) + (gI σ1 1342 0 0)).toNat))) - 48)), (0, vo ad 12 (some 0)), (1, vi x1), (2, vi x2), (3, vi x3), (5, vi x5)]) C dX12_takeAsking_154 (by decide) rfl ?_
            refine z_aload_n C 1 dX12_takeAsking_156 rfl ?_
            refine z_dup C dX12_takeAsking_157 rfl ?_
            refine z_gIv (v := gI σ1 1342 0 0) C li_X12_345 (sg_12 T) rfl dX12_takeAsking_158 ?_
            refine z_iconst C dX12_takeAsking_161 ?_
            obtain ⟨hk33, h⟩ := wpO_ck.mp h
            refine z_iadd C dX12_takeAsking_162 ?_
            refine z_pI C lq_X12_345 (sg_12 T) hk33 dX12_takeAsking_163 ?_
            obtain ⟨hk34, h⟩ := wpO_ck.mp h
            refine z_iinc (lv2 := [(5, vi (x5 + 1)), (4, vi (((10 * x4) + (gI σ1 1341 0 (((80 * x1) + (gI σ1 1342 0 0)).toNat))) - 48)), (0, vo ad 12 (some 0)), (1, vi x1), (2, vi x2), (3, vi x3)]) C 5 dX12_takeAsking_166 rfl (by decide) rfl ?_
            refine z_goto C 85 dX12_takeAsking_169 (by decide) ?_
            refine z_sub [2, 3, 4, 5, 1, 0] rfl ?_
            have h := wpO_some.mp h
            exact hP85 (((10 * x4) + (gI σ1 1341 0 (((80 * x1) + (gI σ1 1342 0 0)).toNat))) - 48) (x5 + 1) (sI σ1 1342 0 0 ((gI σ1 1342 0 0) + 1)) h hk32 hk34 eN1
    exact wh_ind (P := fun s : (Int × Int × St) => inr s.1 → inr s.2.1 → s.2.2.2.2.2 = σ.2.2.2 → Z κ (0, 0) (Qm κ ad σ enI okB X) 85 [(0, vo ad 12 (some 0)), (1, vi x1), (2, vi x2), (3, vi x3), (4, vi s.1), (5, vi s.2.1)] [] ad s.2.2) (fun s hs g0 g1 g2 => step _ _ (fun _ _ _ hp => hp) (fun x4 σ1 hq hx4 eN1 => J172 x2 x3 x4 σ1 hx2 hx3 hx4 eN1 hq) s.1 s.2.1 s.2.2 g0 g1 g2 hs) ((x4, x5, σ1)) (wpO_bnk.mp h) hx4 hx5 eN1
  show Z κ (0, 0) (Qm κ ad σ enI okB X) 0 [(0, vo ad 12 (some 0)), (1, vi x1)] [] ad σ
  refine z_rng (fun hI35 hJ36 => ?_)
  refine z_aload_n C 0 dX12_takeAsking_0 rfl ?_
  refine z_iload_n C 1 dX12_takeAsking_1 rfl ?_
  refine z_cV (st := []) T C (ct_X12_peek x1 hx1) lm_X12_348 lv_vX12_peek dX12_takeAsking_2 [vi x1] rfl rfl rfl rfl rfl (sg_12 T) trivial (by decide) (Nat.le_of_ble_eq_true rfl) csOK_0 h (fun r37 σ39 hr38 eN40 h => ?_)
  show Z κ (0, 0) _ 5 _ [vi r37] ad σ39
  refine z_rng (fun hI41 hJ42 => ?_)
  refine z_cSp (st := []) T C (ct_X12_letterValue r37 hr38) lm_X12_351 ls_X12_letterValue dX12_takeAsking_5 rfl rfl trivial (by decide) (Nat.le_of_ble_eq_true rfl) csOK_0 h (fun r43 hr44 h => ?_)
  show Z κ (0, 0) _ 8 _ [vi r43] ad σ39
  refine z_istore_n (lv2 := [(2, vi r43), (0, vo ad 12 (some 0)), (1, vi x1)]) C dX12_takeAsking_8 (by decide) rfl ?_
  refine z_iload_n C 0 dX12_takeAsking_9 rfl ?_
  refine z_bipush C dX12_takeAsking_10 (by decide) ?_
  refine z_icmp_ne C 17 hr44 (by decide) dX12_takeAsking_12 (by decide) (fun q45 => ?_) (fun q45 => ?_)
  · have h := (wpO_ite.mp h).2 q45
    refine z_aload_n C 1 dX12_takeAsking_17 rfl ?_
    refine z_dup C dX12_takeAsking_18 rfl ?_
    refine z_gIv (v := gI σ39 1342 0 0) C li_X12_345 (sg_12 T) rfl dX12_takeAsking_19 ?_
    refine z_iconst C dX12_takeAsking_22 ?_
    obtain ⟨hk46, h⟩ := wpO_ck.mp h
    refine z_iadd C dX12_takeAsking_23 ?_
    refine z_pI C lq_X12_345 (sg_12 T) hk46 dX12_takeAsking_24 ?_
    refine z_aload_n C 1 dX12_takeAsking_27 rfl ?_
    refine z_iload_n C 2 dX12_takeAsking_28 rfl ?_
    refine z_cV (st := []) T C (ct_X12_peek x1 hx1) lm_X12_348 lv_vX12_peek dX12_takeAsking_29 [vi x1] rfl rfl rfl rfl rfl (sg_12 T) trivial (by decide) (Nat.le_of_ble_eq_true rfl) csOK_0 h (fun r47 σ49 hr48 eN50 h => ?_)
    have eN51 := eN50.trans eN40
    show Z κ (0, 0) _ 32 _ [vi r47] ad σ49
    refine z_rng (fun hI52 hJ53 => ?_)
    refine z_istore_n (lv2 := [(3, vi r47), (2, vi r43), (0, vo ad 12 (some 0)), (1, vi x1)]) C dX12_takeAsking_32 (by decide) rfl ?_
    refine z_iload_n C 0 dX12_takeAsking_33 rfl ?_
    refine z_i2l C hr48 dX12_takeAsking_34 ?_
    refine z_ldc2_w C lc_X12_354 dX12_takeAsking_35 ?_
    refine z_ldc2_w C lc_X12_356 dX12_takeAsking_38 ?_
    refine z_cSp (st := []) T C (ct_X12_in r47 60 62 (inq_i hr48) (by decide) (by decide)) lm_X12_245 ls_X12_in dX12_takeAsking_41 rfl rfl trivial (by decide) (Nat.le_of_ble_eq_true rfl) csOK_0 h (fun r54 hr55 h => ?_)
    show Z κ (0, 0) _ 44 _ [vi r54] ad σ49
    refine z_if_ne C 49 (inr_b hr55) dX12_takeAsking_44 (by decide) (fun q56 => ?_) (fun q56 => ?_)
    · have h := (wpO_ite.mp h).2 q56
      refine z_aload_n C 2 dX12_takeAsking_49 rfl ?_
      refine z_dup C dX12_takeAsking_50 rfl ?_
      refine z_gIv (v := gI σ49 1342 0 0) C li_X12_345 (sg_12 T) rfl dX12_takeAsking_51 ?_
      refine z_iconst C dX12_takeAsking_54 ?_
      obtain ⟨hk57, h⟩ := wpO_ck.mp h
      refine z_iadd C dX12_takeAsking_55 ?_
      refine z_pI C lq_X12_345 (sg_12 T) hk57 dX12_takeAsking_56 ?_
      refine z_aload_n C 2 dX12_takeAsking_59 rfl ?_
      refine z_iload_n C 3 dX12_takeAsking_60 rfl ?_
      refine z_cV (st := []) T C (ct_X12_peek x1 hx1) lm_X12_348 lv_vX12_peek dX12_takeAsking_61 [vi x1] rfl rfl rfl rfl rfl (sg_12 T) trivial (by decide) (Nat.le_of_ble_eq_true rfl) csOK_0 h (fun r58 σ60 hr59 eN61 h => ?_)
      have eN62 := eN61.trans eN51
      show Z κ (0, 0) _ 64 _ [vi r58] ad σ60
      refine z_rng (fun hI63 hJ64 => ?_)
      refine z_i2l C hr59 dX12_takeAsking_64 ?_
      refine z_ldc2_w C lc_X12_358 dX12_takeAsking_65 ?_
      refine z_ldc2_w C lc_X12_360 dX12_takeAsking_68 ?_
      refine z_cSp (st := []) T C (ct_X12_in r58 48 57 (inq_i hr59) (by decide) (by decide)) lm_X12_245 ls_X12_in dX12_takeAsking_71 rfl rfl trivial (by decide) (Nat.le_of_ble_eq_true rfl) csOK_0 h (fun r65 hr66 h => ?_)
      show Z κ (0, 0) _ 74 _ [vi r65] ad σ60
      refine z_if_ne C 79 (inr_b hr66) dX12_takeAsking_74 (by decide) (fun q67 => ?_) (fun q67 => ?_)
      · have h := (wpO_ite.mp h).2 q67
        refine z_iconst C dX12_takeAsking_79 ?_
        refine z_istore (lv2 := [(4, vi 0), (3, vi r47), (2, vi r43), (0, vo ad 12 (some 0)), (1, vi x1)]) C dX12_takeAsking_80 (by decide) rfl ?_
        refine z_iconst C dX12_takeAsking_82 ?_
        refine z_istore (lv2 := [(5, vi 0), (4, vi 0), (3, vi r47), (2, vi r43), (0, vo ad 12 (some 0)), (1, vi x1)]) C dX12_takeAsking_83 (by decide) rfl ?_
        refine z_sub [4, 5, 3, 2, 1, 0] rfl ?_
        exact J85 x1 r43 r47 0 0 σ60 hx1 hr44 hr48 (by decide) (by decide) eN62 h
      · have h := (wpO_ite.mp h).1 q67
        refine z_iconst C dX12_takeAsking_77 ?_
        have h := wpO_some.mp h
        exact z_breturn T C dX12_takeAsking_78 (by decide) eN62 h
    · have h := (wpO_ite.mp h).1 q56
      refine z_iconst C dX12_takeAsking_47 ?_
      have h := wpO_some.mp h
      exact z_breturn T C dX12_takeAsking_48 (by decide) eN51 h
  · have h := (wpO_ite.mp h).1 q45
    refine z_iconst C dX12_takeAsking_15 ?_
    have h := wpO_some.mp h
    exact z_breturn T C dX12_takeAsking_16 (by decide) eN40 h
noncomputable def fX12_binds (x0 : Int) : Option Int :=
  if x0 = 33 then (some 3) else (if x0 = 38 then (some 2) else (if x0 = 124 then (some 1) else (some 0)))
set_option maxRecDepth 20000 in
set_option maxHeartbeats 4000000 in
theorem ct_X12_binds (x0 : Int) (hx0 : inr x0) : Ct yX12_binds cX12_binds 1 (some .int) 0 (fun ad => [vi x0]) (pu (fun _ => fX12_binds x0)) enI okI (fun _ => True) := by
  refine Ct.of (by decide) (fun ad => Nat.le_of_ble_eq_true rfl) ?_
  intro κ ad σ X C T hpre h
  have C : Cx κ RX12 cX12_binds 1 (some .int) 0 := C
  have h := wpO_pu.mp h
  unfold fX12_binds at h
  show Z κ (0, 0) (Qm κ ad σ enI okI X) 0 [(0, vi x0)] [] ad σ
  refine z_iload_n C 0 dX12_binds_0 rfl ?_
  refine z_bipush C dX12_binds_1 (by decide) ?_
  refine z_icmp_ne C 10 hx0 (by decide) dX12_binds_3 (by decide) (fun q1 => ?_) (fun q1 => ?_)
  · have h := (wpO_ite.mp h).2 q1
    refine z_iload_n C 0 dX12_binds_10 rfl ?_
    refine z_bipush C dX12_binds_11 (by decide) ?_
    refine z_icmp_ne C 20 hx0 (by decide) dX12_binds_13 (by decide) (fun q2 => ?_) (fun q2 => ?_)
    · have h := (wpO_ite.mp h).2 q2
      refine z_iload_n C 0 dX12_binds_20 rfl ?_
      refine z_bipush C dX12_binds_21 (by decide) ?_
      refine z_icmp_ne C 30 hx0 (by decide) dX12_binds_23 (by decide) (fun q3 => ?_) (fun q3 => ?_)
      · have h := (wpO_ite.mp h).2 q3
        refine z_iconst C dX12_binds_30 ?_
        have h := wpO_some.mp h
        exact z_ireturn T C dX12_binds_31 (by decide) rfl h
      · have h := (wpO_ite.mp h).1 q3
        refine z_iconst C dX12_binds_26 ?_
        refine z_goto C 31 dX12_binds_27 (by decide) ?_
        have h := wpO_some.mp h
        exact z_ireturn T C dX12_binds_31 (by decide) rfl h
    · have h := (wpO_ite.mp h).1 q2
      refine z_iconst C dX12_binds_16 ?_
      refine z_goto C 31 dX12_binds_17 (by decide) ?_
      have h := wpO_some.mp h
      exact z_ireturn T C dX12_binds_31 (by decide) rfl h
  · have h := (wpO_ite.mp h).1 q1
    refine z_iconst C dX12_binds_6 ?_
    refine z_goto C 31 dX12_binds_7 (by decide) ?_
    have h := wpO_some.mp h
    exact z_ireturn T C dX12_binds_31 (by decide) rfl h
noncomputable def fX12_closeTo_j171 (σ1 : St) : Option (Unit × St) :=
  some ((), σ1)
noncomputable def fX12_closeTo_j168 (x1 : Int) (σ1 : St) : Option (St ⊕ St) :=
  some (.inl σ1)
noncomputable def fX12_closeTo_j167 (x1 : Int) (s1 : Int) (s2 : Int) (σ1 : St) : Option (St ⊕ St) :=
  ck (0 ≤ s1 ∧ s1 < 84) (ck (s2 = 0 ∨ s2 = 1) (fX12_closeTo_j168 x1 (sI σ1 1346 0 s1.toNat s2)))
noncomputable def fX12_closeTo_j162 (x1 : Int) (s1 : Int) (σ1 : St) : Option (St ⊕ St) :=
  fX12_closeTo_j167 x1 s1 1 σ1
noncomputable def fX12_closeTo_j140 (x1 : Int) (s1 : Int) (σ1 : St) : Option (St ⊕ St) :=
  fX12_closeTo_j167 x1 s1 0 σ1
noncomputable def fX12_closeTo_j80 (x1 : Int) (s1 : Int) (s2 : Int) (σ1 : St) : Option (St ⊕ St) :=
  ck (0 ≤ s1 ∧ s1 < 84) (ck (s2 = 0 ∨ s2 = 1) (fX12_closeTo_j168 x1 (sI σ1 1346 0 s1.toNat s2)))
noncomputable def fX12_closeTo_l0 (x1 : Int) (σ1 : St) : Option (St ⊕ St) :=
  if gI σ1 1343 0 0 ≤ 0 then (some (.inr σ1)) else (ck (inr ((gI σ1 1343 0 0) - 1)) (ck (0 ≤ (gI σ1 1343 0 0) - 1 ∧ (gI σ1 1343 0 0) - 1 < 84) (bnk (fX12_binds (gI σ1 1344 0 (((gI σ1 1343 0 0) - 1).toNat))) (fun r22 => if r22 < x1 then (some (.inr σ1)) else (ck (inr ((gI σ1 1343 0 0) - 1)) (ck (inr ((gI σ1 1345 0 0) - 1)) (ck (0 ≤ (gI σ1 1345 0 0) - 1 ∧ (gI σ1 1345 0 0) - 1 < 84) (ck (0 ≤ (gI σ1 1343 0 0) - 1 ∧ (gI σ1 1343 0 0) - 1 < 84) (if gI σ1 1344 0 (((gI σ1 1343 0 0) - 1).toNat) = 33 then (ck (inr ((gI σ1 1345 0 0) - 1)) (if gI σ1 1346 0 (((gI σ1 1345 0 0) - 1).toNat) = 0 then (fX12_closeTo_j80 x1 ((gI σ1 1345 0 0) - 1) 1 (sI σ1 1343 0 0 ((gI σ1 1343 0 0) - 1))) else (fX12_closeTo_j80 x1 ((gI σ1 1345 0 0) - 1) 0 (sI σ1 1343 0 0 ((gI σ1 1343 0 0) - 1))))) else (ck (inr ((gI σ1 1345 0 0) - 1)) (ck (inr (((gI σ1 1345 0 0) - 1) - 1)) (ck (0 ≤ (gI σ1 1343 0 0) - 1 ∧ (gI σ1 1343 0 0) - 1 < 84) (if gI σ1 1344 0 (((gI σ1 1343 0 0) - 1).toNat) = 38 then (ck (inr (((gI σ1 1345 0 0) - 1) - 1)) (ck (0 ≤ ((gI σ1 1345 0 0) - 1) - 1 ∧ ((gI σ1 1345 0 0) - 1) - 1 < 84) (if gI σ1 1346 0 ((((gI σ1 1345 0 0) - 1) - 1).toNat) = 0 then (fX12_closeTo_j140 x1 (((gI σ1 1345 0 0) - 1) - 1) (sI (sI σ1 1343 0 0 ((gI σ1 1343 0 0) - 1)) 1345 0 0 ((gI σ1 1345 0 0) - 1))) else (if gI σ1 1346 0 (((gI σ1 1345 0 0) - 1).toNat) = 0 then (fX12_closeTo_j140 x1 (((gI σ1 1345 0 0) - 1) - 1) (sI (sI σ1 1343 0 0 ((gI σ1 1343 0 0) - 1)) 1345 0 0 ((gI σ1 1345 0 0) - 1))) else (fX12_closeTo_j167 x1 (((gI σ1 1345 0 0) - 1) - 1) 1 (sI (sI σ1 1343 0 0 ((gI σ1 1343 0 0) - 1)) 1345 0 0 ((gI σ1 1345 0 0) - 1))))))) else (ck (inr (((gI σ1 1345 0 0) - 1) - 1)) (ck (0 ≤ ((gI σ1 1345 0 0) - 1) - 1 ∧ ((gI σ1 1345 0 0) - 1) - 1 < 84) (if gI σ1 1346 0 ((((gI σ1 1345 0 0) - 1) - 1).toNat) = 0 then (if gI σ1 1346 0 (((gI σ1 1345 0 0) - 1).toNat) = 0 then (fX12_closeTo_j167 x1 (((gI σ1 1345 0 0) - 1) - 1) 0 (sI (sI σ1 1343 0 0 ((gI σ1 1343 0 0) - 1)) 1345 0 0 ((gI σ1 1345 0 0) - 1))) else (fX12_closeTo_j162 x1 (((gI σ1 1345 0 0) - 1) - 1) (sI (sI σ1 1343 0 0 ((gI σ1 1343 0 0) - 1)) 1345 0 0 ((gI σ1 1345 0 0) - 1)))) else (fX12_closeTo_j162 x1 (((gI σ1 1345 0 0) - 1) - 1) (sI (sI σ1 1343 0 0 ((gI σ1 1343 0 0) - 1)) 1345 0 0 ((gI σ1 1345 0 0) - 1)))))))))))))))))))
noncomputable def fX12_closeTo_j0 (x1 : Int) (σ1 : St) : Option (Unit × St) :=
  bnk (wh (fun s => fX12_closeTo_l0 x1 s) σ1) (fun e => fX12_closeTo_j171 e)
noncomputable def fX12_closeTo (x1 : Int) (σ : St) : Option (Unit × St) :=
  fX12_closeTo_j0 x1 σ
set_option maxRecDepth 20000 in
set_option maxHeartbeats 4000000 in
theorem ct_X12_closeTo (x1 : Int) (hx1 : inr x1) : Ct yX12_closeTo cX12_closeTo 3 none 1 (fun ad => [vo ad 12 (some 0), vi x1]) (fX12_closeTo x1) enV okV (fun _ => True) := by
  refine Ct.of (by decide) (fun ad => Nat.le_of_ble_eq_true rfl) ?_
  intro κ ad σ X C T hpre h
  have C : Cx κ RX12 cX12_closeTo 3 none 1 := C
  unfold fX12_closeTo at h
  have J171 : ∀ (σ1 : St), σ1.2.2.2 = σ.2.2.2 → wpO (fX12_closeTo_j171 σ1) (fun q => X q.1 q.2) → Z κ (0, 0) (Qm κ ad σ enV okV X) 171 [] [] ad σ1 := by
    intro σ1 eN1 h
    unfold fX12_closeTo_j171 at h
    refine z_rng (fun hI1 hJ2 => ?_)
    have h := wpO_some.mp h
    exact z_return T C dX12_closeTo_171 eN1 h
  have J0 : ∀ (x1 : Int) (σ1 : St), inr x1 → σ1.2.2.2 = σ.2.2.2 → wpO (fX12_closeTo_j0 x1 σ1) (fun q => X q.1 q.2) → Z κ (0, 0) (Qm κ ad σ enV okV X) 0 [(0, vo ad 12 (some 0)), (1, vi x1)] [] ad σ1 := by
    intro x1 σ1 hx1 eN1 h
    unfold fX12_closeTo_j0 at h
    have step : ∀ (P0 : St → Prop) (Q0 : St → Prop), (∀  (σ1 : St), P0 σ1 → σ1.2.2.2 = σ.2.2.2 → Z κ (0, 0) (Qm κ ad σ enV okV X) 0 [(0, vo ad 12 (some 0)), (1, vi x1)] [] ad σ1) → (∀ (σ1 : St), Q0 (σ1) → σ1.2.2.2 = σ.2.2.2 → Z κ (0, 0) (Qm κ ad σ enV okV X) 171 [] [] ad σ1) → ∀  (σ1 : St), σ1.2.2.2 = σ.2.2.2 → wpO (fX12_closeTo_l0 x1 σ1) (onS P0 Q0) → Z κ (0, 0) (Qm κ ad σ enV okV X) 0 [(0, vo ad 12 (some 0)), (1, vi x1)] [] ad σ1 := by
      intro P0 Q0 hP0 hE0_171 σ1 eN1 h
      unfold fX12_closeTo_l0 at h
      have J168 : ∀ (σ1 : St), σ1.2.2.2 = σ.2.2.2 → wpO (fX12_closeTo_j168 x1 σ1) (onS P0 Q0) → Z κ (0, 0) (Qm κ ad σ enV okV X) 168 [(0, vo ad 12 (some 0)), (1, vi x1)] [] ad σ1 := by
        intro σ1 eN1 h
        unfold fX12_closeTo_j168 at h
        refine z_rng (fun hI3 hJ4 => ?_)
        refine z_goto C 0 dX12_closeTo_168 (by decide) ?_
        have h := wpO_some.mp h
        exact hP0 σ1 h eN1
      have J167 : ∀ (s1 : Int) (s2 : Int) (σ1 : St), inr s1 → inr s2 → σ1.2.2.2 = σ.2.2.2 → wpO (fX12_closeTo_j167 x1 s1 s2 σ1) (onS P0 Q0) → Z κ (0, 0) (Qm κ ad σ enV okV X) 167 [(0, vo ad 12 (some 0)), (1, vi x1)] [vi s2, vi s1, vo ad 1346 (some 0)] ad σ1 := by
        intro s1 s2 σ1 hs1 hs2 eN1 h
        unfold fX12_closeTo_j167 at h
        refine z_rng (fun hI5 hJ6 => ?_)
        obtain ⟨hb7, h⟩ := wpO_ck.mp h
        obtain ⟨hb8, h⟩ := wpO_ck.mp h
        refine z_bastore C ar_1346 (sg_1346 T) hs1 hb7 hs2 hb8 dX12_closeTo_167 ?_
        exact J168 (sI σ1 1346 0 s1.toNat s2) eN1 h
      have J162 : ∀ (s1 : Int) (σ1 : St), inr s1 → σ1.2.2.2 = σ.2.2.2 → wpO (fX12_closeTo_j162 x1 s1 σ1) (onS P0 Q0) → Z κ (0, 0) (Qm κ ad σ enV okV X) 162 [(0, vo ad 12 (some 0)), (1, vi x1)] [vi s1, vo ad 1346 (some 0)] ad σ1 := by
        intro s1 σ1 hs1 eN1 h
        unfold fX12_closeTo_j162 at h
        refine z_rng (fun hI9 hJ10 => ?_)
        refine z_iconst C dX12_closeTo_162 ?_
        refine z_goto C 167 dX12_closeTo_163 (by decide) ?_
        exact J167 s1 1 σ1 hs1 (by decide) eN1 h
      have J140 : ∀ (s1 : Int) (σ1 : St), inr s1 → σ1.2.2.2 = σ.2.2.2 → wpO (fX12_closeTo_j140 x1 s1 σ1) (onS P0 Q0) → Z κ (0, 0) (Qm κ ad σ enV okV X) 140 [(0, vo ad 12 (some 0)), (1, vi x1)] [vi s1, vo ad 1346 (some 0)] ad σ1 := by
        intro s1 σ1 hs1 eN1 h
        unfold fX12_closeTo_j140 at h
        refine z_rng (fun hI11 hJ12 => ?_)
        refine z_iconst C dX12_closeTo_140 ?_
        refine z_goto C 167 dX12_closeTo_141 (by decide) ?_
        exact J167 s1 0 σ1 hs1 (by decide) eN1 h
      have J80 : ∀ (s1 : Int) (s2 : Int) (σ1 : St), inr s1 → inr s2 → σ1.2.2.2 = σ.2.2.2 → wpO (fX12_closeTo_j80 x1 s1 s2 σ1) (onS P0 Q0) → Z κ (0, 0) (Qm κ ad σ enV okV X) 80 [(0, vo ad 12 (some 0)), (1, vi x1)] [vi s2, vi s1, vo ad 1346 (some 0)] ad σ1 := by
        intro s1 s2 σ1 hs1 hs2 eN1 h
        unfold fX12_closeTo_j80 at h
        refine z_rng (fun hI13 hJ14 => ?_)
        obtain ⟨hb15, h⟩ := wpO_ck.mp h
        obtain ⟨hb16, h⟩ := wpO_ck.mp h
        refine z_bastore C ar_1346 (sg_1346 T) hs1 hb15 hs2 hb16 dX12_closeTo_80 ?_
        refine z_goto C 168 dX12_closeTo_81 (by decide) ?_
        exact J168 (sI σ1 1346 0 s1.toNat s2) eN1 h
      refine z_rng (fun hI17 hJ18 => ?_)
      refine z_aload_n C 0 dX12_closeTo_0 rfl ?_
      refine z_gIv (v := gI σ1 1343 0 0) C li_X12_365 (sg_12 T) rfl dX12_closeTo_1 ?_
      refine z_if_le C 171 (hI17 1343 0 _) dX12_closeTo_4 (by decide) (fun q19 => ?_) (fun q19 => ?_)
      · have h := (wpO_ite.mp h).1 q19
        refine z_sub [] rfl ?_
        have h := wpO_some.mp h
        exact hE0_171 σ1 h eN1
      · have h := (wpO_ite.mp h).2 q19
        refine z_aload_n C 0 dX12_closeTo_7 rfl ?_
        refine z_gA T C li_X12_123 (sg_12 T) dX12_closeTo_8 ?_
        refine z_aload_n C 0 dX12_closeTo_11 rfl ?_
        refine z_gIv (v := gI σ1 1343 0 0) C li_X12_365 (sg_12 T) rfl dX12_closeTo_12 ?_
        refine z_iconst C dX12_closeTo_15 ?_
        obtain ⟨hk20, h⟩ := wpO_ck.mp h
        refine z_isub C dX12_closeTo_16 ?_
        obtain ⟨hb21, h⟩ := wpO_ck.mp h
        refine z_iav (v := gI σ1 1344 0 (((gI σ1 1343 0 0) - 1).toNat)) C ar_1344 (sg_1344 T) hk20 hb21 rfl dX12_closeTo_17 ?_
        refine z_cSp (st := []) T C (ct_X12_binds (gI σ1 1344 0 (((gI σ1 1343 0 0) - 1).toNat)) (hI17 1344 0 _)) lm_X12_368 ls_X12_binds dX12_closeTo_18 rfl rfl trivial (by decide) (Nat.le_of_ble_eq_true rfl) csOK_0 h (fun r22 hr23 h => ?_)
        show Z κ (0, 0) _ 21 _ [vi r22] ad σ1
        refine z_iload_n C 1 dX12_closeTo_21 rfl ?_
        refine z_icmp_lt C 171 hr23 hx1 dX12_closeTo_22 (by decide) (fun q24 => ?_) (fun q24 => ?_)
        · have h := (wpO_ite.mp h).1 q24
          refine z_sub [] rfl ?_
          have h := wpO_some.mp h
          exact hE0_171 σ1 h eN1
        · have h := (wpO_ite.mp h).2 q24
          refine z_aload_n C 0 dX12_closeTo_25 rfl ?_
          refine z_dup C dX12_closeTo_26 rfl ?_
          refine z_gIv (v := gI σ1 1343 0 0) C li_X12_365 (sg_12 T) rfl dX12_closeTo_27 ?_
          refine z_iconst C dX12_closeTo_30 ?_
          obtain ⟨hk25, h⟩ := wpO_ck.mp h
          refine z_isub C dX12_closeTo_31 ?_
          refine z_pI C lq_X12_365 (sg_12 T) hk25 dX12_closeTo_32 ?_
          refine z_aload_n C 0 dX12_closeTo_35 rfl ?_
          refine z_gA T C li_X12_126 (sg_12 T) dX12_closeTo_36 ?_
          refine z_aload_n C 0 dX12_closeTo_39 rfl ?_
          refine z_gIv (v := gI σ1 1345 0 0) C li_X12_362 (sg_12 T) (gn (by decide) rfl) dX12_closeTo_40 ?_
          refine z_iconst C dX12_closeTo_43 ?_
          obtain ⟨hk26, h⟩ := wpO_ck.mp h
          refine z_isub C dX12_closeTo_44 ?_
          obtain ⟨hb27, h⟩ := wpO_ck.mp h
          refine z_bav (v := gI σ1 1346 0 (((gI σ1 1345 0 0) - 1).toNat)) C ar_1346 (sg_1346 T) hk26 hb27 (gn (by decide) rfl) dX12_closeTo_45 ?_
          refine z_istore_n (lv2 := [(2, vi (gI σ1 1346 0 (((gI σ1 1345 0 0) - 1).toNat))), (0, vo ad 12 (some 0)), (1, vi x1)]) C dX12_closeTo_46 (by decide) rfl ?_
          refine z_aload_n C 1 dX12_closeTo_47 rfl ?_
          refine z_gA T C li_X12_123 (sg_12 T) dX12_closeTo_48 ?_
          refine z_aload_n C 1 dX12_closeTo_51 rfl ?_
          refine z_gIv (v := (gI σ1 1343 0 0) - 1) C li_X12_365 (sg_12 T) gs dX12_closeTo_52 ?_
          obtain ⟨hb28, h⟩ := wpO_ck.mp h
          refine z_iav (v := gI σ1 1344 0 (((gI σ1 1343 0 0) - 1).toNat)) C ar_1344 (sg_1344 T) hk25 hb28 (gn (by decide) rfl) dX12_closeTo_55 ?_
          refine z_bipush C dX12_closeTo_56 (by decide) ?_
          refine z_icmp_ne C 84 (hI17 1344 0 _) (by decide) dX12_closeTo_58 (by decide) (fun q29 => ?_) (fun q29 => ?_)
          · have h := (wpO_ite.mp h).2 q29
            refine z_aload_n C 1 dX12_closeTo_84 rfl ?_
            refine z_dup C dX12_closeTo_85 rfl ?_
            refine z_gIv (v := gI σ1 1345 0 0) C li_X12_362 (sg_12 T) (gn (by decide) rfl) dX12_closeTo_86 ?_
            refine z_iconst C dX12_closeTo_89 ?_
            obtain ⟨hk30, h⟩ := wpO_ck.mp h
            refine z_isub C dX12_closeTo_90 ?_
            refine z_pI C lq_X12_362 (sg_12 T) hk30 dX12_closeTo_91 ?_
            refine z_aload_n C 1 dX12_closeTo_94 rfl ?_
            refine z_gA T C li_X12_126 (sg_12 T) dX12_closeTo_95 ?_
            refine z_aload_n C 1 dX12_closeTo_98 rfl ?_
            refine z_gIv (v := (gI σ1 1345 0 0) - 1) C li_X12_362 (sg_12 T) gs dX12_closeTo_99 ?_
            refine z_iconst C dX12_closeTo_102 ?_
            obtain ⟨hk31, h⟩ := wpO_ck.mp h
            refine z_isub C dX12_closeTo_103 ?_
            refine z_aload_n C 1 dX12_closeTo_104 rfl ?_
            refine z_gA T C li_X12_123 (sg_12 T) dX12_closeTo_105 ?_
            refine z_aload_n C 1 dX12_closeTo_108 rfl ?_
            refine z_gIv (v := (gI σ1 1343 0 0) - 1) C li_X12_365 (sg_12 T) (gn (by decide) gs) dX12_closeTo_109 ?_
            obtain ⟨hb32, h⟩ := wpO_ck.mp h
            refine z_iav (v := gI σ1 1344 0 (((gI σ1 1343 0 0) - 1).toNat)) C ar_1344 (sg_1344 T) hk25 hb32 (gn (by decide) (gn (by decide) rfl)) dX12_closeTo_112 ?_
            refine z_bipush C dX12_closeTo_113 (by decide) ?_
            refine z_icmp_ne C 144 (hI17 1344 0 _) (by decide) dX12_closeTo_115 (by decide) (fun q33 => ?_) (fun q33 => ?_)
            · have h := (wpO_ite.mp h).2 q33
              refine z_aload_n C 1 dX12_closeTo_144 rfl ?_
              refine z_gA T C li_X12_126 (sg_12 T) dX12_closeTo_145 ?_
              refine z_aload_n C 1 dX12_closeTo_148 rfl ?_
              refine z_gIv (v := (gI σ1 1345 0 0) - 1) C li_X12_362 (sg_12 T) gs dX12_closeTo_149 ?_
              refine z_iconst C dX12_closeTo_152 ?_
              obtain ⟨hk34, h⟩ := wpO_ck.mp h
              refine z_isub C dX12_closeTo_153 ?_
              obtain ⟨hb35, h⟩ := wpO_ck.mp h
              refine z_bav (v := gI σ1 1346 0 ((((gI σ1 1345 0 0) - 1) - 1).toNat)) C ar_1346 (sg_1346 T) hk34 hb35 (gn (by decide) (gn (by decide) rfl)) dX12_closeTo_154 ?_
              refine z_if_ne C 162 (hI17 1346 0 _) dX12_closeTo_155 (by decide) (fun q36 => ?_) (fun q36 => ?_)
              · have h := (wpO_ite.mp h).2 q36
                refine z_sub [1, 2] rfl ?_
                exact J162 (((gI σ1 1345 0 0) - 1) - 1) (sI (sI σ1 1343 0 0 ((gI σ1 1343 0 0) - 1)) 1345 0 0 ((gI σ1 1345 0 0) - 1)) hk31 eN1 h
              · have h := (wpO_ite.mp h).1 q36
                refine z_iload_n C 0 dX12_closeTo_158 rfl ?_
                refine z_if_eq C 166 (hI17 1346 0 _) dX12_closeTo_159 (by decide) (fun q37 => ?_) (fun q37 => ?_)
                · have h := (wpO_ite.mp h).1 q37
                  refine z_iconst C dX12_closeTo_166 ?_
                  refine z_sub [1, 2] rfl ?_
                  exact J167 (((gI σ1 1345 0 0) - 1) - 1) 0 (sI (sI σ1 1343 0 0 ((gI σ1 1343 0 0) - 1)) 1345 0 0 ((gI σ1 1345 0 0) - 1)) hk31 (by decide) eN1 h
                · have h := (wpO_ite.mp h).2 q37
                  refine z_sub [1, 2] rfl ?_
                  exact J162 (((gI σ1 1345 0 0) - 1) - 1) (sI (sI σ1 1343 0 0 ((gI σ1 1343 0 0) - 1)) 1345 0 0 ((gI σ1 1345 0 0) - 1)) hk31 eN1 h
            · have h := (wpO_ite.mp h).1 q33
              refine z_aload_n C 1 dX12_closeTo_118 rfl ?_
              refine z_gA T C li_X12_126 (sg_12 T) dX12_closeTo_119 ?_
              refine z_aload_n C 1 dX12_closeTo_122 rfl ?_
              refine z_gIv (v := (gI σ1 1345 0 0) - 1) C li_X12_362 (sg_12 T) gs dX12_closeTo_123 ?_
              refine z_iconst C dX12_closeTo_126 ?_
              obtain ⟨hk38, h⟩ := wpO_ck.mp h
              refine z_isub C dX12_closeTo_127 ?_
              obtain ⟨hb39, h⟩ := wpO_ck.mp h
              refine z_bav (v := gI σ1 1346 0 ((((gI σ1 1345 0 0) - 1) - 1).toNat)) C ar_1346 (sg_1346 T) hk38 hb39 (gn (by decide) (gn (by decide) rfl)) dX12_closeTo_128 ?_
              refine z_if_eq C 140 (hI17 1346 0 _) dX12_closeTo_129 (by decide) (fun q40 => ?_) (fun q40 => ?_)
              · have h := (wpO_ite.mp h).1 q40
                refine z_sub [1, 2] rfl ?_
                exact J140 (((gI σ1 1345 0 0) - 1) - 1) (sI (sI σ1 1343 0 0 ((gI σ1 1343 0 0) - 1)) 1345 0 0 ((gI σ1 1345 0 0) - 1)) hk31 eN1 h
              · have h := (wpO_ite.mp h).2 q40
                refine z_iload_n C 0 dX12_closeTo_132 rfl ?_
                refine z_if_eq C 140 (hI17 1346 0 _) dX12_closeTo_133 (by decide) (fun q41 => ?_) (fun q41 => ?_)
                · have h := (wpO_ite.mp h).1 q41
                  refine z_sub [1, 2] rfl ?_
                  exact J140 (((gI σ1 1345 0 0) - 1) - 1) (sI (sI σ1 1343 0 0 ((gI σ1 1343 0 0) - 1)) 1345 0 0 ((gI σ1 1345 0 0) - 1)) hk31 eN1 h
                · have h := (wpO_ite.mp h).2 q41
                  refine z_iconst C dX12_closeTo_136 ?_
                  refine z_goto C 167 dX12_closeTo_137 (by decide) ?_
                  refine z_sub [1, 2] rfl ?_
                  exact J167 (((gI σ1 1345 0 0) - 1) - 1) 1 (sI (sI σ1 1343 0 0 ((gI σ1 1343 0 0) - 1)) 1345 0 0 ((gI σ1 1345 0 0) - 1)) hk31 (by decide) eN1 h
          · have h := (wpO_ite.mp h).1 q29
            refine z_aload_n C 1 dX12_closeTo_61 rfl ?_
            refine z_gA T C li_X12_126 (sg_12 T) dX12_closeTo_62 ?_
            refine z_aload_n C 1 dX12_closeTo_65 rfl ?_
            refine z_gIv (v := gI σ1 1345 0 0) C li_X12_362 (sg_12 T) (gn (by decide) rfl) dX12_closeTo_66 ?_
            refine z_iconst C dX12_closeTo_69 ?_
            obtain ⟨hk42, h⟩ := wpO_ck.mp h
            refine z_isub C dX12_closeTo_70 ?_
            refine z_iload_n C 0 dX12_closeTo_71 rfl ?_
            refine z_if_ne C 79 (hI17 1346 0 _) dX12_closeTo_72 (by decide) (fun q43 => ?_) (fun q43 => ?_)
            · have h := (wpO_ite.mp h).2 q43
              refine z_iconst C dX12_closeTo_79 ?_
              refine z_sub [1, 2] rfl ?_
              exact J80 ((gI σ1 1345 0 0) - 1) 0 (sI σ1 1343 0 0 ((gI σ1 1343 0 0) - 1)) hk42 (by decide) eN1 h
            · have h := (wpO_ite.mp h).1 q43
              refine z_iconst C dX12_closeTo_75 ?_
              refine z_goto C 80 dX12_closeTo_76 (by decide) ?_
              refine z_sub [1, 2] rfl ?_
              exact J80 ((gI σ1 1345 0 0) - 1) 1 (sI σ1 1343 0 0 ((gI σ1 1343 0 0) - 1)) hk42 (by decide) eN1 h
    exact wh_ind (P := fun s : St => s.2.2.2 = σ.2.2.2 → Z κ (0, 0) (Qm κ ad σ enV okV X) 0 [(0, vo ad 12 (some 0)), (1, vi x1)] [] ad s) (fun s hs g0 => step _ _ (fun _ hp => hp) (fun σ1 hq eN1 => J171 σ1 eN1 hq) s g0 hs) σ1 (wpO_bnk.mp h) eN1
  show Z κ (0, 0) (Qm κ ad σ enV okV X) 0 [(0, vo ad 12 (some 0)), (1, vi x1)] [] ad σ
  refine z_rng (fun hI44 hJ45 => ?_)
  exact J0 x1 σ hx1 rfl h
noncomputable def fX12_readRule_j182 (x2 : Int) (σ1 : St) : Option (Int × St) :=
  if x2 ≤ 0 then (bnd (fX12_closeTo 1 σ1) (fun _ σ6 => some ((-9), σ6))) else (some (gI σ1 1342 0 0, σ1))
noncomputable def fX12_readRule_j174 (σ1 : St) : Option (Int × St) :=
  some (gI σ1 1342 0 0, σ1)
noncomputable def fX12_readRule_j93 (σ1 : St) : Option (Int × St) :=
  some (gI σ1 1342 0 0, σ1)
noncomputable def fX12_readRule_j179 (x1 : Int) (x2 : Int) (x3 : Int) (σ1 : St) : Option ((Int × Int × St) ⊕ (St ⊕ (St ⊕ (Int × St)))) :=
  some (.inl ((x2, x3, σ1)))
noncomputable def fX12_readRule_j154 (x1 : Int) (x2 : Int) (x4 : Int) (σ1 : St) : Option ((Int × Int × St) ⊕ (St ⊕ (St ⊕ (Int × St)))) :=
  bnk (fX12_binds x4) (fun r19 => bnd (fX12_closeTo r19 σ1) (fun _ σ23 => bnd (fX12_push x4 σ23) (fun _ σ30 => fX12_readRule_j179 x1 x2 1 σ30)))
noncomputable def fX12_readRule_j140 (x1 : Int) (x2 : Int) (x4 : Int) (σ1 : St) : Option ((Int × Int × St) ⊕ (St ⊕ (St ⊕ (Int × St)))) :=
  if x4 = 38 then (fX12_readRule_j154 x1 x2 x4 σ1) else (if x4 = 124 then (fX12_readRule_j154 x1 x2 x4 σ1) else (some (.inr (.inr (.inl σ1)))))
noncomputable def fX12_readRule_j69 (x1 : Int) (x3 : Int) (x4 : Int) (s0 : Int) (s1 : Int) (σ1 : St) : Option ((Int × Int × St) ⊕ (St ⊕ (St ⊕ (Int × St)))) :=
  ck (inr (s0 + s1)) (bnd (fX12_push x4 σ1) (fun _ σ44 => fX12_readRule_j179 x1 (s0 + s1) x3 σ44))
noncomputable def fX12_readRule_j56 (x1 : Int) (x2 : Int) (x3 : Int) (x4 : Int) (σ1 : St) : Option ((Int × Int × St) ⊕ (St ⊕ (St ⊕ (Int × St)))) :=
  if x4 = 40 then (fX12_readRule_j69 x1 x3 x4 x2 1 σ1) else (fX12_readRule_j69 x1 x3 x4 x2 0 σ1)
noncomputable def fX12_readRule_j31 (x1 : Int) (x2 : Int) (x3 : Int) (σ1 : St) : Option ((Int × Int × St) ⊕ (St ⊕ (St ⊕ (Int × St)))) :=
  bnd (fX12_peek x1 σ1) (fun r54 σ56 => if x3 = 0 then (if r54 = 41 then (if x2 ≤ 0 then (fX12_readRule_j140 x1 x2 r54 σ56) else (bnd (fX12_closeTo 1 σ56) (fun _ σ66 => ck (inr ((gI σ66 1343 0 0) - 1)) (ck (inr (x2 + (-1))) (ck (inr ((gI σ66 1342 0 0) + 1)) (fX12_readRule_j179 x1 (x2 + (-1)) x3 (sI (sI σ66 1343 0 0 ((gI σ66 1343 0 0) - 1)) 1342 0 0 ((gI σ66 1342 0 0) + 1)))))))) else (fX12_readRule_j140 x1 x2 r54 σ56)) else (if r54 = 33 then (fX12_readRule_j56 x1 x2 x3 r54 σ56) else (if r54 = 40 then (fX12_readRule_j56 x1 x2 x3 r54 σ56) else (bnd (fX12_takeAsking x1 σ56) (fun r76 σ78 => if r76 = 0 then (some (.inr (.inl σ78))) else (fX12_readRule_j179 x1 x2 0 σ78))))))
noncomputable def fX12_readRule_l19 (x1 : Int) (x2 : Int) (x3 : Int) (σ1 : St) : Option ((Int × Int × St) ⊕ (St ⊕ (St ⊕ (Int × St)))) :=
  if x3 = 0 then (bnd (fX12_peek x1 σ1) (fun r87 σ89 => if r87 = 0 then (some (.inr (.inr (.inr ((x2, σ89)))))) else (fX12_readRule_j31 x1 x2 x3 σ89))) else (fX12_readRule_j31 x1 x2 x3 σ1)
noncomputable def fX12_readRule_j19 (x1 : Int) (x2 : Int) (x3 : Int) (σ1 : St) : Option (Int × St) :=
  bnk (wh (fun s => fX12_readRule_l19 x1 s.1 s.2.1 s.2.2) ((x2, x3, σ1))) (fun e => Sum.elim (fun a0 => fX12_readRule_j93 a0) (fun b0 => Sum.elim (fun a1 => fX12_readRule_j174 a1) (fun b1 => fX12_readRule_j182 b1.1 b1.2) b0) e)
noncomputable def fX12_readRule (x1 : Int) (σ : St) : Option (Int × St) :=
  fX12_readRule_j19 x1 0 1 (sI (sI (sI σ 1342 0 0 0) 1343 0 0 0) 1345 0 0 0)
set_option maxRecDepth 20000 in
set_option maxHeartbeats 4000000 in
theorem ct_X12_readRule (x1 : Int) (hx1 : inr x1) : Ct yX12_readRule cX12_readRule 5 (some .int) 2 (fun ad => [vo ad 12 (some 0), vi x1]) (fX12_readRule x1) enI okI (fun _ => True) := by
  refine Ct.of (by decide) (fun ad => Nat.le_of_ble_eq_true rfl) ?_
  intro κ ad σ X C T hpre h
  have C : Cx κ RX12 cX12_readRule 5 (some .int) 2 := C
  unfold fX12_readRule at h
  have J182 : ∀ (x2 : Int) (σ1 : St), inr x2 → σ1.2.2.2 = σ.2.2.2 → wpO (fX12_readRule_j182 x2 σ1) (fun q => X q.1 q.2) → Z κ (0, 0) (Qm κ ad σ enI okI X) 182 [(0, vo ad 12 (some 0)), (2, vi x2)] [] ad σ1 := by
    intro x2 σ1 hx2 eN1 h
    unfold fX12_readRule_j182 at h
    refine z_rng (fun hI1 hJ2 => ?_)
    refine z_iload_n C 1 dX12_readRule_182 rfl ?_
    refine z_if_le C 191 hx2 dX12_readRule_183 (by decide) (fun q3 => ?_) (fun q3 => ?_)
    · have h := (wpO_ite.mp h).1 q3
      refine z_aload_n C 0 dX12_readRule_191 rfl ?_
      refine z_iconst C dX12_readRule_192 ?_
      refine z_cV (st := []) T C (ct_X12_closeTo 1 (by decide)) lm_X12_378 lv_vX12_closeTo dX12_readRule_193 [vi 1] rfl rfl rfl rfl rfl (sg_12 T) trivial (by decide) (Nat.le_of_ble_eq_true rfl) csOK_0 h (fun r4 σ6 hr5 eN7 h => ?_)
      have eN8 := eN7.trans eN1
      show Z κ (0, 0) _ 196 _ [] ad σ6
      refine z_rng (fun hI9 hJ10 => ?_)
      refine z_bipush C dX12_readRule_196 (by decide) ?_
      have h := wpO_some.mp h
      exact z_ireturn T C dX12_readRule_198 (by decide) eN8 h
    · have h := (wpO_ite.mp h).2 q3
      refine z_aload_n C 0 dX12_readRule_186 rfl ?_
      refine z_gIv (v := gI σ1 1342 0 0) C li_X12_345 (sg_12 T) rfl dX12_readRule_187 ?_
      have h := wpO_some.mp h
      exact z_ireturn T C dX12_readRule_190 (hI1 1342 0 _) eN1 h
  have J174 : ∀ (σ1 : St), σ1.2.2.2 = σ.2.2.2 → wpO (fX12_readRule_j174 σ1) (fun q => X q.1 q.2) → Z κ (0, 0) (Qm κ ad σ enI okI X) 174 [(0, vo ad 12 (some 0))] [] ad σ1 := by
    intro σ1 eN1 h
    unfold fX12_readRule_j174 at h
    refine z_rng (fun hI11 hJ12 => ?_)
    refine z_aload_n C 0 dX12_readRule_174 rfl ?_
    refine z_gIv (v := gI σ1 1342 0 0) C li_X12_345 (sg_12 T) rfl dX12_readRule_175 ?_
    have h := wpO_some.mp h
    exact z_ireturn T C dX12_readRule_178 (hI11 1342 0 _) eN1 h
  have J93 : ∀ (σ1 : St), σ1.2.2.2 = σ.2.2.2 → wpO (fX12_readRule_j93 σ1) (fun q => X q.1 q.2) → Z κ (0, 0) (Qm κ ad σ enI okI X) 93 [(0, vo ad 12 (some 0))] [] ad σ1 := by
    intro σ1 eN1 h
    unfold fX12_readRule_j93 at h
    refine z_rng (fun hI13 hJ14 => ?_)
    refine z_aload_n C 0 dX12_readRule_93 rfl ?_
    refine z_gIv (v := gI σ1 1342 0 0) C li_X12_345 (sg_12 T) rfl dX12_readRule_94 ?_
    have h := wpO_some.mp h
    exact z_ireturn T C dX12_readRule_97 (hI13 1342 0 _) eN1 h
  have J19 : ∀ (x1 : Int) (x2 : Int) (x3 : Int) (σ1 : St), inr x1 → inr x2 → inr x3 → σ1.2.2.2 = σ.2.2.2 → wpO (fX12_readRule_j19 x1 x2 x3 σ1) (fun q => X q.1 q.2) → Z κ (0, 0) (Qm κ ad σ enI okI X) 19 [(0, vo ad 12 (some 0)), (1, vi x1), (2, vi x2), (3, vi x3)] [] ad σ1 := by
    intro x1 x2 x3 σ1 hx1 hx2 hx3 eN1 h
    unfold fX12_readRule_j19 at h
    have step : ∀ (P19 : (Int × Int × St) → Prop) (Q19 : (St ⊕ (St ⊕ (Int × St))) → Prop), (∀ (x2 : Int) (x3 : Int) (σ1 : St), P19 ((x2, x3, σ1)) → inr x2 → inr x3 → σ1.2.2.2 = σ.2.2.2 → Z κ (0, 0) (Qm κ ad σ enI okI X) 19 [(0, vo ad 12 (some 0)), (1, vi x1), (2, vi x2), (3, vi x3)] [] ad σ1) → (∀ (σ1 : St), Q19 (.inl σ1) → σ1.2.2.2 = σ.2.2.2 → Z κ (0, 0) (Qm κ ad σ enI okI X) 93 [(0, vo ad 12 (some 0))] [] ad σ1) → (∀ (σ1 : St), Q19 (.inr (.inl σ1)) → σ1.2.2.2 = σ.2.2.2 → Z κ (0, 0) (Qm κ ad σ enI okI X) 174 [(0, vo ad 12 (some 0))] [] ad σ1) → (∀ (x2 : Int) (σ1 : St), Q19 (.inr (.inr ((x2, σ1)))) → inr x2 → σ1.2.2.2 = σ.2.2.2 → Z κ (0, 0) (Qm κ ad σ enI okI X) 182 [(0, vo ad 12 (some 0)), (2, vi x2)] [] ad σ1) → ∀ (x2 : Int) (x3 : Int) (σ1 : St), inr x2 → inr x3 → σ1.2.2.2 = σ.2.2.2 → wpO (fX12_readRule_l19 x1 x2 x3 σ1) (onS P19 Q19) → Z κ (0, 0) (Qm κ ad σ enI okI X) 19 [(0, vo ad 12 (some 0)), (1, vi x1), (2, vi x2), (3, vi x3)] [] ad σ1 := by
      intro P19 Q19 hP19 hE19_93 hE19_174 hE19_182 x2 x3 σ1 hx2 hx3 eN1 h
      unfold fX12_readRule_l19 at h
      have J179 : ∀ (x2 : Int) (x3 : Int) (σ1 : St), inr x2 → inr x3 → σ1.2.2.2 = σ.2.2.2 → wpO (fX12_readRule_j179 x1 x2 x3 σ1) (onS P19 Q19) → Z κ (0, 0) (Qm κ ad σ enI okI X) 179 [(0, vo ad 12 (some 0)), (1, vi x1), (2, vi x2), (3, vi x3)] [] ad σ1 := by
        intro x2 x3 σ1 hx2 hx3 eN1 h
        unfold fX12_readRule_j179 at h
        refine z_rng (fun hI15 hJ16 => ?_)
        refine z_goto C 19 dX12_readRule_179 (by decide) ?_
        have h := wpO_some.mp h
        exact hP19 x2 x3 σ1 h hx2 hx3 eN1
      have J154 : ∀ (x2 : Int) (x4 : Int) (σ1 : St), inr x2 → inr x4 → σ1.2.2.2 = σ.2.2.2 → wpO (fX12_readRule_j154 x1 x2 x4 σ1) (onS P19 Q19) → Z κ (0, 0) (Qm κ ad σ enI okI X) 154 [(0, vo ad 12 (some 0)), (1, vi x1), (2, vi x2), (4, vi x4)] [] ad σ1 := by
        intro x2 x4 σ1 hx2 hx4 eN1 h
        unfold fX12_readRule_j154 at h
        refine z_rng (fun hI17 hJ18 => ?_)
        refine z_aload_n C 0 dX12_readRule_154 rfl ?_
        refine z_iload C 3 dX12_readRule_155 rfl ?_
        refine z_cSp (st := [vo ad 12 (some 0)]) T C (ct_X12_binds x4 hx4) lm_X12_368 ls_X12_binds dX12_readRule_157 rfl rfl trivial (by decide) (Nat.le_of_ble_eq_true rfl) csOK_0 h (fun r19 hr20 h => ?_)
        show Z κ (0, 0) _ 160 _ [vi r19, vo ad 12 (some 0)] ad σ1
        refine z_cV (st := []) T C (ct_X12_closeTo r19 hr20) lm_X12_378 lv_vX12_closeTo dX12_readRule_160 [vi r19] rfl rfl rfl rfl rfl (sg_12 T) trivial (by decide) (Nat.le_of_ble_eq_true rfl) csOK_0 h (fun r21 σ23 hr22 eN24 h => ?_)
        have eN25 := eN24.trans eN1
        show Z κ (0, 0) _ 163 _ [] ad σ23
        refine z_rng (fun hI26 hJ27 => ?_)
        refine z_aload_n C 0 dX12_readRule_163 rfl ?_
        refine z_iload C 3 dX12_readRule_164 rfl ?_
        refine z_cV (st := []) T C (ct_X12_push x4 hx4) lm_X12_371 lv_vX12_push dX12_readRule_166 [vi x4] rfl rfl rfl rfl rfl (sg_12 T) trivial (by decide) (Nat.le_of_ble_eq_true rfl) csOK_0 h (fun r28 σ30 hr29 eN31 h => ?_)
        have eN32 := eN31.trans eN25
        show Z κ (0, 0) _ 169 _ [] ad σ30
        refine z_rng (fun hI33 hJ34 => ?_)
        refine z_iconst C dX12_readRule_169 ?_
        refine z_istore_n (lv2 := [(3, vi 1), (0, vo ad 12 (some 0)), (1, vi x1), (2, vi x2), (4, vi x4)]) C dX12_readRule_170 (by decide) rfl ?_
        refine z_goto C 179 dX12_readRule_171 (by decide) ?_
        refine z_sub [1, 2, 3, 0] rfl ?_
        exact J179 x2 1 σ30 hx2 (by decide) eN32 h
      have J140 : ∀ (x2 : Int) (x4 : Int) (σ1 : St), inr x2 → inr x4 → σ1.2.2.2 = σ.2.2.2 → wpO (fX12_readRule_j140 x1 x2 x4 σ1) (onS P19 Q19) → Z κ (0, 0) (Qm κ ad σ enI okI X) 140 [(0, vo ad 12 (some 0)), (1, vi x1), (2, vi x2), (4, vi x4)] [] ad σ1 := by
        intro x2 x4 σ1 hx2 hx4 eN1 h
        unfold fX12_readRule_j140 at h
        refine z_rng (fun hI35 hJ36 => ?_)
        refine z_iload C 3 dX12_readRule_140 rfl ?_
        refine z_bipush C dX12_readRule_142 (by decide) ?_
        refine z_icmp_eq C 154 hx4 (by decide) dX12_readRule_144 (by decide) (fun q37 => ?_) (fun q37 => ?_)
        · have h := (wpO_ite.mp h).1 q37
          exact J154 x2 x4 σ1 hx2 hx4 eN1 h
        · have h := (wpO_ite.mp h).2 q37
          refine z_iload C 3 dX12_readRule_147 rfl ?_
          refine z_bipush C dX12_readRule_149 (by decide) ?_
          refine z_icmp_ne C 174 hx4 (by decide) dX12_readRule_151 (by decide) (fun q38 => ?_) (fun q38 => ?_)
          · have h := (wpO_ite.mp h).2 q38
            refine z_sub [0] rfl ?_
            have h := wpO_some.mp h
            exact hE19_174 σ1 h eN1
          · have h := (wpO_ite.mp h).1 q38
            exact J154 x2 x4 σ1 hx2 hx4 eN1 h
      have J69 : ∀ (x3 : Int) (x4 : Int) (s0 : Int) (s1 : Int) (σ1 : St), inr x3 → inr x4 → inr s0 → inr s1 → σ1.2.2.2 = σ.2.2.2 → wpO (fX12_readRule_j69 x1 x3 x4 s0 s1 σ1) (onS P19 Q19) → Z κ (0, 0) (Qm κ ad σ enI okI X) 69 [(0, vo ad 12 (some 0)), (1, vi x1), (3, vi x3), (4, vi x4)] [vi s1, vi s0] ad σ1 := by
        intro x3 x4 s0 s1 σ1 hx3 hx4 hs0 hs1 eN1 h
        unfold fX12_readRule_j69 at h
        refine z_rng (fun hI39 hJ40 => ?_)
        obtain ⟨hk41, h⟩ := wpO_ck.mp h
        refine z_iadd C dX12_readRule_69 ?_
        refine z_istore_n (lv2 := [(2, vi (s0 + s1)), (0, vo ad 12 (some 0)), (1, vi x1), (3, vi x3), (4, vi x4)]) C dX12_readRule_70 (by decide) rfl ?_
        refine z_aload_n C 1 dX12_readRule_71 rfl ?_
        refine z_iload C 4 dX12_readRule_72 rfl ?_
        refine z_cV (st := []) T C (ct_X12_push x4 hx4) lm_X12_371 lv_vX12_push dX12_readRule_74 [vi x4] rfl rfl rfl rfl rfl (sg_12 T) trivial (by decide) (Nat.le_of_ble_eq_true rfl) csOK_0 h (fun r42 σ44 hr43 eN45 h => ?_)
        have eN46 := eN45.trans eN1
        show Z κ (0, 0) _ 77 _ [] ad σ44
        refine z_rng (fun hI47 hJ48 => ?_)
        refine z_goto C 179 dX12_readRule_77 (by decide) ?_
        refine z_sub [1, 2, 0, 3] rfl ?_
        exact J179 (s0 + s1) x3 σ44 hk41 hx3 eN46 h
      have J56 : ∀ (x2 : Int) (x3 : Int) (x4 : Int) (σ1 : St), inr x2 → inr x3 → inr x4 → σ1.2.2.2 = σ.2.2.2 → wpO (fX12_readRule_j56 x1 x2 x3 x4 σ1) (onS P19 Q19) → Z κ (0, 0) (Qm κ ad σ enI okI X) 56 [(0, vo ad 12 (some 0)), (1, vi x1), (2, vi x2), (3, vi x3), (4, vi x4)] [] ad σ1 := by
        intro x2 x3 x4 σ1 hx2 hx3 hx4 eN1 h
        unfold fX12_readRule_j56 at h
        refine z_rng (fun hI49 hJ50 => ?_)
        refine z_iload_n C 2 dX12_readRule_56 rfl ?_
        refine z_iload C 4 dX12_readRule_57 rfl ?_
        refine z_bipush C dX12_readRule_59 (by decide) ?_
        refine z_icmp_ne C 68 hx4 (by decide) dX12_readRule_61 (by decide) (fun q51 => ?_) (fun q51 => ?_)
        · have h := (wpO_ite.mp h).2 q51
          refine z_iconst C dX12_readRule_68 ?_
          refine z_sub [0, 1, 3, 4] rfl ?_
          exact J69 x3 x4 x2 0 σ1 hx3 hx4 hx2 (by decide) eN1 h
        · have h := (wpO_ite.mp h).1 q51
          refine z_iconst C dX12_readRule_64 ?_
          refine z_goto C 69 dX12_readRule_65 (by decide) ?_
          refine z_sub [0, 1, 3, 4] rfl ?_
          exact J69 x3 x4 x2 1 σ1 hx3 hx4 hx2 (by decide) eN1 h
      have J31 : ∀ (x2 : Int) (x3 : Int) (σ1 : St), inr x2 → inr x3 → σ1.2.2.2 = σ.2.2.2 → wpO (fX12_readRule_j31 x1 x2 x3 σ1) (onS P19 Q19) → Z κ (0, 0) (Qm κ ad σ enI okI X) 31 [(0, vo ad 12 (some 0)), (1, vi x1), (2, vi x2), (3, vi x3)] [] ad σ1 := by
        intro x2 x3 σ1 hx2 hx3 eN1 h
        unfold fX12_readRule_j31 at h
        refine z_rng (fun hI52 hJ53 => ?_)
        refine z_aload_n C 0 dX12_readRule_31 rfl ?_
        refine z_iload_n C 1 dX12_readRule_32 rfl ?_
        refine z_cV (st := []) T C (ct_X12_peek x1 hx1) lm_X12_348 lv_vX12_peek dX12_readRule_33 [vi x1] rfl rfl rfl rfl rfl (sg_12 T) trivial (by decide) (Nat.le_of_ble_eq_true rfl) csOK_0 h (fun r54 σ56 hr55 eN57 h => ?_)
        have eN58 := eN57.trans eN1
        show Z κ (0, 0) _ 36 _ [vi r54] ad σ56
        refine z_rng (fun hI59 hJ60 => ?_)
        refine z_istore (lv2 := [(4, vi r54), (0, vo ad 12 (some 0)), (1, vi x1), (2, vi x2), (3, vi x3)]) C dX12_readRule_36 (by decide) rfl ?_
        refine z_iload_n C 4 dX12_readRule_38 rfl ?_
        refine z_if_eq C 98 hx3 dX12_readRule_39 (by decide) (fun q61 => ?_) (fun q61 => ?_)
        · have h := (wpO_ite.mp h).1 q61
          refine z_iload C 0 dX12_readRule_98 rfl ?_
          refine z_bipush C dX12_readRule_100 (by decide) ?_
          refine z_icmp_ne C 140 hr55 (by decide) dX12_readRule_102 (by decide) (fun q62 => ?_) (fun q62 => ?_)
          · have h := (wpO_ite.mp h).2 q62
            refine z_sub [1, 2, 3, 0] rfl ?_
            exact J140 x2 r54 σ56 hx2 hr55 eN58 h
          · have h := (wpO_ite.mp h).1 q62
            refine z_iload_n C 3 dX12_readRule_105 rfl ?_
            refine z_if_le C 140 hx2 dX12_readRule_106 (by decide) (fun q63 => ?_) (fun q63 => ?_)
            · have h := (wpO_ite.mp h).1 q63
              refine z_sub [1, 2, 3, 0] rfl ?_
              exact J140 x2 r54 σ56 hx2 hr55 eN58 h
            · have h := (wpO_ite.mp h).2 q63
              refine z_aload_n C 1 dX12_readRule_109 rfl ?_
              refine z_iconst C dX12_readRule_110 ?_
              refine z_cV (st := []) T C (ct_X12_closeTo 1 (by decide)) lm_X12_378 lv_vX12_closeTo dX12_readRule_111 [vi 1] rfl rfl rfl rfl rfl (sg_12 T) trivial (by decide) (Nat.le_of_ble_eq_true rfl) csOK_0 h (fun r64 σ66 hr65 eN67 h => ?_)
              have eN68 := eN67.trans eN58
              show Z κ (0, 0) _ 114 _ [] ad σ66
              refine z_rng (fun hI69 hJ70 => ?_)
              refine z_aload_n C 1 dX12_readRule_114 rfl ?_
              refine z_dup C dX12_readRule_115 rfl ?_
              refine z_gIv (v := gI σ66 1343 0 0) C li_X12_365 (sg_12 T) rfl dX12_readRule_116 ?_
              refine z_iconst C dX12_readRule_119 ?_
              obtain ⟨hk71, h⟩ := wpO_ck.mp h
              refine z_isub C dX12_readRule_120 ?_
              refine z_pI C lq_X12_365 (sg_12 T) hk71 dX12_readRule_121 ?_
              obtain ⟨hk72, h⟩ := wpO_ck.mp h
              refine z_iinc (lv2 := [(2, vi (x2 + (-1))), (4, vi r54), (0, vo ad 12 (some 0)), (1, vi x1), (3, vi x3)]) C 3 dX12_readRule_124 rfl (by decide) rfl ?_
              refine z_aload_n C 2 dX12_readRule_127 rfl ?_
              refine z_dup C dX12_readRule_128 rfl ?_
              refine z_gIv (v := gI σ66 1342 0 0) C li_X12_345 (sg_12 T) (gn (by decide) rfl) dX12_readRule_129 ?_
              refine z_iconst C dX12_readRule_132 ?_
              obtain ⟨hk73, h⟩ := wpO_ck.mp h
              refine z_iadd C dX12_readRule_133 ?_
              refine z_pI C lq_X12_345 (sg_12 T) hk73 dX12_readRule_134 ?_
              refine z_goto C 179 dX12_readRule_137 (by decide) ?_
              refine z_sub [2, 3, 0, 4] rfl ?_
              exact J179 (x2 + (-1)) x3 (sI (sI σ66 1343 0 0 ((gI σ66 1343 0 0) - 1)) 1342 0 0 ((gI σ66 1342 0 0) + 1)) hk72 hx3 eN68 h
        · have h := (wpO_ite.mp h).2 q61
          refine z_iload C 0 dX12_readRule_42 rfl ?_
          refine z_bipush C dX12_readRule_44 (by decide) ?_
          refine z_icmp_eq C 56 hr55 (by decide) dX12_readRule_46 (by decide) (fun q74 => ?_) (fun q74 => ?_)
          · have h := (wpO_ite.mp h).1 q74
            refine z_sub [1, 2, 3, 4, 0] rfl ?_
            exact J56 x2 x3 r54 σ56 hx2 hx3 hr55 eN58 h
          · have h := (wpO_ite.mp h).2 q74
            refine z_iload C 0 dX12_readRule_49 rfl ?_
            refine z_bipush C dX12_readRule_51 (by decide) ?_
            refine z_icmp_ne C 80 hr55 (by decide) dX12_readRule_53 (by decide) (fun q75 => ?_) (fun q75 => ?_)
            · have h := (wpO_ite.mp h).2 q75
              refine z_aload_n C 1 dX12_readRule_80 rfl ?_
              refine z_iload_n C 2 dX12_readRule_81 rfl ?_
              refine z_cV (st := []) T C (ct_X12_takeAsking x1 hx1) lm_X12_375 lv_vX12_takeAsking dX12_readRule_82 [vi x1] rfl rfl rfl rfl rfl (sg_12 T) trivial (by decide) (Nat.le_of_ble_eq_true rfl) csOK_0 h (fun r76 σ78 hr77 eN79 h => ?_)
              have eN80 := eN79.trans eN58
              show Z κ (0, 0) _ 85 _ [vi r76] ad σ78
              refine z_rng (fun hI81 hJ82 => ?_)
              refine z_if_eq C 93 (inr_b hr77) dX12_readRule_85 (by decide) (fun q83 => ?_) (fun q83 => ?_)
              · have h := (wpO_ite.mp h).1 q83
                refine z_sub [1] rfl ?_
                have h := wpO_some.mp h
                exact hE19_93 σ78 h eN80
              · have h := (wpO_ite.mp h).2 q83
                refine z_iconst C dX12_readRule_88 ?_
                refine z_istore_n (lv2 := [(3, vi 0), (4, vi r54), (0, vo ad 12 (some 0)), (1, vi x1), (2, vi x2)]) C dX12_readRule_89 (by decide) rfl ?_
                refine z_goto C 179 dX12_readRule_90 (by decide) ?_
                refine z_sub [2, 3, 4, 0] rfl ?_
                exact J179 x2 0 σ78 hx2 (by decide) eN80 h
            · have h := (wpO_ite.mp h).1 q75
              refine z_sub [1, 2, 3, 4, 0] rfl ?_
              exact J56 x2 x3 r54 σ56 hx2 hx3 hr55 eN58 h
      refine z_rng (fun hI84 hJ85 => ?_)
      refine z_iload_n C 3 dX12_readRule_19 rfl ?_
      refine z_if_ne C 31 hx3 dX12_readRule_20 (by decide) (fun q86 => ?_) (fun q86 => ?_)
      · have h := (wpO_ite.mp h).2 q86
        exact J31 x2 x3 σ1 hx2 hx3 eN1 h
      · have h := (wpO_ite.mp h).1 q86
        refine z_aload_n C 0 dX12_readRule_23 rfl ?_
        refine z_iload_n C 1 dX12_readRule_24 rfl ?_
        refine z_cV (st := []) T C (ct_X12_peek x1 hx1) lm_X12_348 lv_vX12_peek dX12_readRule_25 [vi x1] rfl rfl rfl rfl rfl (sg_12 T) trivial (by decide) (Nat.le_of_ble_eq_true rfl) csOK_0 h (fun r87 σ89 hr88 eN90 h => ?_)
        have eN91 := eN90.trans eN1
        show Z κ (0, 0) _ 28 _ [vi r87] ad σ89
        refine z_rng (fun hI92 hJ93 => ?_)
        refine z_if_eq C 182 hr88 dX12_readRule_28 (by decide) (fun q94 => ?_) (fun q94 => ?_)
        · have h := (wpO_ite.mp h).1 q94
          refine z_sub [0, 2] rfl ?_
          have h := wpO_some.mp h
          exact hE19_182 x2 σ89 h hx2 eN91
        · have h := (wpO_ite.mp h).2 q94
          exact J31 x2 x3 σ89 hx2 hx3 eN91 h
    exact wh_ind (P := fun s : (Int × Int × St) => inr s.1 → inr s.2.1 → s.2.2.2.2.2 = σ.2.2.2 → Z κ (0, 0) (Qm κ ad σ enI okI X) 19 [(0, vo ad 12 (some 0)), (1, vi x1), (2, vi s.1), (3, vi s.2.1)] [] ad s.2.2) (fun s hs g0 g1 g2 => step _ _ (fun _ _ _ hp => hp) (fun σ1 hq eN1 => J93 σ1 eN1 hq) (fun σ1 hq eN1 => J174 σ1 eN1 hq) (fun x2 σ1 hq hx2 eN1 => J182 x2 σ1 hx2 eN1 hq) s.1 s.2.1 s.2.2 g0 g1 g2 hs) ((x2, x3, σ1)) (wpO_bnk.mp h) hx2 hx3 eN1
  show Z κ (0, 0) (Qm κ ad σ enI okI X) 0 [(0, vo ad 12 (some 0)), (1, vi x1)] [] ad σ
  refine z_rng (fun hI95 hJ96 => ?_)
  refine z_aload_n C 0 dX12_readRule_0 rfl ?_
  refine z_iconst C dX12_readRule_1 ?_
  refine z_pI C lq_X12_345 (sg_12 T) (by decide) dX12_readRule_2 ?_
  refine z_aload_n C 0 dX12_readRule_5 rfl ?_
  refine z_iconst C dX12_readRule_6 ?_
  refine z_pI C lq_X12_365 (sg_12 T) (by decide) dX12_readRule_7 ?_
  refine z_aload_n C 0 dX12_readRule_10 rfl ?_
  refine z_iconst C dX12_readRule_11 ?_
  refine z_pI C lq_X12_362 (sg_12 T) (by decide) dX12_readRule_12 ?_
  refine z_iconst C dX12_readRule_15 ?_
  refine z_istore_n (lv2 := [(2, vi 0), (0, vo ad 12 (some 0)), (1, vi x1)]) C dX12_readRule_16 (by decide) rfl ?_
  refine z_iconst C dX12_readRule_17 ?_
  refine z_istore_n (lv2 := [(3, vi 1), (2, vi 0), (0, vo ad 12 (some 0)), (1, vi x1)]) C dX12_readRule_18 (by decide) rfl ?_
  refine z_sub [2, 3, 1, 0] rfl ?_
  exact J19 x1 0 1 (sI (sI (sI σ 1342 0 0 0) 1343 0 0 0) 1345 0 0 0) hx1 (by decide) (by decide) rfl h
noncomputable def fX12_barOf_j192 (σ1 : St) : Option (Int × St) :=
  some ((-9), σ1)
noncomputable def fX12_barOf_j183 (x4 : Int) (σ1 : St) : Option (Int × St) :=
  some (x4, σ1)
noncomputable def fX12_barOf_j186 (x3 : Int) (x4 : Int) (σ1 : St) : Option ((Int × St) ⊕ ((Int × St) ⊕ St)) :=
  ck (inr (x4 + 1)) (some (.inl ((x4 + 1, σ1))))
noncomputable def fX12_barOf_j156 (x3 : Int) (x4 : Int) (s0 : Int) (σ1 : St) : Option ((Int × St) ⊕ ((Int × St) ⊕ St)) :=
  if s0 = 0 then (fX12_barOf_j186 x3 x4 σ1) else (bnd (fX12_readRule x4 σ1) (fun r11 σ13 => if r11 = (-9) then (if gI σ13 1346 0 0 = 0 then (fX12_barOf_j186 x3 x4 σ13) else (some (.inr (.inl ((x4, σ13)))))) else (fX12_barOf_j186 x3 x4 σ13)))
noncomputable def fX12_barOf_j155 (x3 : Int) (x4 : Int) (σ1 : St) : Option ((Int × St) ⊕ ((Int × St) ⊕ St)) :=
  fX12_barOf_j156 x3 x4 0 σ1
noncomputable def fX12_barOf_j151 (x3 : Int) (x4 : Int) (σ1 : St) : Option ((Int × St) ⊕ ((Int × St) ⊕ St)) :=
  fX12_barOf_j156 x3 x4 1 σ1
noncomputable def fX12_barOf_l108 (x3 : Int) (x4 : Int) (σ1 : St) : Option ((Int × St) ⊕ ((Int × St) ⊕ St)) :=
  if gI σ1 1337 0 0 ≤ x4 then (some (.inr (.inr (σ1)))) else (ck (0 ≤ x4 ∧ x4 < 6) (if x3 < gI σ1 1338 0 x4.toNat then (fX12_barOf_j155 x3 x4 σ1) else (ck (0 ≤ x4 ∧ x4 < 6) (if gI σ1 1339 0 x4.toNat = (-9) then (fX12_barOf_j151 x3 x4 σ1) else (ck (0 ≤ x4 ∧ x4 < 6) (if gI σ1 1339 0 x4.toNat ≤ x3 then (fX12_barOf_j155 x3 x4 σ1) else (fX12_barOf_j151 x3 x4 σ1)))))))
noncomputable def fX12_barOf_j108 (x3 : Int) (x4 : Int) (σ1 : St) : Option (Int × St) :=
  bnk (wh (fun s => fX12_barOf_l108 x3 s.1 s.2) ((x4, σ1))) (fun e => Sum.elim (fun a0 => fX12_barOf_j183 a0.1 a0.2) (fun b0 => fX12_barOf_j192 b0) e)
noncomputable def fX12_barOf_j78 (x1 : Int) (x3 : Int) (s1 : Int) (s2 : Int) (σ1 : St) : Option (Int × St) :=
  ck (0 ≤ s1 ∧ s1 < 8) (bnk (fX12_manyOf x1 1 (sI σ1 1347 0 s1.toNat s2)) (fun r36 => bnk (fX12_manyOf x1 2 (sI (sI σ1 1347 0 s1.toNat s2) 1347 0 6 r36)) (fun r38 => fX12_barOf_j108 x3 0 (sI (sI (sI σ1 1347 0 s1.toNat s2) 1347 0 6 r36) 1347 0 7 r38))))
noncomputable def fX12_barOf (x1 : Int) (x2 : Int) (x3 : Int) (σ : St) : Option (Int × St) :=
  ck (0 ≤ x1 ∧ x1 < 8) (ck (0 ≤ x1 ∧ x1 < 8) (bnk (fX12_feetOf x1 (sI (sI (sI σ 1347 0 0 (gI σ 1327 0 x1.toNat)) 1347 0 1 (gI σ 1328 0 x1.toNat)) 1347 0 2 x2)) (fun r44 => bnk (fX12_manyOf x1 0 (sI (sI (sI (sI σ 1347 0 0 (gI σ 1327 0 x1.toNat)) 1347 0 1 (gI σ 1328 0 x1.toNat)) 1347 0 2 x2) 1347 0 3 r44)) (fun r46 => ck (0 ≤ x1 ∧ x1 < 8) (if gI σ 1333 0 x1.toNat = 0 then (fX12_barOf_j78 x1 x3 5 r46 (sI (sI (sI (sI (sI σ 1347 0 0 (gI σ 1327 0 x1.toNat)) 1347 0 1 (gI σ 1328 0 x1.toNat)) 1347 0 2 x2) 1347 0 3 r44) 1347 0 4 r46)) else (fX12_barOf_j78 x1 x3 5 0 (sI (sI (sI (sI (sI σ 1347 0 0 (gI σ 1327 0 x1.toNat)) 1347 0 1 (gI σ 1328 0 x1.toNat)) 1347 0 2 x2) 1347 0 3 r44) 1347 0 4 r46)))))))
set_option maxRecDepth 20000 in
set_option maxHeartbeats 4000000 in
theorem ct_X12_barOf (x1 : Int) (x2 : Int) (x3 : Int) (hx1 : inr x1) (hx2 : inr x2) (hx3 : inr x3) : Ct yX12_barOf cX12_barOf 6 (some .int) 4 (fun ad => [vo ad 12 (some 0), vi x1, vi x2, vi x3]) (fX12_barOf x1 x2 x3) enI okI (fun _ => True) := by
  refine Ct.of (by decide) (fun ad => Nat.le_of_ble_eq_true rfl) ?_
  intro κ ad σ X C T hpre h
  have C : Cx κ RX12 cX12_barOf 6 (some .int) 4 := C
  unfold fX12_barOf at h
  have J192 : ∀ (σ1 : St), σ1.2.2.2 = σ.2.2.2 → wpO (fX12_barOf_j192 σ1) (fun q => X q.1 q.2) → Z κ (0, 0) (Qm κ ad σ enI okI X) 192 [] [] ad σ1 := by
    intro σ1 eN1 h
    unfold fX12_barOf_j192 at h
    refine z_rng (fun hI1 hJ2 => ?_)
    refine z_bipush C dX12_barOf_192 (by decide) ?_
    have h := wpO_some.mp h
    exact z_ireturn T C dX12_barOf_194 (by decide) eN1 h
  have J183 : ∀ (x4 : Int) (σ1 : St), inr x4 → σ1.2.2.2 = σ.2.2.2 → wpO (fX12_barOf_j183 x4 σ1) (fun q => X q.1 q.2) → Z κ (0, 0) (Qm κ ad σ enI okI X) 183 [(4, vi x4)] [] ad σ1 := by
    intro x4 σ1 hx4 eN1 h
    unfold fX12_barOf_j183 at h
    refine z_rng (fun hI3 hJ4 => ?_)
    refine z_iload C 0 dX12_barOf_183 rfl ?_
    have h := wpO_some.mp h
    exact z_ireturn T C dX12_barOf_185 hx4 eN1 h
  have J108 : ∀ (x3 : Int) (x4 : Int) (σ1 : St), inr x3 → inr x4 → σ1.2.2.2 = σ.2.2.2 → wpO (fX12_barOf_j108 x3 x4 σ1) (fun q => X q.1 q.2) → Z κ (0, 0) (Qm κ ad σ enI okI X) 108 [(0, vo ad 12 (some 0)), (3, vi x3), (4, vi x4)] [] ad σ1 := by
    intro x3 x4 σ1 hx3 hx4 eN1 h
    unfold fX12_barOf_j108 at h
    have step : ∀ (P108 : (Int × St) → Prop) (Q108 : ((Int × St) ⊕ St) → Prop), (∀ (x4 : Int) (σ1 : St), P108 ((x4, σ1)) → inr x4 → σ1.2.2.2 = σ.2.2.2 → Z κ (0, 0) (Qm κ ad σ enI okI X) 108 [(0, vo ad 12 (some 0)), (3, vi x3), (4, vi x4)] [] ad σ1) → (∀ (x4 : Int) (σ1 : St), Q108 (.inl ((x4, σ1))) → inr x4 → σ1.2.2.2 = σ.2.2.2 → Z κ (0, 0) (Qm κ ad σ enI okI X) 183 [(4, vi x4)] [] ad σ1) → (∀ (σ1 : St), Q108 (.inr (σ1)) → σ1.2.2.2 = σ.2.2.2 → Z κ (0, 0) (Qm κ ad σ enI okI X) 192 [] [] ad σ1) → ∀ (x4 : Int) (σ1 : St), inr x4 → σ1.2.2.2 = σ.2.2.2 → wpO (fX12_barOf_l108 x3 x4 σ1) (onS P108 Q108) → Z κ (0, 0) (Qm κ ad σ enI okI X) 108 [(0, vo ad 12 (some 0)), (3, vi x3), (4, vi x4)] [] ad σ1 := by
      intro P108 Q108 hP108 hE108_183 hE108_192 x4 σ1 hx4 eN1 h
      unfold fX12_barOf_l108 at h
      have J186 : ∀ (x4 : Int) (σ1 : St), inr x4 → σ1.2.2.2 = σ.2.2.2 → wpO (fX12_barOf_j186 x3 x4 σ1) (onS P108 Q108) → Z κ (0, 0) (Qm κ ad σ enI okI X) 186 [(0, vo ad 12 (some 0)), (3, vi x3), (4, vi x4)] [] ad σ1 := by
        intro x4 σ1 hx4 eN1 h
        unfold fX12_barOf_j186 at h
        refine z_rng (fun hI5 hJ6 => ?_)
        obtain ⟨hk7, h⟩ := wpO_ck.mp h
        refine z_iinc (lv2 := [(4, vi (x4 + 1)), (0, vo ad 12 (some 0)), (3, vi x3)]) C 2 dX12_barOf_186 rfl (by decide) rfl ?_
        refine z_goto C 108 dX12_barOf_189 (by decide) ?_
        refine z_sub [1, 2, 0] rfl ?_
        have h := wpO_some.mp h
        exact hP108 (x4 + 1) σ1 h hk7 eN1
      have J156 : ∀ (x4 : Int) (s0 : Int) (σ1 : St), inr x4 → inr s0 → σ1.2.2.2 = σ.2.2.2 → wpO (fX12_barOf_j156 x3 x4 s0 σ1) (onS P108 Q108) → Z κ (0, 0) (Qm κ ad σ enI okI X) 156 [(0, vo ad 12 (some 0)), (3, vi x3), (4, vi x4)] [vi s0] ad σ1 := by
        intro x4 s0 σ1 hx4 hs0 eN1 h
        unfold fX12_barOf_j156 at h
        refine z_rng (fun hI8 hJ9 => ?_)
        refine z_istore (lv2 := [(5, vi s0), (0, vo ad 12 (some 0)), (3, vi x3), (4, vi x4)]) C dX12_barOf_156 (by decide) rfl ?_
        refine z_iload C 0 dX12_barOf_158 rfl ?_
        refine z_if_eq C 186 hs0 dX12_barOf_160 (by decide) (fun q10 => ?_) (fun q10 => ?_)
        · have h := (wpO_ite.mp h).1 q10
          refine z_sub [1, 2, 3] rfl ?_
          exact J186 x4 σ1 hx4 eN1 h
        · have h := (wpO_ite.mp h).2 q10
          refine z_aload_n C 1 dX12_barOf_163 rfl ?_
          refine z_iload C 3 dX12_barOf_164 rfl ?_
          refine z_cV (st := []) T C (ct_X12_readRule x4 hx4) lm_X12_381 lv_vX12_readRule dX12_barOf_166 [vi x4] rfl rfl rfl rfl rfl (sg_12 T) trivial (by decide) (Nat.le_of_ble_eq_true rfl) csOK_0 h (fun r11 σ13 hr12 eN14 h => ?_)
          have eN15 := eN14.trans eN1
          show Z κ (0, 0) _ 169 _ [vi r11] ad σ13
          refine z_rng (fun hI16 hJ17 => ?_)
          refine z_bipush C dX12_barOf_169 (by decide) ?_
          refine z_icmp_ne C 186 hr12 (by decide) dX12_barOf_171 (by decide) (fun q18 => ?_) (fun q18 => ?_)
          · have h := (wpO_ite.mp h).2 q18
            refine z_sub [1, 2, 3] rfl ?_
            exact J186 x4 σ13 hx4 eN15 h
          · have h := (wpO_ite.mp h).1 q18
            refine z_aload_n C 1 dX12_barOf_174 rfl ?_
            refine z_gA T C li_X12_126 (sg_12 T) dX12_barOf_175 ?_
            refine z_iconst C dX12_barOf_178 ?_
            refine z_bav (v := gI σ13 1346 0 0) C ar_1346 (sg_1346 T) (by decide) (by decide) rfl dX12_barOf_179 ?_
            refine z_if_eq C 186 (hI16 1346 0 _) dX12_barOf_180 (by decide) (fun q19 => ?_) (fun q19 => ?_)
            · have h := (wpO_ite.mp h).1 q19
              refine z_sub [1, 2, 3] rfl ?_
              exact J186 x4 σ13 hx4 eN15 h
            · have h := (wpO_ite.mp h).2 q19
              refine z_sub [3] rfl ?_
              have h := wpO_some.mp h
              exact hE108_183 x4 σ13 h hx4 eN15
      have J155 : ∀ (x4 : Int) (σ1 : St), inr x4 → σ1.2.2.2 = σ.2.2.2 → wpO (fX12_barOf_j155 x3 x4 σ1) (onS P108 Q108) → Z κ (0, 0) (Qm κ ad σ enI okI X) 155 [(0, vo ad 12 (some 0)), (3, vi x3), (4, vi x4)] [] ad σ1 := by
        intro x4 σ1 hx4 eN1 h
        unfold fX12_barOf_j155 at h
        refine z_rng (fun hI20 hJ21 => ?_)
        refine z_iconst C dX12_barOf_155 ?_
        exact J156 x4 0 σ1 hx4 (by decide) eN1 h
      have J151 : ∀ (x4 : Int) (σ1 : St), inr x4 → σ1.2.2.2 = σ.2.2.2 → wpO (fX12_barOf_j151 x3 x4 σ1) (onS P108 Q108) → Z κ (0, 0) (Qm κ ad σ enI okI X) 151 [(0, vo ad 12 (some 0)), (3, vi x3), (4, vi x4)] [] ad σ1 := by
        intro x4 σ1 hx4 eN1 h
        unfold fX12_barOf_j151 at h
        refine z_rng (fun hI22 hJ23 => ?_)
        refine z_iconst C dX12_barOf_151 ?_
        refine z_goto C 156 dX12_barOf_152 (by decide) ?_
        exact J156 x4 1 σ1 hx4 (by decide) eN1 h
      refine z_rng (fun hI24 hJ25 => ?_)
      refine z_iload C 2 dX12_barOf_108 rfl ?_
      refine z_aload_n C 0 dX12_barOf_110 rfl ?_
      refine z_gIv (v := gI σ1 1337 0 0) C li_X12_336 (sg_12 T) rfl dX12_barOf_111 ?_
      refine z_icmp_ge C 192 hx4 (hI24 1337 0 _) dX12_barOf_114 (by decide) (fun q26 => ?_) (fun q26 => ?_)
      · have h := (wpO_ite.mp h).1 q26
        refine z_sub [] rfl ?_
        have h := wpO_some.mp h
        exact hE108_192 σ1 h eN1
      · have h := (wpO_ite.mp h).2 q26
        refine z_aload_n C 0 dX12_barOf_117 rfl ?_
        refine z_gA T C li_X12_111 (sg_12 T) dX12_barOf_118 ?_
        refine z_iload C 2 dX12_barOf_121 rfl ?_
        obtain ⟨hb27, h⟩ := wpO_ck.mp h
        refine z_iav (v := gI σ1 1338 0 x4.toNat) C ar_1338 (sg_1338 T) hx4 hb27 rfl dX12_barOf_123 ?_
        refine z_iload_n C 1 dX12_barOf_124 rfl ?_
        refine z_icmp_gt C 155 (hI24 1338 0 _) hx3 dX12_barOf_125 (by decide) (fun q28 => ?_) (fun q28 => ?_)
        · have h := (wpO_ite.mp h).1 q28
          exact J155 x4 σ1 hx4 eN1 h
        · have h := (wpO_ite.mp h).2 q28
          refine z_aload_n C 0 dX12_barOf_128 rfl ?_
          refine z_gA T C li_X12_114 (sg_12 T) dX12_barOf_129 ?_
          refine z_iload C 2 dX12_barOf_132 rfl ?_
          obtain ⟨hb29, h⟩ := wpO_ck.mp h
          refine z_iav (v := gI σ1 1339 0 x4.toNat) C ar_1339 (sg_1339 T) hx4 hb29 rfl dX12_barOf_134 ?_
          refine z_bipush C dX12_barOf_135 (by decide) ?_
          refine z_icmp_eq C 151 (hI24 1339 0 _) (by decide) dX12_barOf_137 (by decide) (fun q30 => ?_) (fun q30 => ?_)
          · have h := (wpO_ite.mp h).1 q30
            exact J151 x4 σ1 hx4 eN1 h
          · have h := (wpO_ite.mp h).2 q30
            refine z_iload_n C 1 dX12_barOf_140 rfl ?_
            refine z_aload_n C 0 dX12_barOf_141 rfl ?_
            refine z_gA T C li_X12_114 (sg_12 T) dX12_barOf_142 ?_
            refine z_iload C 2 dX12_barOf_145 rfl ?_
            obtain ⟨hb31, h⟩ := wpO_ck.mp h
            refine z_iav (v := gI σ1 1339 0 x4.toNat) C ar_1339 (sg_1339 T) hx4 hb31 rfl dX12_barOf_147 ?_
            refine z_icmp_ge C 155 hx3 (hI24 1339 0 _) dX12_barOf_148 (by decide) (fun q32 => ?_) (fun q32 => ?_)
            · have h := (wpO_ite.mp h).1 q32
              exact J155 x4 σ1 hx4 eN1 h
            · have h := (wpO_ite.mp h).2 q32
              exact J151 x4 σ1 hx4 eN1 h
    exact wh_ind (P := fun s : (Int × St) => inr s.1 → s.2.2.2.2 = σ.2.2.2 → Z κ (0, 0) (Qm κ ad σ enI okI X) 108 [(0, vo ad 12 (some 0)), (3, vi x3), (4, vi s.1)] [] ad s.2) (fun s hs g0 g1 => step _ _ (fun _ _ hp => hp) (fun x4 σ1 hq hx4 eN1 => J183 x4 σ1 hx4 eN1 hq) (fun σ1 hq eN1 => J192 σ1 eN1 hq) s.1 s.2 g0 g1 hs) ((x4, σ1)) (wpO_bnk.mp h) hx4 eN1
  have J78 : ∀ (x1 : Int) (x3 : Int) (s1 : Int) (s2 : Int) (σ1 : St), inr x1 → inr x3 → inr s1 → inr s2 → σ1.2.2.2 = σ.2.2.2 → wpO (fX12_barOf_j78 x1 x3 s1 s2 σ1) (fun q => X q.1 q.2) → Z κ (0, 0) (Qm κ ad σ enI okI X) 78 [(0, vo ad 12 (some 0)), (1, vi x1), (3, vi x3)] [vi s2, vi s1, vo ad 1347 (some 0)] ad σ1 := by
    intro x1 x3 s1 s2 σ1 hx1 hx3 hs1 hs2 eN1 h
    unfold fX12_barOf_j78 at h
    refine z_rng (fun hI33 hJ34 => ?_)
    obtain ⟨hb35, h⟩ := wpO_ck.mp h
    refine z_iastore C ar_1347 (sg_1347 T) hs1 hb35 hs2 dX12_barOf_78 ?_
    refine z_aload_n C 0 dX12_barOf_79 rfl ?_
    refine z_gA T C li_X12_129 (sg_12 T) dX12_barOf_80 ?_
    refine z_bipush C dX12_barOf_83 (by decide) ?_
    refine z_aload_n C 0 dX12_barOf_85 rfl ?_
    refine z_iload_n C 1 dX12_barOf_86 rfl ?_
    refine z_iconst C dX12_barOf_87 ?_
    refine z_cVp (st := [vi 6, vo ad 1347 (some 0)]) T C (ct_X12_manyOf x1 1 hx1 (by decide)) lm_X12_326 lv_vX12_manyOf dX12_barOf_88 [vi x1, vi 1] rfl rfl rfl rfl rfl (sg_12 T) trivial (by decide) (Nat.le_of_ble_eq_true rfl) csOK_0 h (fun r36 hr37 h => ?_)
    show Z κ (0, 0) _ 91 _ [vi r36, vi 6, vo ad 1347 (some 0)] ad (sI σ1 1347 0 s1.toNat s2)
    refine z_iastore C ar_1347 (sg_1347 T) (by decide) (by decide) hr37 dX12_barOf_91 ?_
    refine z_aload_n C 0 dX12_barOf_92 rfl ?_
    refine z_gA T C li_X12_129 (sg_12 T) dX12_barOf_93 ?_
    refine z_bipush C dX12_barOf_96 (by decide) ?_
    refine z_aload_n C 0 dX12_barOf_98 rfl ?_
    refine z_iload_n C 1 dX12_barOf_99 rfl ?_
    refine z_iconst C dX12_barOf_100 ?_
    refine z_cVp (st := [vi 7, vo ad 1347 (some 0)]) T C (ct_X12_manyOf x1 2 hx1 (by decide)) lm_X12_326 lv_vX12_manyOf dX12_barOf_101 [vi x1, vi 2] rfl rfl rfl rfl rfl (sg_12 T) trivial (by decide) (Nat.le_of_ble_eq_true rfl) csOK_0 h (fun r38 hr39 h => ?_)
    show Z κ (0, 0) _ 104 _ [vi r38, vi 7, vo ad 1347 (some 0)] ad (sI (sI σ1 1347 0 s1.toNat s2) 1347 0 6 r36)
    refine z_iastore C ar_1347 (sg_1347 T) (by decide) (by decide) hr39 dX12_barOf_104 ?_
    refine z_iconst C dX12_barOf_105 ?_
    refine z_istore (lv2 := [(4, vi 0), (0, vo ad 12 (some 0)), (1, vi x1), (3, vi x3)]) C dX12_barOf_106 (by decide) rfl ?_
    refine z_sub [1, 3, 0] rfl ?_
    exact J108 x3 0 (sI (sI (sI σ1 1347 0 s1.toNat s2) 1347 0 6 r36) 1347 0 7 r38) hx3 (by decide) eN1 h
  show Z κ (0, 0) (Qm κ ad σ enI okI X) 0 [(0, vo ad 12 (some 0)), (1, vi x1), (2, vi x2), (3, vi x3)] [] ad σ
  refine z_rng (fun hI40 hJ41 => ?_)
  refine z_aload_n C 0 dX12_barOf_0 rfl ?_
  refine z_gA T C li_X12_129 (sg_12 T) dX12_barOf_1 ?_
  refine z_iconst C dX12_barOf_4 ?_
  refine z_aload_n C 0 dX12_barOf_5 rfl ?_
  refine z_gA T C li_X12_80 (sg_12 T) dX12_barOf_6 ?_
  refine z_iload_n C 1 dX12_barOf_9 rfl ?_
  obtain ⟨hb42, h⟩ := wpO_ck.mp h
  refine z_iav (v := gI σ 1327 0 x1.toNat) C ar_1327 (sg_1327 T) hx1 hb42 rfl dX12_barOf_10 ?_
  refine z_iastore C ar_1347 (sg_1347 T) (by decide) (by decide) (hI40 1327 0 _) dX12_barOf_11 ?_
  refine z_aload_n C 0 dX12_barOf_12 rfl ?_
  refine z_gA T C li_X12_129 (sg_12 T) dX12_barOf_13 ?_
  refine z_iconst C dX12_barOf_16 ?_
  refine z_aload_n C 0 dX12_barOf_17 rfl ?_
  refine z_gA T C li_X12_83 (sg_12 T) dX12_barOf_18 ?_
  refine z_iload_n C 1 dX12_barOf_21 rfl ?_
  obtain ⟨hb43, h⟩ := wpO_ck.mp h
  refine z_iav (v := gI σ 1328 0 x1.toNat) C ar_1328 (sg_1328 T) hx1 hb43 (gn (by decide) rfl) dX12_barOf_22 ?_
  refine z_iastore C ar_1347 (sg_1347 T) (by decide) (by decide) (hI40 1328 0 _) dX12_barOf_23 ?_
  refine z_aload_n C 0 dX12_barOf_24 rfl ?_
  refine z_gA T C li_X12_129 (sg_12 T) dX12_barOf_25 ?_
  refine z_iconst C dX12_barOf_28 ?_
  refine z_iload_n C 2 dX12_barOf_29 rfl ?_
  refine z_iastore C ar_1347 (sg_1347 T) (by decide) (by decide) hx2 dX12_barOf_30 ?_
  refine z_aload_n C 0 dX12_barOf_31 rfl ?_
  refine z_gA T C li_X12_129 (sg_12 T) dX12_barOf_32 ?_
  refine z_iconst C dX12_barOf_35 ?_
  refine z_aload_n C 0 dX12_barOf_36 rfl ?_
  refine z_iload_n C 1 dX12_barOf_37 rfl ?_
  refine z_cVp (st := [vi 3, vo ad 1347 (some 0)]) T C (ct_X12_feetOf x1 hx1) lm_X12_319 lv_vX12_feetOf dX12_barOf_38 [vi x1] rfl rfl rfl rfl rfl (sg_12 T) trivial (by decide) (Nat.le_of_ble_eq_true rfl) csOK_0 h (fun r44 hr45 h => ?_)
  show Z κ (0, 0) _ 41 _ [vi r44, vi 3, vo ad 1347 (some 0)] ad (sI (sI (sI σ 1347 0 0 (gI σ 1327 0 x1.toNat)) 1347 0 1 (gI σ 1328 0 x1.toNat)) 1347 0 2 x2)
  refine z_iastore C ar_1347 (sg_1347 T) (by decide) (by decide) hr45 dX12_barOf_41 ?_
  refine z_aload_n C 0 dX12_barOf_42 rfl ?_
  refine z_gA T C li_X12_129 (sg_12 T) dX12_barOf_43 ?_
  refine z_iconst C dX12_barOf_46 ?_
  refine z_aload_n C 0 dX12_barOf_47 rfl ?_
  refine z_iload_n C 1 dX12_barOf_48 rfl ?_
  refine z_iconst C dX12_barOf_49 ?_
  refine z_cVp (st := [vi 4, vo ad 1347 (some 0)]) T C (ct_X12_manyOf x1 0 hx1 (by decide)) lm_X12_326 lv_vX12_manyOf dX12_barOf_50 [vi x1, vi 0] rfl rfl rfl rfl rfl (sg_12 T) trivial (by decide) (Nat.le_of_ble_eq_true rfl) csOK_0 h (fun r46 hr47 h => ?_)
  show Z κ (0, 0) _ 53 _ [vi r46, vi 4, vo ad 1347 (some 0)] ad (sI (sI (sI (sI σ 1347 0 0 (gI σ 1327 0 x1.toNat)) 1347 0 1 (gI σ 1328 0 x1.toNat)) 1347 0 2 x2) 1347 0 3 r44)
  refine z_iastore C ar_1347 (sg_1347 T) (by decide) (by decide) hr47 dX12_barOf_53 ?_
  refine z_aload_n C 0 dX12_barOf_54 rfl ?_
  refine z_gA T C li_X12_129 (sg_12 T) dX12_barOf_55 ?_
  refine z_iconst C dX12_barOf_58 ?_
  refine z_aload_n C 0 dX12_barOf_59 rfl ?_
  refine z_gA T C li_X12_98 (sg_12 T) dX12_barOf_60 ?_
  refine z_iload_n C 1 dX12_barOf_63 rfl ?_
  obtain ⟨hb48, h⟩ := wpO_ck.mp h
  refine z_bav (v := gI σ 1333 0 x1.toNat) C ar_1333 (sg_1333 T) hx1 hb48 (gn (by decide) (gn (by decide) (gn (by decide) (gn (by decide) (gn (by decide) rfl))))) dX12_barOf_64 ?_
  refine z_if_eq C 72 (hI40 1333 0 _) dX12_barOf_65 (by decide) (fun q49 => ?_) (fun q49 => ?_)
  · have h := (wpO_ite.mp h).1 q49
    refine z_aload_n C 0 dX12_barOf_72 rfl ?_
    refine z_gA T C li_X12_129 (sg_12 T) dX12_barOf_73 ?_
    refine z_iconst C dX12_barOf_76 ?_
    refine z_iav (v := r46) C ar_1347 (sg_1347 T) (by decide) (by decide) gs dX12_barOf_77 ?_
    refine z_sub [0, 1, 3] rfl ?_
    exact J78 x1 x3 5 r46 (sI (sI (sI (sI (sI σ 1347 0 0 (gI σ 1327 0 x1.toNat)) 1347 0 1 (gI σ 1328 0 x1.toNat)) 1347 0 2 x2) 1347 0 3 r44) 1347 0 4 r46) hx1 hx3 (by decide) hr47 rfl h
  · have h := (wpO_ite.mp h).2 q49
    refine z_iconst C dX12_barOf_68 ?_
    refine z_goto C 78 dX12_barOf_69 (by decide) ?_
    refine z_sub [0, 1, 3] rfl ?_
    exact J78 x1 x3 5 0 (sI (sI (sI (sI (sI σ 1347 0 0 (gI σ 1327 0 x1.toNat)) 1347 0 1 (gI σ 1328 0 x1.toNat)) 1347 0 2 x2) 1347 0 3 r44) 1347 0 4 r46) hx1 hx3 (by decide) (by decide) rfl h
noncomputable def fX12_isAllowed_j36 (x1 : Int) (x2 : Int) (x3 : Int) (s0 : Int) (σ1 : St) : Option (Int × St) :=
  if s0 = 0 then (some (0, σ1)) else (bnd (fX12_barOf x1 x2 x3 σ1) (fun r4 σ6 => if r4 = (-9) then (some (1, σ6)) else (some (0, σ6))))
noncomputable def fX12_isAllowed_j31 (x1 : Int) (x2 : Int) (x3 : Int) (σ1 : St) : Option (Int × St) :=
  fX12_isAllowed_j36 x1 x2 x3 1 σ1
noncomputable def fX12_isAllowed (x1 : Int) (x2 : Int) (x3 : Int) (σ : St) : Option (Int × St) :=
  ck (0 ≤ x1 ∧ x1 < 8) (ck (0 ≤ gI σ 1327 0 x1.toNat ∧ gI σ 1327 0 x1.toNat < 16) (if gI σ 1348 0 ((gI σ 1327 0 x1.toNat).toNat) = 0 then (fX12_isAllowed_j31 x1 x2 x3 σ) else (ck (0 ≤ x1 ∧ x1 < 8) (bnk (fX12_rightTo (gI σ 1327 0 x1.toNat) x2 x3 σ) (fun r20 => if r20 = (-9) then (fX12_isAllowed_j36 x1 x2 x3 0 σ) else (fX12_isAllowed_j31 x1 x2 x3 σ))))))
set_option maxRecDepth 20000 in
set_option maxHeartbeats 4000000 in
theorem ct_X12_isAllowed (x1 : Int) (x2 : Int) (x3 : Int) (hx1 : inr x1) (hx2 : inr x2) (hx3 : inr x3) : Ct yX12_isAllowed cX12_isAllowed 5 (some .boolean) 5 (fun ad => [vo ad 12 (some 0), vi x1, vi x2, vi x3]) (fX12_isAllowed x1 x2 x3) enI okB (fun _ => True) := by
  refine Ct.of (by decide) (fun ad => Nat.le_of_ble_eq_true rfl) ?_
  intro κ ad σ X C T hpre h
  have C : Cx κ RX12 cX12_isAllowed 5 (some .boolean) 5 := C
  unfold fX12_isAllowed at h
  have J36 : ∀ (x1 : Int) (x2 : Int) (x3 : Int) (s0 : Int) (σ1 : St), inr x1 → inr x2 → inr x3 → inr s0 → σ1.2.2.2 = σ.2.2.2 → wpO (fX12_isAllowed_j36 x1 x2 x3 s0 σ1) (fun q => X q.1 q.2) → Z κ (0, 0) (Qm κ ad σ enI okB X) 36 [(0, vo ad 12 (some 0)), (1, vi x1), (2, vi x2), (3, vi x3)] [vi s0] ad σ1 := by
    intro x1 x2 x3 s0 σ1 hx1 hx2 hx3 hs0 eN1 h
    unfold fX12_isAllowed_j36 at h
    refine z_rng (fun hI1 hJ2 => ?_)
    refine z_istore (lv2 := [(4, vi s0), (0, vo ad 12 (some 0)), (1, vi x1), (2, vi x2), (3, vi x3)]) C dX12_isAllowed_36 (by decide) rfl ?_
    refine z_iload C 0 dX12_isAllowed_38 rfl ?_
    refine z_if_eq C 59 hs0 dX12_isAllowed_40 (by decide) (fun q3 => ?_) (fun q3 => ?_)
    · have h := (wpO_ite.mp h).1 q3
      refine z_iconst C dX12_isAllowed_59 ?_
      have h := wpO_some.mp h
      exact z_breturn T C dX12_isAllowed_60 (by decide) eN1 h
    · have h := (wpO_ite.mp h).2 q3
      refine z_aload_n C 1 dX12_isAllowed_43 rfl ?_
      refine z_iload_n C 2 dX12_isAllowed_44 rfl ?_
      refine z_iload_n C 3 dX12_isAllowed_45 rfl ?_
      refine z_iload_n C 4 dX12_isAllowed_46 rfl ?_
      refine z_cV (st := []) T C (ct_X12_barOf x1 x2 x3 hx1 hx2 hx3) lm_X12_392 lv_vX12_barOf dX12_isAllowed_47 [vi x1, vi x2, vi x3] rfl rfl rfl rfl rfl (sg_12 T) trivial (by decide) (Nat.le_of_ble_eq_true rfl) csOK_0 h (fun r4 σ6 hr5 eN7 h => ?_)
      have eN8 := eN7.trans eN1
      show Z κ (0, 0) _ 50 _ [vi r4] ad σ6
      refine z_rng (fun hI9 hJ10 => ?_)
      refine z_bipush C dX12_isAllowed_50 (by decide) ?_
      refine z_icmp_ne C 59 hr5 (by decide) dX12_isAllowed_52 (by decide) (fun q11 => ?_) (fun q11 => ?_)
      · have h := (wpO_ite.mp h).2 q11
        refine z_iconst C dX12_isAllowed_59 ?_
        have h := wpO_some.mp h
        exact z_breturn T C dX12_isAllowed_60 (by decide) eN8 h
      · have h := (wpO_ite.mp h).1 q11
        refine z_iconst C dX12_isAllowed_55 ?_
        refine z_goto C 60 dX12_isAllowed_56 (by decide) ?_
        have h := wpO_some.mp h
        exact z_breturn T C dX12_isAllowed_60 (by decide) eN8 h
  have J31 : ∀ (x1 : Int) (x2 : Int) (x3 : Int) (σ1 : St), inr x1 → inr x2 → inr x3 → σ1.2.2.2 = σ.2.2.2 → wpO (fX12_isAllowed_j31 x1 x2 x3 σ1) (fun q => X q.1 q.2) → Z κ (0, 0) (Qm κ ad σ enI okB X) 31 [(0, vo ad 12 (some 0)), (1, vi x1), (2, vi x2), (3, vi x3)] [] ad σ1 := by
    intro x1 x2 x3 σ1 hx1 hx2 hx3 eN1 h
    unfold fX12_isAllowed_j31 at h
    refine z_rng (fun hI12 hJ13 => ?_)
    refine z_iconst C dX12_isAllowed_31 ?_
    refine z_goto C 36 dX12_isAllowed_32 (by decide) ?_
    exact J36 x1 x2 x3 1 σ1 hx1 hx2 hx3 (by decide) eN1 h
  show Z κ (0, 0) (Qm κ ad σ enI okB X) 0 [(0, vo ad 12 (some 0)), (1, vi x1), (2, vi x2), (3, vi x3)] [] ad σ
  refine z_rng (fun hI14 hJ15 => ?_)
  refine z_aload_n C 0 dX12_isAllowed_0 rfl ?_
  refine z_gA T C li_X12_132 (sg_12 T) dX12_isAllowed_1 ?_
  refine z_aload_n C 0 dX12_isAllowed_4 rfl ?_
  refine z_gA T C li_X12_80 (sg_12 T) dX12_isAllowed_5 ?_
  refine z_iload_n C 1 dX12_isAllowed_8 rfl ?_
  obtain ⟨hb16, h⟩ := wpO_ck.mp h
  refine z_iav (v := gI σ 1327 0 x1.toNat) C ar_1327 (sg_1327 T) hx1 hb16 rfl dX12_isAllowed_9 ?_
  obtain ⟨hb17, h⟩ := wpO_ck.mp h
  refine z_bav (v := gI σ 1348 0 ((gI σ 1327 0 x1.toNat).toNat)) C ar_1348 (sg_1348 T) (hI14 1327 0 _) hb17 rfl dX12_isAllowed_10 ?_
  refine z_if_eq C 31 (hI14 1348 0 _) dX12_isAllowed_11 (by decide) (fun q18 => ?_) (fun q18 => ?_)
  · have h := (wpO_ite.mp h).1 q18
    exact J31 x1 x2 x3 σ hx1 hx2 hx3 rfl h
  · have h := (wpO_ite.mp h).2 q18
    refine z_aload_n C 0 dX12_isAllowed_14 rfl ?_
    refine z_aload_n C 0 dX12_isAllowed_15 rfl ?_
    refine z_gA T C li_X12_80 (sg_12 T) dX12_isAllowed_16 ?_
    refine z_iload_n C 1 dX12_isAllowed_19 rfl ?_
    obtain ⟨hb19, h⟩ := wpO_ck.mp h
    refine z_iav (v := gI σ 1327 0 x1.toNat) C ar_1327 (sg_1327 T) hx1 hb19 rfl dX12_isAllowed_20 ?_
    refine z_iload_n C 2 dX12_isAllowed_21 rfl ?_
    refine z_iload_n C 3 dX12_isAllowed_22 rfl ?_
    refine z_cVp (st := []) T C (ct_X12_rightTo (gI σ 1327 0 x1.toNat) x2 x3 (hI14 1327 0 _) hx2 hx3) lm_X12_400 lv_vX12_rightTo dX12_isAllowed_23 [vi (gI σ 1327 0 x1.toNat), vi x2, vi x3] rfl rfl rfl rfl rfl (sg_12 T) trivial (by decide) (Nat.le_of_ble_eq_true rfl) csOK_0 h (fun r20 hr21 h => ?_)
    show Z κ (0, 0) _ 26 _ [vi r20] ad σ
    refine z_bipush C dX12_isAllowed_26 (by decide) ?_
    refine z_icmp_eq C 35 hr21 (by decide) dX12_isAllowed_28 (by decide) (fun q22 => ?_) (fun q22 => ?_)
    · have h := (wpO_ite.mp h).1 q22
      refine z_iconst C dX12_isAllowed_35 ?_
      exact J36 x1 x2 x3 0 σ hx1 hx2 hx3 (by decide) rfl h
    · have h := (wpO_ite.mp h).2 q22
      exact J31 x1 x2 x3 σ hx1 hx2 hx3 rfl h
noncomputable def fX12_allowed (x1 : Int) (x2 : Int) (x3 : Int) (σ : St) : Option (Int × St) :=
  bnk (fX12_mayAsk x1 x2 x3 σ) (fun r3 => if 0 ≤ r3 then (bnd (fX12_isAllowed x1 x2 x3 σ) (fun r6 σ8 => if r6 = 0 then (some (0, σ8)) else (some (1, σ8)))) else (some (r3, σ)))
set_option maxRecDepth 20000 in
set_option maxHeartbeats 4000000 in
theorem ct_X12_allowed (x1 : Int) (x2 : Int) (x3 : Int) (hx1 : inr x1) (hx2 : inr x2) (hx3 : inr x3) : Ct yX12_allowed cX12_allowed 5 (some .int) 6 (fun ad => [vo ad 12 (some 0), vi x1, vi x2, vi x3]) (fX12_allowed x1 x2 x3) enI okI (fun _ => True) := by
  refine Ct.of (by decide) (fun ad => Nat.le_of_ble_eq_true rfl) ?_
  intro κ ad σ X C T hpre h
  have C : Cx κ RX12 cX12_allowed 5 (some .int) 6 := C
  unfold fX12_allowed at h
  show Z κ (0, 0) (Qm κ ad σ enI okI X) 0 [(0, vo ad 12 (some 0)), (1, vi x1), (2, vi x2), (3, vi x3)] [] ad σ
  refine z_rng (fun hI1 hJ2 => ?_)
  refine z_aload_n C 0 dX12_allowed_0 rfl ?_
  refine z_iload_n C 1 dX12_allowed_1 rfl ?_
  refine z_iload_n C 2 dX12_allowed_2 rfl ?_
  refine z_iload_n C 3 dX12_allowed_3 rfl ?_
  refine z_cVp (st := []) T C (ct_X12_mayAsk x1 x2 x3 hx1 hx2 hx3) lm_X12_389 lv_vX12_mayAsk dX12_allowed_4 [vi x1, vi x2, vi x3] rfl rfl rfl rfl rfl (sg_12 T) trivial (by decide) (Nat.le_of_ble_eq_true rfl) csOK_0 h (fun r3 hr4 h => ?_)
  show Z κ (0, 0) _ 7 _ [vi r3] ad σ
  refine z_istore (lv2 := [(4, vi r3), (0, vo ad 12 (some 0)), (1, vi x1), (2, vi x2), (3, vi x3)]) C dX12_allowed_7 (by decide) rfl ?_
  refine z_iload C 0 dX12_allowed_9 rfl ?_
  refine z_if_ge C 19 hr4 dX12_allowed_11 (by decide) (fun q5 => ?_) (fun q5 => ?_)
  · have h := (wpO_ite.mp h).1 q5
    refine z_aload_n C 1 dX12_allowed_19 rfl ?_
    refine z_iload_n C 2 dX12_allowed_20 rfl ?_
    refine z_iload_n C 3 dX12_allowed_21 rfl ?_
    refine z_iload_n C 4 dX12_allowed_22 rfl ?_
    refine z_cV (st := []) T C (ct_X12_isAllowed x1 x2 x3 hx1 hx2 hx3) lm_X12_402 lv_vX12_isAllowed dX12_allowed_23 [vi x1, vi x2, vi x3] rfl rfl rfl rfl rfl (sg_12 T) trivial (by decide) (Nat.le_of_ble_eq_true rfl) csOK_0 h (fun r6 σ8 hr7 eN9 h => ?_)
    show Z κ (0, 0) _ 26 _ [vi r6] ad σ8
    refine z_rng (fun hI10 hJ11 => ?_)
    refine z_if_eq C 33 (inr_b hr7) dX12_allowed_26 (by decide) (fun q12 => ?_) (fun q12 => ?_)
    · have h := (wpO_ite.mp h).1 q12
      refine z_iconst C dX12_allowed_33 ?_
      have h := wpO_some.mp h
      exact z_ireturn T C dX12_allowed_34 (by decide) eN9 h
    · have h := (wpO_ite.mp h).2 q12
      refine z_iconst C dX12_allowed_29 ?_
      refine z_goto C 34 dX12_allowed_30 (by decide) ?_
      have h := wpO_some.mp h
      exact z_ireturn T C dX12_allowed_34 (by decide) eN9 h
  · have h := (wpO_ite.mp h).2 q5
    refine z_iload C 0 dX12_allowed_14 rfl ?_
    refine z_goto C 34 dX12_allowed_16 (by decide) ?_
    have h := wpO_some.mp h
    exact z_ireturn T C dX12_allowed_34 hr4 rfl h
noncomputable def fX12_apart_j45 (x1 : Int) (x2 : Int) (x3 : Int) (s0 : Int) (σ1 : St) : Option (Int × St) :=
  ck (inr (8 * x1)) (ck (inr ((8 * x1) + x2)) (ck (0 ≤ (8 * x1) + x2 ∧ (8 * x1) + x2 < 64) (ck (x3 = 0 ∨ x3 = 1) (ck (inr (8 * x2)) (ck (inr ((8 * x2) + x1)) (ck (0 ≤ (8 * x2) + x1 ∧ (8 * x2) + x1 < 64) (ck (x3 = 0 ∨ x3 = 1) (some (s0, sI (sI σ1 1357 0 (((8 * x1) + x2).toNat) x3) 1357 0 (((8 * x2) + x1).toNat) x3)))))))))
noncomputable def fX12_apart (x1 : Int) (x2 : Int) (x3 : Int) (σ : St) : Option (Int × St) :=
  bnk (fX12_isStory x1 σ) (fun r13 => if r13 = 0 then (some ((-1), σ)) else (bnk (fX12_isStory x2 σ) (fun r16 => if r16 = 0 then (some ((-1), σ)) else (if x1 = x2 then (some ((-3), σ)) else (ck (inr (8 * x1)) (ck (inr ((8 * x1) + x2)) (ck (0 ≤ (8 * x1) + x2 ∧ (8 * x1) + x2 < 64) (if gI σ 1357 0 (((8 * x1) + x2).toNat) = 0 then (fX12_apart_j45 x1 x2 x3 0 σ) else (fX12_apart_j45 x1 x2 x3 1 σ)))))))))
set_option maxRecDepth 20000 in
set_option maxHeartbeats 4000000 in
theorem ct_X12_apart (x1 : Int) (x2 : Int) (x3 : Int) (hx1 : inr x1) (hx2 : inr x2) (hx3 : x3 = 0 ∨ x3 = 1) : Ct yX12_apart cX12_apart 5 (some .int) 2 (fun ad => [vo ad 12 (some 0), vi x1, vi x2, vi x3]) (fX12_apart x1 x2 x3) enI okI (fun _ => True) := by
  refine Ct.of (by decide) (fun ad => Nat.le_of_ble_eq_true rfl) ?_
  intro κ ad σ X C T hpre h
  have C : Cx κ RX12 cX12_apart 5 (some .int) 2 := C
  unfold fX12_apart at h
  have J45 : ∀ (x1 : Int) (x2 : Int) (x3 : Int) (s0 : Int) (σ1 : St), inr x1 → inr x2 → inr x3 → inr s0 → σ1.2.2.2 = σ.2.2.2 → wpO (fX12_apart_j45 x1 x2 x3 s0 σ1) (fun q => X q.1 q.2) → Z κ (0, 0) (Qm κ ad σ enI okI X) 45 [(0, vo ad 12 (some 0)), (1, vi x1), (2, vi x2), (3, vi x3)] [vi s0] ad σ1 := by
    intro x1 x2 x3 s0 σ1 hx1 hx2 hx3 hs0 eN1 h
    unfold fX12_apart_j45 at h
    refine z_rng (fun hI1 hJ2 => ?_)
    refine z_istore (lv2 := [(4, vi s0), (0, vo ad 12 (some 0)), (1, vi x1), (2, vi x2), (3, vi x3)]) C dX12_apart_45 (by decide) rfl ?_
    refine z_aload_n C 1 dX12_apart_47 rfl ?_
    refine z_gA T C li_X12_156 (sg_12 T) dX12_apart_48 ?_
    refine z_bipush C dX12_apart_51 (by decide) ?_
    refine z_iload_n C 2 dX12_apart_53 rfl ?_
    obtain ⟨hk3, h⟩ := wpO_ck.mp h
    refine z_imul C dX12_apart_54 ?_
    refine z_iload_n C 3 dX12_apart_55 rfl ?_
    obtain ⟨hk4, h⟩ := wpO_ck.mp h
    refine z_iadd C dX12_apart_56 ?_
    refine z_iload_n C 4 dX12_apart_57 rfl ?_
    obtain ⟨hb5, h⟩ := wpO_ck.mp h
    obtain ⟨hb6, h⟩ := wpO_ck.mp h
    refine z_bastore C ar_1357 (sg_1357 T) hk4 hb5 hx3 hb6 dX12_apart_58 ?_
    refine z_aload_n C 1 dX12_apart_59 rfl ?_
    refine z_gA T C li_X12_156 (sg_12 T) dX12_apart_60 ?_
    refine z_bipush C dX12_apart_63 (by decide) ?_
    refine z_iload_n C 3 dX12_apart_65 rfl ?_
    obtain ⟨hk7, h⟩ := wpO_ck.mp h
    refine z_imul C dX12_apart_66 ?_
    refine z_iload_n C 2 dX12_apart_67 rfl ?_
    obtain ⟨hk8, h⟩ := wpO_ck.mp h
    refine z_iadd C dX12_apart_68 ?_
    refine z_iload_n C 4 dX12_apart_69 rfl ?_
    obtain ⟨hb9, h⟩ := wpO_ck.mp h
    obtain ⟨hb10, h⟩ := wpO_ck.mp h
    refine z_bastore C ar_1357 (sg_1357 T) hk8 hb9 hx3 hb10 dX12_apart_70 ?_
    refine z_iload C 0 dX12_apart_71 rfl ?_
    have h := wpO_some.mp h
    exact z_ireturn T C dX12_apart_73 hs0 eN1 h
  show Z κ (0, 0) (Qm κ ad σ enI okI X) 0 [(0, vo ad 12 (some 0)), (1, vi x1), (2, vi x2), (3, vi x3)] [] ad σ
  refine z_rng (fun hI11 hJ12 => ?_)
  refine z_aload_n C 0 dX12_apart_0 rfl ?_
  refine z_iload_n C 1 dX12_apart_1 rfl ?_
  refine z_cVp (st := []) T C (ct_X12_isStory x1 hx1) lm_X12_316 lv_vX12_isStory dX12_apart_2 [vi x1] rfl rfl rfl rfl rfl (sg_12 T) trivial (by decide) (Nat.le_of_ble_eq_true rfl) csOK_0 h (fun r13 hr14 h => ?_)
  show Z κ (0, 0) _ 5 _ [vi r13] ad σ
  refine z_if_eq C 16 (inr_b hr14) dX12_apart_5 (by decide) (fun q15 => ?_) (fun q15 => ?_)
  · have h := (wpO_ite.mp h).1 q15
    refine z_iconst C dX12_apart_16 ?_
    have h := wpO_some.mp h
    exact z_ireturn T C dX12_apart_17 (by decide) rfl h
  · have h := (wpO_ite.mp h).2 q15
    refine z_aload_n C 0 dX12_apart_8 rfl ?_
    refine z_iload_n C 2 dX12_apart_9 rfl ?_
    refine z_cVp (st := []) T C (ct_X12_isStory x2 hx2) lm_X12_316 lv_vX12_isStory dX12_apart_10 [vi x2] rfl rfl rfl rfl rfl (sg_12 T) trivial (by decide) (Nat.le_of_ble_eq_true rfl) csOK_0 h (fun r16 hr17 h => ?_)
    show Z κ (0, 0) _ 13 _ [vi r16] ad σ
    refine z_if_ne C 18 (inr_b hr17) dX12_apart_13 (by decide) (fun q18 => ?_) (fun q18 => ?_)
    · have h := (wpO_ite.mp h).2 q18
      refine z_iload_n C 1 dX12_apart_18 rfl ?_
      refine z_iload_n C 2 dX12_apart_19 rfl ?_
      refine z_icmp_ne C 26 hx1 hx2 dX12_apart_20 (by decide) (fun q19 => ?_) (fun q19 => ?_)
      · have h := (wpO_ite.mp h).2 q19
        refine z_aload_n C 0 dX12_apart_26 rfl ?_
        refine z_gA T C li_X12_156 (sg_12 T) dX12_apart_27 ?_
        refine z_bipush C dX12_apart_30 (by decide) ?_
        refine z_iload_n C 1 dX12_apart_32 rfl ?_
        obtain ⟨hk20, h⟩ := wpO_ck.mp h
        refine z_imul C dX12_apart_33 ?_
        refine z_iload_n C 2 dX12_apart_34 rfl ?_
        obtain ⟨hk21, h⟩ := wpO_ck.mp h
        refine z_iadd C dX12_apart_35 ?_
        obtain ⟨hb22, h⟩ := wpO_ck.mp h
        refine z_bav (v := gI σ 1357 0 (((8 * x1) + x2).toNat)) C ar_1357 (sg_1357 T) hk21 hb22 rfl dX12_apart_36 ?_
        refine z_if_eq C 44 (hI11 1357 0 _) dX12_apart_37 (by decide) (fun q23 => ?_) (fun q23 => ?_)
        · have h := (wpO_ite.mp h).1 q23
          refine z_iconst C dX12_apart_44 ?_
          exact J45 x1 x2 x3 0 σ hx1 hx2 (inr_b hx3) (by decide) rfl h
        · have h := (wpO_ite.mp h).2 q23
          refine z_iconst C dX12_apart_40 ?_
          refine z_goto C 45 dX12_apart_41 (by decide) ?_
          exact J45 x1 x2 x3 1 σ hx1 hx2 (inr_b hx3) (by decide) rfl h
      · have h := (wpO_ite.mp h).1 q19
        refine z_bipush C dX12_apart_23 (by decide) ?_
        have h := wpO_some.mp h
        exact z_ireturn T C dX12_apart_25 (by decide) rfl h
    · have h := (wpO_ite.mp h).1 q18
      refine z_iconst C dX12_apart_16 ?_
      have h := wpO_some.mp h
      exact z_ireturn T C dX12_apart_17 (by decide) rfl h
noncomputable def fX12_isPlace (x0 : Int) : Option Int :=
  bnk (fX12_in x0 0 7) (fun r1 => some r1)
set_option maxRecDepth 20000 in
set_option maxHeartbeats 4000000 in
theorem ct_X12_isPlace (x0 : Int) (hx0 : inr x0) : Ct yX12_isPlace cX12_isPlace 1 (some .boolean) 1 (fun ad => [vi x0]) (pu (fun _ => fX12_isPlace x0)) enI okB (fun _ => True) := by
  refine Ct.of (by decide) (fun ad => Nat.le_of_ble_eq_true rfl) ?_
  intro κ ad σ X C T hpre h
  have C : Cx κ RX12 cX12_isPlace 1 (some .boolean) 1 := C
  have h := wpO_pu.mp h
  unfold fX12_isPlace at h
  show Z κ (0, 0) (Qm κ ad σ enI okB X) 0 [(0, vi x0)] [] ad σ
  refine z_iload_n C 0 dX12_isPlace_0 rfl ?_
  refine z_i2l C hx0 dX12_isPlace_1 ?_
  refine z_lconst (z := 0) C dX12_isPlace_2 (by decide) ?_
  refine z_ldc2_w C lc_X12_251 dX12_isPlace_3 ?_
  refine z_cSp (st := []) T C (ct_X12_in x0 0 7 (inq_i hx0) (by decide) (by decide)) lm_X12_245 ls_X12_in dX12_isPlace_6 rfl rfl trivial (by decide) (Nat.le_of_ble_eq_true rfl) csOK_0 h (fun r1 hr2 h => ?_)
  show Z κ (0, 0) _ 9 _ [vi r1] ad σ
  have h := wpO_some.mp h
  exact z_breturn T C dX12_isPlace_9 hr2 rfl h
noncomputable def fX12_isHour (x0 : Int) : Option Int :=
  bnk (fX12_in x0 0 9999) (fun r1 => some r1)
set_option maxRecDepth 20000 in
set_option maxHeartbeats 4000000 in
theorem ct_X12_isHour (x0 : Int) (hx0 : inr x0) : Ct yX12_isHour cX12_isHour 1 (some .boolean) 1 (fun ad => [vi x0]) (pu (fun _ => fX12_isHour x0)) enI okB (fun _ => True) := by
  refine Ct.of (by decide) (fun ad => Nat.le_of_ble_eq_true rfl) ?_
  intro κ ad σ X C T hpre h
  have C : Cx κ RX12 cX12_isHour 1 (some .boolean) 1 := C
  have h := wpO_pu.mp h
  unfold fX12_isHour at h
  show Z κ (0, 0) (Qm κ ad σ enI okB X) 0 [(0, vi x0)] [] ad σ
  refine z_iload_n C 0 dX12_isHour_0 rfl ?_
  refine z_i2l C hx0 dX12_isHour_1 ?_
  refine z_lconst (z := 0) C dX12_isHour_2 (by decide) ?_
  refine z_ldc2_w C lc_X12_243 dX12_isHour_3 ?_
  refine z_cSp (st := []) T C (ct_X12_in x0 0 9999 (inq_i hx0) (by decide) (by decide)) lm_X12_245 ls_X12_in dX12_isHour_6 rfl rfl trivial (by decide) (Nat.le_of_ble_eq_true rfl) csOK_0 h (fun r1 hr2 h => ?_)
  show Z κ (0, 0) _ 9 _ [vi r1] ad σ
  have h := wpO_some.mp h
  exact z_breturn T C dX12_isHour_9 hr2 rfl h
noncomputable def fX12_by_j46 (x1 : Int) (x3 : Int) (x4 : Int) (σ : St) : Option Int :=
  ck (0 ≤ x1 ∧ x1 < 24) (if gI σ 1308 0 x1.toNat = 0 then (if x4 ≤ 9999 then (ck (0 ≤ x1 ∧ x1 < 24) (ck (inr (x4 + (gI σ 1306 0 x1.toNat))) (if x3 = 0 then (ck (inr ((x4 + (gI σ 1306 0 x1.toNat)) + 0)) (some ((x4 + (gI σ 1306 0 x1.toNat)) + 0))) else (ck (0 ≤ x1 ∧ x1 < 24) (ck (inr ((x4 + (gI σ 1306 0 x1.toNat)) + (gI σ 1307 0 x1.toNat))) (some ((x4 + (gI σ 1306 0 x1.toNat)) + (gI σ 1307 0 x1.toNat)))))))) else (some 1000000)) else (some 1000000))
noncomputable def fX12_by (x1 : Int) (x2 : Int) (x3 : Int) (σ : St) : Option Int :=
  ck (0 ≤ x1 ∧ x1 < 24) (if x2 ≤ gI σ 1304 0 x1.toNat then (fX12_by_j46 x1 x3 (gI σ 1304 0 x1.toNat) σ) else (ck (inr (x2 - (gI σ 1304 0 x1.toNat))) (ck (0 ≤ x1 ∧ x1 < 24) (ck (inr ((x2 - (gI σ 1304 0 x1.toNat)) + (gI σ 1305 0 x1.toNat))) (ck (inr (((x2 - (gI σ 1304 0 x1.toNat)) + (gI σ 1305 0 x1.toNat)) - 1)) (ck (0 ≤ x1 ∧ x1 < 24) (ck (¬ gI σ 1305 0 x1.toNat = 0) (ck (0 ≤ x1 ∧ x1 < 24) (ck (inr ((idiv (((x2 - (gI σ 1304 0 x1.toNat)) + (gI σ 1305 0 x1.toNat)) - 1) (gI σ 1305 0 x1.toNat)) * (gI σ 1305 0 x1.toNat))) (ck (inr ((gI σ 1304 0 x1.toNat) + ((idiv (((x2 - (gI σ 1304 0 x1.toNat)) + (gI σ 1305 0 x1.toNat)) - 1) (gI σ 1305 0 x1.toNat)) * (gI σ 1305 0 x1.toNat)))) (fX12_by_j46 x1 x3 ((gI σ 1304 0 x1.toNat) + ((idiv (((x2 - (gI σ 1304 0 x1.toNat)) + (gI σ 1305 0 x1.toNat)) - 1) (gI σ 1305 0 x1.toNat)) * (gI σ 1305 0 x1.toNat))) σ)))))))))))
set_option maxRecDepth 20000 in
set_option maxHeartbeats 4000000 in
theorem ct_X12_by (x1 : Int) (x2 : Int) (x3 : Int) (hx1 : inr x1) (hx2 : inr x2) (hx3 : x3 = 0 ∨ x3 = 1) : Ct yX12_by cX12_by 5 (some .int) 0 (fun ad => [vo ad 12 (some 0), vi x1, vi x2, vi x3]) (pu (fX12_by x1 x2 x3)) enI okI (fun _ => True) := by
  refine Ct.of (by decide) (fun ad => Nat.le_of_ble_eq_true rfl) ?_
  intro κ ad σ X C T hpre h
  have C : Cx κ RX12 cX12_by 5 (some .int) 0 := C
  have h := wpO_pu.mp h
  unfold fX12_by at h
  have J46 : ∀ (x1 : Int) (x3 : Int) (x4 : Int), inr x1 → inr x3 → inr x4 → wpO (fX12_by_j46 x1 x3 x4 σ) (fun r => X r σ) → Z κ (0, 0) (Qm κ ad σ enI okI X) 46 [(0, vo ad 12 (some 0)), (1, vi x1), (3, vi x3), (4, vi x4)] [] ad σ := by
    intro x1 x3 x4 hx1 hx3 hx4 h
    unfold fX12_by_j46 at h
    refine z_rng (fun hI1 hJ2 => ?_)
    refine z_aload_n C 0 dX12_by_46 rfl ?_
    refine z_gA T C li_X12_28 (sg_12 T) dX12_by_47 ?_
    refine z_iload_n C 1 dX12_by_50 rfl ?_
    obtain ⟨hb3, h⟩ := wpO_ck.mp h
    refine z_bav (v := gI σ 1308 0 x1.toNat) C ar_1308 (sg_1308 T) hx1 hb3 rfl dX12_by_51 ?_
    refine z_if_ne C 63 (hI1 1308 0 _) dX12_by_52 (by decide) (fun q4 => ?_) (fun q4 => ?_)
    · have h := (wpO_ite.mp h).2 q4
      refine z_ldc_w C lc_X12_270 dX12_by_63 ?_
      refine z_goto C 93 dX12_by_66 (by decide) ?_
      have h := wpO_some.mp h
      exact z_ireturn T C dX12_by_93 (by decide) rfl h
    · have h := (wpO_ite.mp h).1 q4
      refine z_iload C 3 dX12_by_55 rfl ?_
      refine z_sipush C dX12_by_57 (by decide) ?_
      refine z_icmp_le C 69 hx4 (by decide) dX12_by_60 (by decide) (fun q5 => ?_) (fun q5 => ?_)
      · have h := (wpO_ite.mp h).1 q5
        refine z_iload C 3 dX12_by_69 rfl ?_
        refine z_aload_n C 0 dX12_by_71 rfl ?_
        refine z_gA T C li_X12_22 (sg_12 T) dX12_by_72 ?_
        refine z_iload_n C 1 dX12_by_75 rfl ?_
        obtain ⟨hb6, h⟩ := wpO_ck.mp h
        refine z_iav (v := gI σ 1306 0 x1.toNat) C ar_1306 (sg_1306 T) hx1 hb6 rfl dX12_by_76 ?_
        obtain ⟨hk7, h⟩ := wpO_ck.mp h
        refine z_iadd C dX12_by_77 ?_
        refine z_iload_n C 2 dX12_by_78 rfl ?_
        refine z_if_eq C 91 hx3 dX12_by_79 (by decide) (fun q8 => ?_) (fun q8 => ?_)
        · have h := (wpO_ite.mp h).1 q8
          refine z_iconst C dX12_by_91 ?_
          obtain ⟨hk9, h⟩ := wpO_ck.mp h
          refine z_iadd C dX12_by_92 ?_
          have h := wpO_some.mp h
          exact z_ireturn T C dX12_by_93 hk9 rfl h
        · have h := (wpO_ite.mp h).2 q8
          refine z_aload_n C 0 dX12_by_82 rfl ?_
          refine z_gA T C li_X12_25 (sg_12 T) dX12_by_83 ?_
          refine z_iload_n C 1 dX12_by_86 rfl ?_
          obtain ⟨hb10, h⟩ := wpO_ck.mp h
          refine z_iav (v := gI σ 1307 0 x1.toNat) C ar_1307 (sg_1307 T) hx1 hb10 rfl dX12_by_87 ?_
          refine z_goto C 92 dX12_by_88 (by decide) ?_
          obtain ⟨hk11, h⟩ := wpO_ck.mp h
          refine z_iadd C dX12_by_92 ?_
          have h := wpO_some.mp h
          exact z_ireturn T C dX12_by_93 hk11 rfl h
      · have h := (wpO_ite.mp h).2 q5
        refine z_ldc_w C lc_X12_270 dX12_by_63 ?_
        refine z_goto C 93 dX12_by_66 (by decide) ?_
        have h := wpO_some.mp h
        exact z_ireturn T C dX12_by_93 (by decide) rfl h
  show Z κ (0, 0) (Qm κ ad σ enI okI X) 0 [(0, vo ad 12 (some 0)), (1, vi x1), (2, vi x2), (3, vi x3)] [] ad σ
  refine z_rng (fun hI12 hJ13 => ?_)
  refine z_aload_n C 0 dX12_by_0 rfl ?_
  refine z_gA T C li_X12_16 (sg_12 T) dX12_by_1 ?_
  refine z_iload_n C 1 dX12_by_4 rfl ?_
  obtain ⟨hb14, h⟩ := wpO_ck.mp h
  refine z_iav (v := gI σ 1304 0 x1.toNat) C ar_1304 (sg_1304 T) hx1 hb14 rfl dX12_by_5 ?_
  refine z_istore (lv2 := [(4, vi (gI σ 1304 0 x1.toNat)), (0, vo ad 12 (some 0)), (1, vi x1), (2, vi x2), (3, vi x3)]) C dX12_by_6 (by decide) rfl ?_
  refine z_iload_n C 3 dX12_by_8 rfl ?_
  refine z_iload C 0 dX12_by_9 rfl ?_
  refine z_icmp_le C 46 hx2 (hI12 1304 0 _) dX12_by_11 (by decide) (fun q15 => ?_) (fun q15 => ?_)
  · have h := (wpO_ite.mp h).1 q15
    refine z_sub [1, 2, 4, 0] rfl ?_
    exact J46 x1 x3 (gI σ 1304 0 x1.toNat) hx1 (inr_b hx3) (hI12 1304 0 _) h
  · have h := (wpO_ite.mp h).2 q15
    refine z_iload C 0 dX12_by_14 rfl ?_
    refine z_iload_n C 3 dX12_by_16 rfl ?_
    refine z_iload C 0 dX12_by_17 rfl ?_
    obtain ⟨hk16, h⟩ := wpO_ck.mp h
    refine z_isub C dX12_by_19 ?_
    refine z_aload_n C 1 dX12_by_20 rfl ?_
    refine z_gA T C li_X12_19 (sg_12 T) dX12_by_21 ?_
    refine z_iload_n C 2 dX12_by_24 rfl ?_
    obtain ⟨hb17, h⟩ := wpO_ck.mp h
    refine z_iav (v := gI σ 1305 0 x1.toNat) C ar_1305 (sg_1305 T) hx1 hb17 rfl dX12_by_25 ?_
    obtain ⟨hk18, h⟩ := wpO_ck.mp h
    refine z_iadd C dX12_by_26 ?_
    refine z_iconst C dX12_by_27 ?_
    obtain ⟨hk19, h⟩ := wpO_ck.mp h
    refine z_isub C dX12_by_28 ?_
    refine z_aload_n C 1 dX12_by_29 rfl ?_
    refine z_gA T C li_X12_19 (sg_12 T) dX12_by_30 ?_
    refine z_iload_n C 2 dX12_by_33 rfl ?_
    obtain ⟨hb20, h⟩ := wpO_ck.mp h
    refine z_iav (v := gI σ 1305 0 x1.toNat) C ar_1305 (sg_1305 T) hx1 hb20 rfl dX12_by_34 ?_
    obtain ⟨h021, h⟩ := wpO_ck.mp h
    refine z_idiv C (hI12 1305 0 _) h021 dX12_by_35 ?_
    refine z_aload_n C 1 dX12_by_36 rfl ?_
    refine z_gA T C li_X12_19 (sg_12 T) dX12_by_37 ?_
    refine z_iload_n C 2 dX12_by_40 rfl ?_
    obtain ⟨hb22, h⟩ := wpO_ck.mp h
    refine z_iav (v := gI σ 1305 0 x1.toNat) C ar_1305 (sg_1305 T) hx1 hb22 rfl dX12_by_41 ?_
    obtain ⟨hk23, h⟩ := wpO_ck.mp h
    refine z_imul C dX12_by_42 ?_
    obtain ⟨hk24, h⟩ := wpO_ck.mp h
    refine z_iadd C dX12_by_43 ?_
    refine z_istore (lv2 := [(4, vi ((gI σ 1304 0 x1.toNat) + ((idiv (((x2 - (gI σ 1304 0 x1.toNat)) + (gI σ 1305 0 x1.toNat)) - 1) (gI σ 1305 0 x1.toNat)) * (gI σ 1305 0 x1.toNat)))), (0, vo ad 12 (some 0)), (1, vi x1), (2, vi x2), (3, vi x3)]) C dX12_by_44 (by decide) rfl ?_
    refine z_sub [1, 2, 4, 0] rfl ?_
    exact J46 x1 x3 ((gI σ 1304 0 x1.toNat) + ((idiv (((x2 - (gI σ 1304 0 x1.toNat)) + (gI σ 1305 0 x1.toNat)) - 1) (gI σ 1305 0 x1.toNat)) * (gI σ 1305 0 x1.toNat))) hx1 (inr_b hx3) hk24 h
noncomputable def fX12_arrives_j148 (x3 : Int) (σ1 : St) : Option (Int × St) :=
  ck (0 ≤ x3 ∧ x3 < 8) (some (gI σ1 1309 0 x3.toNat, σ1))
noncomputable def fX12_arrives_j145 (x3 : Int) (x4 : Int) (x5 : Int) (σ1 : St) : Option ((Int × St) ⊕ St) :=
  some (.inl ((x5, σ1)))
noncomputable def fX12_arrives_j139 (x3 : Int) (x4 : Int) (x5 : Int) (x6 : Int) (σ1 : St) : Option ((Int × Int × St) ⊕ (Int × St)) :=
  ck (inr (x6 + 1)) (some (.inl ((x5, x6 + 1, σ1))))
noncomputable def fX12_arrives_j103 (x3 : Int) (x4 : Int) (x5 : Int) (x6 : Int) (s0 : Int) (σ1 : St) : Option ((Int × Int × St) ⊕ (Int × St)) :=
  ck (0 ≤ x6 ∧ x6 < 24) (ck (0 ≤ gI σ1 1303 0 x6.toNat ∧ gI σ1 1303 0 x6.toNat < 8) (if gI σ1 1309 0 ((gI σ1 1303 0 x6.toNat).toNat) ≤ s0 then (fX12_arrives_j139 x3 x4 x5 x6 σ1) else (ck (0 ≤ x6 ∧ x6 < 24) (ck (0 ≤ gI σ1 1303 0 x6.toNat ∧ gI σ1 1303 0 x6.toNat < 8) (fX12_arrives_j139 x3 x4 1 x6 (sI σ1 1309 0 ((gI σ1 1303 0 x6.toNat).toNat) s0))))))
noncomputable def fX12_arrives_l50 (x3 : Int) (x4 : Int) (x5 : Int) (x6 : Int) (σ1 : St) : Option ((Int × Int × St) ⊕ (Int × St)) :=
  if gI σ1 1301 0 0 ≤ x6 then (some (.inr ((x5, σ1)))) else (ck (0 ≤ x6 ∧ x6 < 24) (ck (0 ≤ gI σ1 1302 0 x6.toNat ∧ gI σ1 1302 0 x6.toNat < 8) (if gI σ1 1309 0 ((gI σ1 1302 0 x6.toNat).toNat) = 1000000 then (fX12_arrives_j103 x3 x4 x5 x6 1000000 σ1) else (ck (0 ≤ x6 ∧ x6 < 24) (ck (0 ≤ gI σ1 1302 0 x6.toNat ∧ gI σ1 1302 0 x6.toNat < 8) (ck (x4 = 0 ∨ x4 = 1) (bnk (fX12_by x6 (gI σ1 1309 0 ((gI σ1 1302 0 x6.toNat).toNat)) x4 σ1) (fun r25 => fX12_arrives_j103 x3 x4 x5 x6 r25 σ1))))))))
noncomputable def fX12_arrives_j50 (x3 : Int) (x4 : Int) (x5 : Int) (x6 : Int) (σ1 : St) : Option ((Int × St) ⊕ St) :=
  bnk (wh (fun s => fX12_arrives_l50 x3 x4 s.1 s.2.1 s.2.2) ((x5, x6, σ1))) (fun e => fX12_arrives_j145 x3 x4 e.1 e.2)
noncomputable def fX12_arrives_l39 (x3 : Int) (x4 : Int) (x5 : Int) (σ1 : St) : Option ((Int × St) ⊕ St) :=
  if x5 = 0 then (some (.inr σ1)) else (fX12_arrives_j50 x3 x4 0 0 σ1)
noncomputable def fX12_arrives_j39 (x3 : Int) (x4 : Int) (x5 : Int) (σ1 : St) : Option (Int × St) :=
  bnk (wh (fun s => fX12_arrives_l39 x3 x4 s.1 s.2) ((x5, σ1))) (fun e => fX12_arrives_j148 x3 e)
noncomputable def fX12_arrives_j36 (x3 : Int) (x4 : Int) (σ1 : St) : Option (Int × St) :=
  fX12_arrives_j39 x3 x4 1 σ1
noncomputable def fX12_arrives_j29 (x1 : Int) (x2 : Int) (x3 : Int) (x4 : Int) (x5 : Int) (s1 : Int) (s2 : Int) (σ1 : St) : Option ((Int × St) ⊕ St) :=
  ck (0 ≤ s1 ∧ s1 < 8) (ck (inr (x5 + 1)) (some (.inl ((x5 + 1, sI σ1 1309 0 s1.toNat s2)))))
noncomputable def fX12_arrives_l3 (x1 : Int) (x2 : Int) (x3 : Int) (x4 : Int) (x5 : Int) (σ1 : St) : Option ((Int × St) ⊕ St) :=
  if 8 ≤ x5 then (some (.inr σ1)) else (if x5 = x1 then (fX12_arrives_j29 x1 x2 x3 x4 x5 x5 x2 σ1) else (fX12_arrives_j29 x1 x2 x3 x4 x5 x5 1000000 σ1))
noncomputable def fX12_arrives_j3 (x1 : Int) (x2 : Int) (x3 : Int) (x4 : Int) (x5 : Int) (σ1 : St) : Option (Int × St) :=
  bnk (wh (fun s => fX12_arrives_l3 x1 x2 x3 x4 s.1 s.2) ((x5, σ1))) (fun e => fX12_arrives_j36 x3 x4 e)
noncomputable def fX12_arrives (x1 : Int) (x2 : Int) (x3 : Int) (x4 : Int) (σ : St) : Option (Int × St) :=
  fX12_arrives_j3 x1 x2 x3 x4 0 σ
set_option maxRecDepth 20000 in
set_option maxHeartbeats 4000000 in
theorem ct_X12_arrives (x1 : Int) (x2 : Int) (x3 : Int) (x4 : Int) (hx1 : inr x1) (hx2 : inr x2) (hx3 : inr x3) (hx4 : x4 = 0 ∨ x4 = 1) : Ct yX12_arrives cX12_arrives 8 (some .int) 1 (fun ad => [vo ad 12 (some 0), vi x1, vi x2, vi x3, vi x4]) (fX12_arrives x1 x2 x3 x4) enI okI (fun _ => True) := by
  refine Ct.of (by decide) (fun ad => Nat.le_of_ble_eq_true rfl) ?_
  intro κ ad σ X C T hpre h
  have C : Cx κ RX12 cX12_arrives 8 (some .int) 1 := C
  unfold fX12_arrives at h
  have J148 : ∀ (x3 : Int) (σ1 : St), inr x3 → σ1.2.2.2 = σ.2.2.2 → wpO (fX12_arrives_j148 x3 σ1) (fun q => X q.1 q.2) → Z κ (0, 0) (Qm κ ad σ enI okI X) 148 [(0, vo ad 12 (some 0)), (3, vi x3)] [] ad σ1 := by
    intro x3 σ1 hx3 eN1 h
    unfold fX12_arrives_j148 at h
    refine z_rng (fun hI1 hJ2 => ?_)
    refine z_aload_n C 0 dX12_arrives_148 rfl ?_
    refine z_gA T C li_X12_32 (sg_12 T) dX12_arrives_149 ?_
    refine z_iload_n C 1 dX12_arrives_152 rfl ?_
    obtain ⟨hb3, h⟩ := wpO_ck.mp h
    refine z_iav (v := gI σ1 1309 0 x3.toNat) C ar_1309 (sg_1309 T) hx3 hb3 rfl dX12_arrives_153 ?_
    have h := wpO_some.mp h
    exact z_ireturn T C dX12_arrives_154 (hI1 1309 0 _) eN1 h
  have J39 : ∀ (x3 : Int) (x4 : Int) (x5 : Int) (σ1 : St), inr x3 → inr x4 → inr x5 → σ1.2.2.2 = σ.2.2.2 → wpO (fX12_arrives_j39 x3 x4 x5 σ1) (fun q => X q.1 q.2) → Z κ (0, 0) (Qm κ ad σ enI okI X) 39 [(0, vo ad 12 (some 0)), (3, vi x3), (4, vi x4), (5, vi x5)] [] ad σ1 := by
    intro x3 x4 x5 σ1 hx3 hx4 hx5 eN1 h
    unfold fX12_arrives_j39 at h
    have step : ∀ (P39 : (Int × St) → Prop) (Q39 : St → Prop), (∀ (x5 : Int) (σ1 : St), P39 ((x5, σ1)) → inr x5 → σ1.2.2.2 = σ.2.2.2 → Z κ (0, 0) (Qm κ ad σ enI okI X) 39 [(0, vo ad 12 (some 0)), (3, vi x3), (4, vi x4), (5, vi x5)] [] ad σ1) → (∀ (σ1 : St), Q39 (σ1) → σ1.2.2.2 = σ.2.2.2 → Z κ (0, 0) (Qm κ ad σ enI okI X) 148 [(0, vo ad 12 (some 0)), (3, vi x3)] [] ad σ1) → ∀ (x5 : Int) (σ1 : St), inr x5 → σ1.2.2.2 = σ.2.2.2 → wpO (fX12_arrives_l39 x3 x4 x5 σ1) (onS P39 Q39) → Z κ (0, 0) (Qm κ ad σ enI okI X) 39 [(0, vo ad 12 (some 0)), (3, vi x3), (4, vi x4), (5, vi x5)] [] ad σ1 := by
      intro P39 Q39 hP39 hE39_148 x5 σ1 hx5 eN1 h
      unfold fX12_arrives_l39 at h
      have J145 : ∀ (x5 : Int) (σ1 : St), inr x5 → σ1.2.2.2 = σ.2.2.2 → wpO (fX12_arrives_j145 x3 x4 x5 σ1) (onS P39 Q39) → Z κ (0, 0) (Qm κ ad σ enI okI X) 145 [(0, vo ad 12 (some 0)), (3, vi x3), (4, vi x4), (5, vi x5)] [] ad σ1 := by
        intro x5 σ1 hx5 eN1 h
        unfold fX12_arrives_j145 at h
        refine z_rng (fun hI4 hJ5 => ?_)
        refine z_goto C 39 dX12_arrives_145 (by decide) ?_
        have h := wpO_some.mp h
        exact hP39 x5 σ1 h hx5 eN1
      have J50 : ∀ (x5 : Int) (x6 : Int) (σ1 : St), inr x5 → inr x6 → σ1.2.2.2 = σ.2.2.2 → wpO (fX12_arrives_j50 x3 x4 x5 x6 σ1) (onS P39 Q39) → Z κ (0, 0) (Qm κ ad σ enI okI X) 50 [(0, vo ad 12 (some 0)), (3, vi x3), (4, vi x4), (5, vi x5), (6, vi x6)] [] ad σ1 := by
        intro x5 x6 σ1 hx5 hx6 eN1 h
        unfold fX12_arrives_j50 at h
        have step : ∀ (P50 : (Int × Int × St) → Prop) (Q50 : (Int × St) → Prop), (∀ (x5 : Int) (x6 : Int) (σ1 : St), P50 ((x5, x6, σ1)) → inr x5 → inr x6 → σ1.2.2.2 = σ.2.2.2 → Z κ (0, 0) (Qm κ ad σ enI okI X) 50 [(0, vo ad 12 (some 0)), (3, vi x3), (4, vi x4), (5, vi x5), (6, vi x6)] [] ad σ1) → (∀ (x5 : Int) (σ1 : St), Q50 ((x5, σ1)) → inr x5 → σ1.2.2.2 = σ.2.2.2 → Z κ (0, 0) (Qm κ ad σ enI okI X) 145 [(0, vo ad 12 (some 0)), (3, vi x3), (4, vi x4), (5, vi x5)] [] ad σ1) → ∀ (x5 : Int) (x6 : Int) (σ1 : St), inr x5 → inr x6 → σ1.2.2.2 = σ.2.2.2 → wpO (fX12_arrives_l50 x3 x4 x5 x6 σ1) (onS P50 Q50) → Z κ (0, 0) (Qm κ ad σ enI okI X) 50 [(0, vo ad 12 (some 0)), (3, vi x3), (4, vi x4), (5, vi x5), (6, vi x6)] [] ad σ1 := by
          intro P50 Q50 hP50 hE50_145 x5 x6 σ1 hx5 hx6 eN1 h
          unfold fX12_arrives_l50 at h
          have J139 : ∀ (x5 : Int) (x6 : Int) (σ1 : St), inr x5 → inr x6 → σ1.2.2.2 = σ.2.2.2 → wpO (fX12_arrives_j139 x3 x4 x5 x6 σ1) (onS P50 Q50) → Z κ (0, 0) (Qm κ ad σ enI okI X) 139 [(0, vo ad 12 (some 0)), (3, vi x3), (4, vi x4), (5, vi x5), (6, vi x6)] [] ad σ1 := by
            intro x5 x6 σ1 hx5 hx6 eN1 h
            unfold fX12_arrives_j139 at h
            refine z_rng (fun hI6 hJ7 => ?_)
            obtain ⟨hk8, h⟩ := wpO_ck.mp h
            refine z_iinc (lv2 := [(6, vi (x6 + 1)), (0, vo ad 12 (some 0)), (3, vi x3), (4, vi x4), (5, vi x5)]) C 4 dX12_arrives_139 rfl (by decide) rfl ?_
            refine z_goto C 50 dX12_arrives_142 (by decide) ?_
            refine z_sub [1, 2, 3, 4, 0] rfl ?_
            have h := wpO_some.mp h
            exact hP50 x5 (x6 + 1) σ1 h hx5 hk8 eN1
          have J103 : ∀ (x5 : Int) (x6 : Int) (s0 : Int) (σ1 : St), inr x5 → inr x6 → inr s0 → σ1.2.2.2 = σ.2.2.2 → wpO (fX12_arrives_j103 x3 x4 x5 x6 s0 σ1) (onS P50 Q50) → Z κ (0, 0) (Qm κ ad σ enI okI X) 103 [(0, vo ad 12 (some 0)), (3, vi x3), (4, vi x4), (5, vi x5), (6, vi x6)] [vi s0] ad σ1 := by
            intro x5 x6 s0 σ1 hx5 hx6 hs0 eN1 h
            unfold fX12_arrives_j103 at h
            refine z_rng (fun hI9 hJ10 => ?_)
            refine z_istore (lv2 := [(7, vi s0), (0, vo ad 12 (some 0)), (3, vi x3), (4, vi x4), (5, vi x5), (6, vi x6)]) C dX12_arrives_103 (by decide) rfl ?_
            refine z_iload C 0 dX12_arrives_105 rfl ?_
            refine z_aload_n C 1 dX12_arrives_107 rfl ?_
            refine z_gA T C li_X12_32 (sg_12 T) dX12_arrives_108 ?_
            refine z_aload_n C 1 dX12_arrives_111 rfl ?_
            refine z_gA T C li_X12_13 (sg_12 T) dX12_arrives_112 ?_
            refine z_iload C 5 dX12_arrives_115 rfl ?_
            obtain ⟨hb11, h⟩ := wpO_ck.mp h
            refine z_iav (v := gI σ1 1303 0 x6.toNat) C ar_1303 (sg_1303 T) hx6 hb11 rfl dX12_arrives_117 ?_
            obtain ⟨hb12, h⟩ := wpO_ck.mp h
            refine z_iav (v := gI σ1 1309 0 ((gI σ1 1303 0 x6.toNat).toNat)) C ar_1309 (sg_1309 T) (hI9 1303 0 _) hb12 rfl dX12_arrives_118 ?_
            refine z_icmp_ge C 139 hs0 (hI9 1309 0 _) dX12_arrives_119 (by decide) (fun q13 => ?_) (fun q13 => ?_)
            · have h := (wpO_ite.mp h).1 q13
              refine z_sub [1, 2, 3, 4, 5] rfl ?_
              exact J139 x5 x6 σ1 hx5 hx6 eN1 h
            · have h := (wpO_ite.mp h).2 q13
              refine z_aload_n C 1 dX12_arrives_122 rfl ?_
              refine z_gA T C li_X12_32 (sg_12 T) dX12_arrives_123 ?_
              refine z_aload_n C 1 dX12_arrives_126 rfl ?_
              refine z_gA T C li_X12_13 (sg_12 T) dX12_arrives_127 ?_
              refine z_iload C 5 dX12_arrives_130 rfl ?_
              obtain ⟨hb14, h⟩ := wpO_ck.mp h
              refine z_iav (v := gI σ1 1303 0 x6.toNat) C ar_1303 (sg_1303 T) hx6 hb14 rfl dX12_arrives_132 ?_
              refine z_iload C 0 dX12_arrives_133 rfl ?_
              obtain ⟨hb15, h⟩ := wpO_ck.mp h
              refine z_iastore C ar_1309 (sg_1309 T) (hI9 1303 0 _) hb15 hs0 dX12_arrives_135 ?_
              refine z_iconst C dX12_arrives_136 ?_
              refine z_istore (lv2 := [(5, vi 1), (7, vi s0), (0, vo ad 12 (some 0)), (3, vi x3), (4, vi x4), (6, vi x6)]) C dX12_arrives_137 (by decide) rfl ?_
              refine z_sub [2, 3, 4, 0, 5] rfl ?_
              exact J139 1 x6 (sI σ1 1309 0 ((gI σ1 1303 0 x6.toNat).toNat) s0) (by decide) hx6 eN1 h
          refine z_rng (fun hI16 hJ17 => ?_)
          refine z_iload C 4 dX12_arrives_50 rfl ?_
          refine z_aload_n C 0 dX12_arrives_52 rfl ?_
          refine z_gIv (v := gI σ1 1301 0 0) C li_X12_267 (sg_12 T) rfl dX12_arrives_53 ?_
          refine z_icmp_ge C 145 hx6 (hI16 1301 0 _) dX12_arrives_56 (by decide) (fun q18 => ?_) (fun q18 => ?_)
          · have h := (wpO_ite.mp h).1 q18
            refine z_sub [0, 1, 2, 3] rfl ?_
            have h := wpO_some.mp h
            exact hE50_145 x5 σ1 h hx5 eN1
          · have h := (wpO_ite.mp h).2 q18
            refine z_aload_n C 0 dX12_arrives_59 rfl ?_
            refine z_gA T C li_X12_32 (sg_12 T) dX12_arrives_60 ?_
            refine z_aload_n C 0 dX12_arrives_63 rfl ?_
            refine z_gA T C li_X12_7 (sg_12 T) dX12_arrives_64 ?_
            refine z_iload C 4 dX12_arrives_67 rfl ?_
            obtain ⟨hb19, h⟩ := wpO_ck.mp h
            refine z_iav (v := gI σ1 1302 0 x6.toNat) C ar_1302 (sg_1302 T) hx6 hb19 rfl dX12_arrives_69 ?_
            obtain ⟨hb20, h⟩ := wpO_ck.mp h
            refine z_iav (v := gI σ1 1309 0 ((gI σ1 1302 0 x6.toNat).toNat)) C ar_1309 (sg_1309 T) (hI16 1302 0 _) hb20 rfl dX12_arrives_70 ?_
            refine z_ldc_w C lc_X12_270 dX12_arrives_71 ?_
            refine z_icmp_ne C 83 (hI16 1309 0 _) (by decide) dX12_arrives_74 (by decide) (fun q21 => ?_) (fun q21 => ?_)
            · have h := (wpO_ite.mp h).2 q21
              refine z_aload_n C 0 dX12_arrives_83 rfl ?_
              refine z_iload C 4 dX12_arrives_84 rfl ?_
              refine z_aload_n C 0 dX12_arrives_86 rfl ?_
              refine z_gA T C li_X12_32 (sg_12 T) dX12_arrives_87 ?_
              refine z_aload_n C 0 dX12_arrives_90 rfl ?_
              refine z_gA T C li_X12_7 (sg_12 T) dX12_arrives_91 ?_
              refine z_iload C 4 dX12_arrives_94 rfl ?_
              obtain ⟨hb22, h⟩ := wpO_ck.mp h
              refine z_iav (v := gI σ1 1302 0 x6.toNat) C ar_1302 (sg_1302 T) hx6 hb22 rfl dX12_arrives_96 ?_
              obtain ⟨hb23, h⟩ := wpO_ck.mp h
              refine z_iav (v := gI σ1 1309 0 ((gI σ1 1302 0 x6.toNat).toNat)) C ar_1309 (sg_1309 T) (hI16 1302 0 _) hb23 rfl dX12_arrives_97 ?_
              refine z_iload C 2 dX12_arrives_98 rfl ?_
              obtain ⟨hb24, h⟩ := wpO_ck.mp h
              refine z_cVp (st := []) T C (ct_X12_by x6 (gI σ1 1309 0 ((gI σ1 1302 0 x6.toNat).toNat)) x4 hx6 (hI16 1309 0 _) hb24) lm_X12_271 lv_vX12_by dX12_arrives_100 [vi x6, vi (gI σ1 1309 0 ((gI σ1 1302 0 x6.toNat).toNat)), vi x4] rfl rfl rfl rfl rfl (sg_12 T) trivial (by decide) (Nat.le_of_ble_eq_true rfl) csOK_0 h (fun r25 hr26 h => ?_)
              show Z κ (0, 0) _ 103 _ [vi r25] ad σ1
              exact J103 x5 x6 r25 σ1 hx5 hx6 hr26 eN1 h
            · have h := (wpO_ite.mp h).1 q21
              refine z_ldc_w C lc_X12_270 dX12_arrives_77 ?_
              refine z_goto C 103 dX12_arrives_80 (by decide) ?_
              exact J103 x5 x6 1000000 σ1 hx5 hx6 (by decide) eN1 h
        exact wh_ind (P := fun s : (Int × Int × St) => inr s.1 → inr s.2.1 → s.2.2.2.2.2 = σ.2.2.2 → Z κ (0, 0) (Qm κ ad σ enI okI X) 50 [(0, vo ad 12 (some 0)), (3, vi x3), (4, vi x4), (5, vi s.1), (6, vi s.2.1)] [] ad s.2.2) (fun s hs g0 g1 g2 => step _ _ (fun _ _ _ hp => hp) (fun x5 σ1 hq hx5 eN1 => J145 x5 σ1 hx5 eN1 hq) s.1 s.2.1 s.2.2 g0 g1 g2 hs) ((x5, x6, σ1)) (wpO_bnk.mp h) hx5 hx6 eN1
      refine z_rng (fun hI27 hJ28 => ?_)
      refine z_iload C 3 dX12_arrives_39 rfl ?_
      refine z_if_eq C 148 hx5 dX12_arrives_41 (by decide) (fun q29 => ?_) (fun q29 => ?_)
      · have h := (wpO_ite.mp h).1 q29
        refine z_sub [0, 1] rfl ?_
        have h := wpO_some.mp h
        exact hE39_148 σ1 h eN1
      · have h := (wpO_ite.mp h).2 q29
        refine z_iconst C dX12_arrives_44 ?_
        refine z_istore (lv2 := [(5, vi 0), (0, vo ad 12 (some 0)), (3, vi x3), (4, vi x4)]) C dX12_arrives_45 (by decide) rfl ?_
        refine z_iconst C dX12_arrives_47 ?_
        refine z_istore (lv2 := [(6, vi 0), (5, vi 0), (0, vo ad 12 (some 0)), (3, vi x3), (4, vi x4)]) C dX12_arrives_48 (by decide) rfl ?_
        refine z_sub [2, 3, 4, 1, 0] rfl ?_
        exact J50 0 0 σ1 (by decide) (by decide) eN1 h
    exact wh_ind (P := fun s : (Int × St) => inr s.1 → s.2.2.2.2 = σ.2.2.2 → Z κ (0, 0) (Qm κ ad σ enI okI X) 39 [(0, vo ad 12 (some 0)), (3, vi x3), (4, vi x4), (5, vi s.1)] [] ad s.2) (fun s hs g0 g1 => step _ _ (fun _ _ hp => hp) (fun σ1 hq eN1 => J148 x3 σ1 hx3 eN1 hq) s.1 s.2 g0 g1 hs) ((x5, σ1)) (wpO_bnk.mp h) hx5 eN1
  have J36 : ∀ (x3 : Int) (x4 : Int) (σ1 : St), inr x3 → inr x4 → σ1.2.2.2 = σ.2.2.2 → wpO (fX12_arrives_j36 x3 x4 σ1) (fun q => X q.1 q.2) → Z κ (0, 0) (Qm κ ad σ enI okI X) 36 [(0, vo ad 12 (some 0)), (3, vi x3), (4, vi x4)] [] ad σ1 := by
    intro x3 x4 σ1 hx3 hx4 eN1 h
    unfold fX12_arrives_j36 at h
    refine z_rng (fun hI30 hJ31 => ?_)
    refine z_iconst C dX12_arrives_36 ?_
    refine z_istore (lv2 := [(5, vi 1), (0, vo ad 12 (some 0)), (3, vi x3), (4, vi x4)]) C dX12_arrives_37 (by decide) rfl ?_
    refine z_sub [1, 2, 3, 0] rfl ?_
    exact J39 x3 x4 1 σ1 hx3 hx4 (by decide) eN1 h
  have J3 : ∀ (x1 : Int) (x2 : Int) (x3 : Int) (x4 : Int) (x5 : Int) (σ1 : St), inr x1 → inr x2 → inr x3 → inr x4 → inr x5 → σ1.2.2.2 = σ.2.2.2 → wpO (fX12_arrives_j3 x1 x2 x3 x4 x5 σ1) (fun q => X q.1 q.2) → Z κ (0, 0) (Qm κ ad σ enI okI X) 3 [(0, vo ad 12 (some 0)), (1, vi x1), (2, vi x2), (3, vi x3), (4, vi x4), (5, vi x5)] [] ad σ1 := by
    intro x1 x2 x3 x4 x5 σ1 hx1 hx2 hx3 hx4 hx5 eN1 h
    unfold fX12_arrives_j3 at h
    have step : ∀ (P3 : (Int × St) → Prop) (Q3 : St → Prop), (∀ (x5 : Int) (σ1 : St), P3 ((x5, σ1)) → inr x5 → σ1.2.2.2 = σ.2.2.2 → Z κ (0, 0) (Qm κ ad σ enI okI X) 3 [(0, vo ad 12 (some 0)), (1, vi x1), (2, vi x2), (3, vi x3), (4, vi x4), (5, vi x5)] [] ad σ1) → (∀ (σ1 : St), Q3 (σ1) → σ1.2.2.2 = σ.2.2.2 → Z κ (0, 0) (Qm κ ad σ enI okI X) 36 [(0, vo ad 12 (some 0)), (3, vi x3), (4, vi x4)] [] ad σ1) → ∀ (x5 : Int) (σ1 : St), inr x5 → σ1.2.2.2 = σ.2.2.2 → wpO (fX12_arrives_l3 x1 x2 x3 x4 x5 σ1) (onS P3 Q3) → Z κ (0, 0) (Qm κ ad σ enI okI X) 3 [(0, vo ad 12 (some 0)), (1, vi x1), (2, vi x2), (3, vi x3), (4, vi x4), (5, vi x5)] [] ad σ1 := by
      intro P3 Q3 hP3 hE3_36 x5 σ1 hx5 eN1 h
      unfold fX12_arrives_l3 at h
      have J29 : ∀ (x5 : Int) (s1 : Int) (s2 : Int) (σ1 : St), inr x5 → inr s1 → inr s2 → σ1.2.2.2 = σ.2.2.2 → wpO (fX12_arrives_j29 x1 x2 x3 x4 x5 s1 s2 σ1) (onS P3 Q3) → Z κ (0, 0) (Qm κ ad σ enI okI X) 29 [(0, vo ad 12 (some 0)), (1, vi x1), (2, vi x2), (3, vi x3), (4, vi x4), (5, vi x5)] [vi s2, vi s1, vo ad 1309 (some 0)] ad σ1 := by
        intro x5 s1 s2 σ1 hx5 hs1 hs2 eN1 h
        unfold fX12_arrives_j29 at h
        refine z_rng (fun hI32 hJ33 => ?_)
        obtain ⟨hb34, h⟩ := wpO_ck.mp h
        refine z_iastore C ar_1309 (sg_1309 T) hs1 hb34 hs2 dX12_arrives_29 ?_
        obtain ⟨hk35, h⟩ := wpO_ck.mp h
        refine z_iinc (lv2 := [(5, vi (x5 + 1)), (0, vo ad 12 (some 0)), (1, vi x1), (2, vi x2), (3, vi x3), (4, vi x4)]) C 5 dX12_arrives_30 rfl (by decide) rfl ?_
        refine z_goto C 3 dX12_arrives_33 (by decide) ?_
        refine z_sub [1, 2, 3, 4, 5, 0] rfl ?_
        have h := wpO_some.mp h
        exact hP3 (x5 + 1) (sI σ1 1309 0 s1.toNat s2) h hk35 eN1
      refine z_rng (fun hI36 hJ37 => ?_)
      refine z_iload C 5 dX12_arrives_3 rfl ?_
      refine z_bipush C dX12_arrives_5 (by decide) ?_
      refine z_icmp_ge C 36 hx5 (by decide) dX12_arrives_7 (by decide) (fun q38 => ?_) (fun q38 => ?_)
      · have h := (wpO_ite.mp h).1 q38
        refine z_sub [0, 3, 4] rfl ?_
        have h := wpO_some.mp h
        exact hE3_36 σ1 h eN1
      · have h := (wpO_ite.mp h).2 q38
        refine z_aload_n C 0 dX12_arrives_10 rfl ?_
        refine z_gA T C li_X12_32 (sg_12 T) dX12_arrives_11 ?_
        refine z_iload C 5 dX12_arrives_14 rfl ?_
        refine z_iload C 5 dX12_arrives_16 rfl ?_
        refine z_iload_n C 1 dX12_arrives_18 rfl ?_
        refine z_icmp_ne C 26 hx5 hx1 dX12_arrives_19 (by decide) (fun q39 => ?_) (fun q39 => ?_)
        · have h := (wpO_ite.mp h).2 q39
          refine z_ldc_w C lc_X12_270 dX12_arrives_26 ?_
          exact J29 x5 x5 1000000 σ1 hx5 hx5 (by decide) eN1 h
        · have h := (wpO_ite.mp h).1 q39
          refine z_iload_n C 2 dX12_arrives_22 rfl ?_
          refine z_goto C 29 dX12_arrives_23 (by decide) ?_
          exact J29 x5 x5 x2 σ1 hx5 hx5 hx2 eN1 h
    exact wh_ind (P := fun s : (Int × St) => inr s.1 → s.2.2.2.2 = σ.2.2.2 → Z κ (0, 0) (Qm κ ad σ enI okI X) 3 [(0, vo ad 12 (some 0)), (1, vi x1), (2, vi x2), (3, vi x3), (4, vi x4), (5, vi s.1)] [] ad s.2) (fun s hs g0 g1 => step _ _ (fun _ _ hp => hp) (fun σ1 hq eN1 => J36 x3 x4 σ1 hx3 hx4 eN1 hq) s.1 s.2 g0 g1 hs) ((x5, σ1)) (wpO_bnk.mp h) hx5 eN1
  show Z κ (0, 0) (Qm κ ad σ enI okI X) 0 [(0, vo ad 12 (some 0)), (1, vi x1), (2, vi x2), (3, vi x3), (4, vi x4)] [] ad σ
  refine z_rng (fun hI40 hJ41 => ?_)
  refine z_iconst C dX12_arrives_0 ?_
  refine z_istore (lv2 := [(5, vi 0), (0, vo ad 12 (some 0)), (1, vi x1), (2, vi x2), (3, vi x3), (4, vi x4)]) C dX12_arrives_1 (by decide) rfl ?_
  refine z_sub [1, 2, 3, 4, 5, 0] rfl ?_
  exact J3 x1 x2 x3 x4 0 σ hx1 hx2 hx3 (inr_b hx4) (by decide) rfl h
noncomputable def fX12_arrival (x1 : Int) (x2 : Int) (x3 : Int) (x4 : Int) (σ : St) : Option (Int × St) :=
  bnk (fX12_isPlace x1) (fun r3 => if r3 = 0 then (some ((-1), σ)) else (bnk (fX12_isPlace x3) (fun r6 => if r6 = 0 then (some ((-1), σ)) else (bnk (fX12_isHour x2) (fun r9 => if r9 = 0 then (some ((-2), σ)) else (bnd (fX12_arrives x1 x2 x3 x4 σ) (fun r12 σ14 => if r12 = 1000000 then (some ((-9), σ14)) else (some (r12, σ14)))))))))
set_option maxRecDepth 20000 in
set_option maxHeartbeats 4000000 in
theorem ct_X12_arrival (x1 : Int) (x2 : Int) (x3 : Int) (x4 : Int) (hx1 : inr x1) (hx2 : inr x2) (hx3 : inr x3) (hx4 : x4 = 0 ∨ x4 = 1) : Ct yX12_arrival cX12_arrival 6 (some .int) 2 (fun ad => [vo ad 12 (some 0), vi x1, vi x2, vi x3, vi x4]) (fX12_arrival x1 x2 x3 x4) enI okI (fun _ => True) := by
  refine Ct.of (by decide) (fun ad => Nat.le_of_ble_eq_true rfl) ?_
  intro κ ad σ X C T hpre h
  have C : Cx κ RX12 cX12_arrival 6 (some .int) 2 := C
  unfold fX12_arrival at h
  show Z κ (0, 0) (Qm κ ad σ enI okI X) 0 [(0, vo ad 12 (some 0)), (1, vi x1), (2, vi x2), (3, vi x3), (4, vi x4)] [] ad σ
  refine z_rng (fun hI1 hJ2 => ?_)
  refine z_iload_n C 1 dX12_arrival_0 rfl ?_
  refine z_cSp (st := []) T C (ct_X12_isPlace x1 hx1) lm_X12_258 ls_X12_isPlace dX12_arrival_1 rfl rfl trivial (by decide) (Nat.le_of_ble_eq_true rfl) csOK_0 h (fun r3 hr4 h => ?_)
  show Z κ (0, 0) _ 4 _ [vi r3] ad σ
  refine z_if_eq C 14 (inr_b hr4) dX12_arrival_4 (by decide) (fun q5 => ?_) (fun q5 => ?_)
  · have h := (wpO_ite.mp h).1 q5
    refine z_iconst C dX12_arrival_14 ?_
    have h := wpO_some.mp h
    exact z_ireturn T C dX12_arrival_15 (by decide) rfl h
  · have h := (wpO_ite.mp h).2 q5
    refine z_iload_n C 3 dX12_arrival_7 rfl ?_
    refine z_cSp (st := []) T C (ct_X12_isPlace x3 hx3) lm_X12_258 ls_X12_isPlace dX12_arrival_8 rfl rfl trivial (by decide) (Nat.le_of_ble_eq_true rfl) csOK_0 h (fun r6 hr7 h => ?_)
    show Z κ (0, 0) _ 11 _ [vi r6] ad σ
    refine z_if_ne C 16 (inr_b hr7) dX12_arrival_11 (by decide) (fun q8 => ?_) (fun q8 => ?_)
    · have h := (wpO_ite.mp h).2 q8
      refine z_iload_n C 2 dX12_arrival_16 rfl ?_
      refine z_cSp (st := []) T C (ct_X12_isHour x2 hx2) lm_X12_262 ls_X12_isHour dX12_arrival_17 rfl rfl trivial (by decide) (Nat.le_of_ble_eq_true rfl) csOK_0 h (fun r9 hr10 h => ?_)
      show Z κ (0, 0) _ 20 _ [vi r9] ad σ
      refine z_if_ne C 26 (inr_b hr10) dX12_arrival_20 (by decide) (fun q11 => ?_) (fun q11 => ?_)
      · have h := (wpO_ite.mp h).2 q11
        refine z_aload_n C 0 dX12_arrival_26 rfl ?_
        refine z_iload_n C 1 dX12_arrival_27 rfl ?_
        refine z_iload_n C 2 dX12_arrival_28 rfl ?_
        refine z_iload_n C 3 dX12_arrival_29 rfl ?_
        refine z_iload C 4 dX12_arrival_30 rfl ?_
        refine z_cV (st := []) T C (ct_X12_arrives x1 x2 x3 x4 hx1 hx2 hx3 hx4) lm_X12_275 lv_vX12_arrives dX12_arrival_32 [vi x1, vi x2, vi x3, vi x4] rfl rfl rfl rfl rfl (sg_12 T) trivial (by decide) (Nat.le_of_ble_eq_true rfl) csOK_0 h (fun r12 σ14 hr13 eN15 h => ?_)
        show Z κ (0, 0) _ 35 _ [vi r12] ad σ14
        refine z_rng (fun hI16 hJ17 => ?_)
        refine z_istore (lv2 := [(5, vi r12), (0, vo ad 12 (some 0)), (1, vi x1), (2, vi x2), (3, vi x3), (4, vi x4)]) C dX12_arrival_35 (by decide) rfl ?_
        refine z_iload C 0 dX12_arrival_37 rfl ?_
        refine z_ldc_w C lc_X12_270 dX12_arrival_39 ?_
        refine z_icmp_ne C 50 hr13 (by decide) dX12_arrival_42 (by decide) (fun q18 => ?_) (fun q18 => ?_)
        · have h := (wpO_ite.mp h).2 q18
          refine z_iload C 0 dX12_arrival_50 rfl ?_
          have h := wpO_some.mp h
          exact z_ireturn T C dX12_arrival_52 hr13 eN15 h
        · have h := (wpO_ite.mp h).1 q18
          refine z_bipush C dX12_arrival_45 (by decide) ?_
          refine z_goto C 52 dX12_arrival_47 (by decide) ?_
          have h := wpO_some.mp h
          exact z_ireturn T C dX12_arrival_52 (by decide) eN15 h
      · have h := (wpO_ite.mp h).1 q11
        refine z_bipush C dX12_arrival_23 (by decide) ?_
        have h := wpO_some.mp h
        exact z_ireturn T C dX12_arrival_25 (by decide) rfl h
    · have h := (wpO_ite.mp h).1 q8
      refine z_iconst C dX12_arrival_14 ?_
      have h := wpO_some.mp h
      exact z_ireturn T C dX12_arrival_15 (by decide) rfl h
noncomputable def fX12_bars (x1 : Int) (x2 : Int) (x3 : Int) (σ : St) : Option (Int × St) :=
  bnk (fX12_mayAsk x1 x2 x3 σ) (fun r3 => if 0 ≤ r3 then (bnd (fX12_barOf x1 x2 x3 σ) (fun r6 σ8 => some (r6, σ8))) else (some (r3, σ)))
set_option maxRecDepth 20000 in
set_option maxHeartbeats 4000000 in
theorem ct_X12_bars (x1 : Int) (x2 : Int) (x3 : Int) (hx1 : inr x1) (hx2 : inr x2) (hx3 : inr x3) : Ct yX12_bars cX12_bars 5 (some .int) 5 (fun ad => [vo ad 12 (some 0), vi x1, vi x2, vi x3]) (fX12_bars x1 x2 x3) enI okI (fun _ => True) := by
  refine Ct.of (by decide) (fun ad => Nat.le_of_ble_eq_true rfl) ?_
  intro κ ad σ X C T hpre h
  have C : Cx κ RX12 cX12_bars 5 (some .int) 5 := C
  unfold fX12_bars at h
  show Z κ (0, 0) (Qm κ ad σ enI okI X) 0 [(0, vo ad 12 (some 0)), (1, vi x1), (2, vi x2), (3, vi x3)] [] ad σ
  refine z_rng (fun hI1 hJ2 => ?_)
  refine z_aload_n C 0 dX12_bars_0 rfl ?_
  refine z_iload_n C 1 dX12_bars_1 rfl ?_
  refine z_iload_n C 2 dX12_bars_2 rfl ?_
  refine z_iload_n C 3 dX12_bars_3 rfl ?_
  refine z_cVp (st := []) T C (ct_X12_mayAsk x1 x2 x3 hx1 hx2 hx3) lm_X12_389 lv_vX12_mayAsk dX12_bars_4 [vi x1, vi x2, vi x3] rfl rfl rfl rfl rfl (sg_12 T) trivial (by decide) (Nat.le_of_ble_eq_true rfl) csOK_0 h (fun r3 hr4 h => ?_)
  show Z κ (0, 0) _ 7 _ [vi r3] ad σ
  refine z_istore (lv2 := [(4, vi r3), (0, vo ad 12 (some 0)), (1, vi x1), (2, vi x2), (3, vi x3)]) C dX12_bars_7 (by decide) rfl ?_
  refine z_iload C 0 dX12_bars_9 rfl ?_
  refine z_if_ge C 19 hr4 dX12_bars_11 (by decide) (fun q5 => ?_) (fun q5 => ?_)
  · have h := (wpO_ite.mp h).1 q5
    refine z_aload_n C 1 dX12_bars_19 rfl ?_
    refine z_iload_n C 2 dX12_bars_20 rfl ?_
    refine z_iload_n C 3 dX12_bars_21 rfl ?_
    refine z_iload_n C 4 dX12_bars_22 rfl ?_
    refine z_cV (st := []) T C (ct_X12_barOf x1 x2 x3 hx1 hx2 hx3) lm_X12_392 lv_vX12_barOf dX12_bars_23 [vi x1, vi x2, vi x3] rfl rfl rfl rfl rfl (sg_12 T) trivial (by decide) (Nat.le_of_ble_eq_true rfl) csOK_0 h (fun r6 σ8 hr7 eN9 h => ?_)
    show Z κ (0, 0) _ 26 _ [vi r6] ad σ8
    refine z_rng (fun hI10 hJ11 => ?_)
    have h := wpO_some.mp h
    exact z_ireturn T C dX12_bars_26 hr7 eN9 h
  · have h := (wpO_ite.mp h).2 q5
    refine z_iload C 0 dX12_bars_14 rfl ?_
    refine z_goto C 26 dX12_bars_16 (by decide) ?_
    have h := wpO_some.mp h
    exact z_ireturn T C dX12_bars_26 hr4 rfl h
noncomputable def fX12_layOrder_j71 (σ1 : St) : Option (Unit × St) :=
  some ((), σ1)
noncomputable def fX12_layOrder_j58 (x1 : Int) (x2 : Int) (σ1 : St) : Option ((Int × St) ⊕ St) :=
  ck (0 ≤ x2 ∧ x2 < 8) (ck (inr (x1 + 1)) (some (.inl ((x1 + 1, sI σ1 1376 0 x2.toNat x1)))))
noncomputable def fX12_layOrder_l12 (x1 : Int) (x2 : Int) (σ1 : St) : Option ((Int × St) ⊕ (Int × St)) :=
  if x2 ≤ 0 then (some (.inr ((x2, σ1)))) else (ck (inr (x2 - 1)) (ck (0 ≤ x2 - 1 ∧ x2 - 1 < 8) (ck (0 ≤ gI σ1 1376 0 ((x2 - 1).toNat) ∧ gI σ1 1376 0 ((x2 - 1).toNat) < 8) (ck (0 ≤ x1 ∧ x1 < 8) (if gI σ1 1371 0 ((gI σ1 1376 0 ((x2 - 1).toNat)).toNat) ≤ gI σ1 1371 0 x1.toNat then (some (.inr ((x2, σ1)))) else (ck (inr (x2 - 1)) (ck (0 ≤ x2 - 1 ∧ x2 - 1 < 8) (ck (0 ≤ x2 ∧ x2 < 8) (ck (inr (x2 + (-1))) (some (.inl ((x2 + (-1), sI σ1 1376 0 x2.toNat (gI σ1 1376 0 ((x2 - 1).toNat)))))))))))))))
noncomputable def fX12_layOrder_j12 (x1 : Int) (x2 : Int) (σ1 : St) : Option ((Int × St) ⊕ St) :=
  bnk (wh (fun s => fX12_layOrder_l12 x1 s.1 s.2) ((x2, σ1))) (fun e => fX12_layOrder_j58 x1 e.1 e.2)
noncomputable def fX12_layOrder_l2 (x1 : Int) (σ1 : St) : Option ((Int × St) ⊕ St) :=
  if gI σ1 1369 0 0 ≤ x1 then (some (.inr σ1)) else (fX12_layOrder_j12 x1 x1 σ1)
noncomputable def fX12_layOrder_j2 (x1 : Int) (σ1 : St) : Option (Unit × St) :=
  bnk (wh (fun s => fX12_layOrder_l2 s.1 s.2) ((x1, σ1))) (fun e => fX12_layOrder_j71 e)
noncomputable def fX12_layOrder (σ : St) : Option (Unit × St) :=
  fX12_layOrder_j2 0 σ
set_option maxRecDepth 20000 in
set_option maxHeartbeats 4000000 in
theorem ct_X12_layOrder  : Ct yX12_layOrder cX12_layOrder 3 none 0 (fun ad => [vo ad 12 (some 0)]) fX12_layOrder enV okV (fun _ => True) := by
  refine Ct.of (by decide) (fun ad => Nat.le_of_ble_eq_true rfl) ?_
  intro κ ad σ X C T hpre h
  have C : Cx κ RX12 cX12_layOrder 3 none 0 := C
  unfold fX12_layOrder at h
  have J71 : ∀ (σ1 : St), σ1.2.2.2 = σ.2.2.2 → wpO (fX12_layOrder_j71 σ1) (fun q => X q.1 q.2) → Z κ (0, 0) (Qm κ ad σ enV okV X) 71 [] [] ad σ1 := by
    intro σ1 eN1 h
    unfold fX12_layOrder_j71 at h
    refine z_rng (fun hI1 hJ2 => ?_)
    have h := wpO_some.mp h
    exact z_return T C dX12_layOrder_71 eN1 h
  have J2 : ∀ (x1 : Int) (σ1 : St), inr x1 → σ1.2.2.2 = σ.2.2.2 → wpO (fX12_layOrder_j2 x1 σ1) (fun q => X q.1 q.2) → Z κ (0, 0) (Qm κ ad σ enV okV X) 2 [(0, vo ad 12 (some 0)), (1, vi x1)] [] ad σ1 := by
    intro x1 σ1 hx1 eN1 h
    unfold fX12_layOrder_j2 at h
    have step : ∀ (P2 : (Int × St) → Prop) (Q2 : St → Prop), (∀ (x1 : Int) (σ1 : St), P2 ((x1, σ1)) → inr x1 → σ1.2.2.2 = σ.2.2.2 → Z κ (0, 0) (Qm κ ad σ enV okV X) 2 [(0, vo ad 12 (some 0)), (1, vi x1)] [] ad σ1) → (∀ (σ1 : St), Q2 (σ1) → σ1.2.2.2 = σ.2.2.2 → Z κ (0, 0) (Qm κ ad σ enV okV X) 71 [] [] ad σ1) → ∀ (x1 : Int) (σ1 : St), inr x1 → σ1.2.2.2 = σ.2.2.2 → wpO (fX12_layOrder_l2 x1 σ1) (onS P2 Q2) → Z κ (0, 0) (Qm κ ad σ enV okV X) 2 [(0, vo ad 12 (some 0)), (1, vi x1)] [] ad σ1 := by
      intro P2 Q2 hP2 hE2_71 x1 σ1 hx1 eN1 h
      unfold fX12_layOrder_l2 at h
      have J58 : ∀ (x1 : Int) (x2 : Int) (σ1 : St), inr x1 → inr x2 → σ1.2.2.2 = σ.2.2.2 → wpO (fX12_layOrder_j58 x1 x2 σ1) (onS P2 Q2) → Z κ (0, 0) (Qm κ ad σ enV okV X) 58 [(0, vo ad 12 (some 0)), (1, vi x1), (2, vi x2)] [] ad σ1 := by
        intro x1 x2 σ1 hx1 hx2 eN1 h
        unfold fX12_layOrder_j58 at h
        refine z_rng (fun hI3 hJ4 => ?_)
        refine z_aload_n C 0 dX12_layOrder_58 rfl ?_
        refine z_gA T C li_X12_201 (sg_12 T) dX12_layOrder_59 ?_
        refine z_iload_n C 2 dX12_layOrder_62 rfl ?_
        refine z_iload_n C 1 dX12_layOrder_63 rfl ?_
        obtain ⟨hb5, h⟩ := wpO_ck.mp h
        refine z_iastore C ar_1376 (sg_1376 T) hx2 hb5 hx1 dX12_layOrder_64 ?_
        obtain ⟨hk6, h⟩ := wpO_ck.mp h
        refine z_iinc (lv2 := [(1, vi (x1 + 1)), (0, vo ad 12 (some 0)), (2, vi x2)]) C 1 dX12_layOrder_65 rfl (by decide) rfl ?_
        refine z_goto C 2 dX12_layOrder_68 (by decide) ?_
        refine z_sub [1, 0] rfl ?_
        have h := wpO_some.mp h
        exact hP2 (x1 + 1) (sI σ1 1376 0 x2.toNat x1) h hk6 eN1
      have J12 : ∀ (x1 : Int) (x2 : Int) (σ1 : St), inr x1 → inr x2 → σ1.2.2.2 = σ.2.2.2 → wpO (fX12_layOrder_j12 x1 x2 σ1) (onS P2 Q2) → Z κ (0, 0) (Qm κ ad σ enV okV X) 12 [(0, vo ad 12 (some 0)), (1, vi x1), (2, vi x2)] [] ad σ1 := by
        intro x1 x2 σ1 hx1 hx2 eN1 h
        unfold fX12_layOrder_j12 at h
        have step : ∀ (P12 : (Int × St) → Prop) (Q12 : (Int × St) → Prop), (∀ (x2 : Int) (σ1 : St), P12 ((x2, σ1)) → inr x2 → σ1.2.2.2 = σ.2.2.2 → Z κ (0, 0) (Qm κ ad σ enV okV X) 12 [(0, vo ad 12 (some 0)), (1, vi x1), (2, vi x2)] [] ad σ1) → (∀ (x2 : Int) (σ1 : St), Q12 ((x2, σ1)) → inr x2 → σ1.2.2.2 = σ.2.2.2 → Z κ (0, 0) (Qm κ ad σ enV okV X) 58 [(0, vo ad 12 (some 0)), (1, vi x1), (2, vi x2)] [] ad σ1) → ∀ (x2 : Int) (σ1 : St), inr x2 → σ1.2.2.2 = σ.2.2.2 → wpO (fX12_layOrder_l12 x1 x2 σ1) (onS P12 Q12) → Z κ (0, 0) (Qm κ ad σ enV okV X) 12 [(0, vo ad 12 (some 0)), (1, vi x1), (2, vi x2)] [] ad σ1 := by
          intro P12 Q12 hP12 hE12_58 x2 σ1 hx2 eN1 h
          unfold fX12_layOrder_l12 at h
          refine z_rng (fun hI7 hJ8 => ?_)
          refine z_iload_n C 2 dX12_layOrder_12 rfl ?_
          refine z_if_le C 58 hx2 dX12_layOrder_13 (by decide) (fun q9 => ?_) (fun q9 => ?_)
          · have h := (wpO_ite.mp h).1 q9
            have h := wpO_some.mp h
            exact hE12_58 x2 σ1 h hx2 eN1
          · have h := (wpO_ite.mp h).2 q9
            refine z_aload_n C 0 dX12_layOrder_16 rfl ?_
            refine z_gA T C li_X12_186 (sg_12 T) dX12_layOrder_17 ?_
            refine z_aload_n C 0 dX12_layOrder_20 rfl ?_
            refine z_gA T C li_X12_201 (sg_12 T) dX12_layOrder_21 ?_
            refine z_iload_n C 2 dX12_layOrder_24 rfl ?_
            refine z_iconst C dX12_layOrder_25 ?_
            obtain ⟨hk10, h⟩ := wpO_ck.mp h
            refine z_isub C dX12_layOrder_26 ?_
            obtain ⟨hb11, h⟩ := wpO_ck.mp h
            refine z_iav (v := gI σ1 1376 0 ((x2 - 1).toNat)) C ar_1376 (sg_1376 T) hk10 hb11 rfl dX12_layOrder_27 ?_
            obtain ⟨hb12, h⟩ := wpO_ck.mp h
            refine z_iav (v := gI σ1 1371 0 ((gI σ1 1376 0 ((x2 - 1).toNat)).toNat)) C ar_1371 (sg_1371 T) (hI7 1376 0 _) hb12 rfl dX12_layOrder_28 ?_
            refine z_aload_n C 0 dX12_layOrder_29 rfl ?_
            refine z_gA T C li_X12_186 (sg_12 T) dX12_layOrder_30 ?_
            refine z_iload_n C 1 dX12_layOrder_33 rfl ?_
            obtain ⟨hb13, h⟩ := wpO_ck.mp h
            refine z_iav (v := gI σ1 1371 0 x1.toNat) C ar_1371 (sg_1371 T) hx1 hb13 rfl dX12_layOrder_34 ?_
            refine z_icmp_le C 58 (hI7 1371 0 _) (hI7 1371 0 _) dX12_layOrder_35 (by decide) (fun q14 => ?_) (fun q14 => ?_)
            · have h := (wpO_ite.mp h).1 q14
              have h := wpO_some.mp h
              exact hE12_58 x2 σ1 h hx2 eN1
            · have h := (wpO_ite.mp h).2 q14
              refine z_aload_n C 0 dX12_layOrder_38 rfl ?_
              refine z_gA T C li_X12_201 (sg_12 T) dX12_layOrder_39 ?_
              refine z_iload_n C 2 dX12_layOrder_42 rfl ?_
              refine z_aload_n C 0 dX12_layOrder_43 rfl ?_
              refine z_gA T C li_X12_201 (sg_12 T) dX12_layOrder_44 ?_
              refine z_iload_n C 2 dX12_layOrder_47 rfl ?_
              refine z_iconst C dX12_layOrder_48 ?_
              obtain ⟨hk15, h⟩ := wpO_ck.mp h
              refine z_isub C dX12_layOrder_49 ?_
              obtain ⟨hb16, h⟩ := wpO_ck.mp h
              refine z_iav (v := gI σ1 1376 0 ((x2 - 1).toNat)) C ar_1376 (sg_1376 T) hk15 hb16 rfl dX12_layOrder_50 ?_
              obtain ⟨hb17, h⟩ := wpO_ck.mp h
              refine z_iastore C ar_1376 (sg_1376 T) hx2 hb17 (hI7 1376 0 _) dX12_layOrder_51 ?_
              obtain ⟨hk18, h⟩ := wpO_ck.mp h
              refine z_iinc (lv2 := [(2, vi (x2 + (-1))), (0, vo ad 12 (some 0)), (1, vi x1)]) C 2 dX12_layOrder_52 rfl (by decide) rfl ?_
              refine z_goto C 12 dX12_layOrder_55 (by decide) ?_
              refine z_sub [1, 2, 0] rfl ?_
              have h := wpO_some.mp h
              exact hP12 (x2 + (-1)) (sI σ1 1376 0 x2.toNat (gI σ1 1376 0 ((x2 - 1).toNat))) h hk18 eN1
        exact wh_ind (P := fun s : (Int × St) => inr s.1 → s.2.2.2.2 = σ.2.2.2 → Z κ (0, 0) (Qm κ ad σ enV okV X) 12 [(0, vo ad 12 (some 0)), (1, vi x1), (2, vi s.1)] [] ad s.2) (fun s hs g0 g1 => step _ _ (fun _ _ hp => hp) (fun x2 σ1 hq hx2 eN1 => J58 x1 x2 σ1 hx1 hx2 eN1 hq) s.1 s.2 g0 g1 hs) ((x2, σ1)) (wpO_bnk.mp h) hx2 eN1
      refine z_rng (fun hI19 hJ20 => ?_)
      refine z_iload_n C 1 dX12_layOrder_2 rfl ?_
      refine z_aload_n C 0 dX12_layOrder_3 rfl ?_
      refine z_gIv (v := gI σ1 1369 0 0) C li_X12_436 (sg_12 T) rfl dX12_layOrder_4 ?_
      refine z_icmp_ge C 71 hx1 (hI19 1369 0 _) dX12_layOrder_7 (by decide) (fun q21 => ?_) (fun q21 => ?_)
      · have h := (wpO_ite.mp h).1 q21
        refine z_sub [] rfl ?_
        have h := wpO_some.mp h
        exact hE2_71 σ1 h eN1
      · have h := (wpO_ite.mp h).2 q21
        refine z_iload_n C 1 dX12_layOrder_10 rfl ?_
        refine z_istore_n (lv2 := [(2, vi x1), (0, vo ad 12 (some 0)), (1, vi x1)]) C dX12_layOrder_11 (by decide) rfl ?_
        refine z_sub [1, 2, 0] rfl ?_
        exact J12 x1 x1 σ1 hx1 hx1 eN1 h
    exact wh_ind (P := fun s : (Int × St) => inr s.1 → s.2.2.2.2 = σ.2.2.2 → Z κ (0, 0) (Qm κ ad σ enV okV X) 2 [(0, vo ad 12 (some 0)), (1, vi s.1)] [] ad s.2) (fun s hs g0 g1 => step _ _ (fun _ _ hp => hp) (fun σ1 hq eN1 => J71 σ1 eN1 hq) s.1 s.2 g0 g1 hs) ((x1, σ1)) (wpO_bnk.mp h) hx1 eN1
  show Z κ (0, 0) (Qm κ ad σ enV okV X) 0 [(0, vo ad 12 (some 0))] [] ad σ
  refine z_rng (fun hI22 hJ23 => ?_)
  refine z_iconst C dX12_layOrder_0 ?_
  refine z_istore_n (lv2 := [(1, vi 0), (0, vo ad 12 (some 0))]) C dX12_layOrder_1 (by decide) rfl ?_
  refine z_sub [1, 0] rfl ?_
  exact J2 0 σ (by decide) rfl h
