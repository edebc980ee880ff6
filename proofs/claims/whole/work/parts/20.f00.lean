noncomputable def fJ6_bitCount_0f7a4 (x0 : Int) : Option Int :=
  ck (inr (x0 - (iand (iushr x0 1) 1431655765))) (ck (inr ((iand (x0 - (iand (iushr x0 1) 1431655765)) 858993459) + (iand (iushr (x0 - (iand (iushr x0 1) 1431655765)) 2) 858993459))) (ck (inr (((iand (x0 - (iand (iushr x0 1) 1431655765)) 858993459) + (iand (iushr (x0 - (iand (iushr x0 1) 1431655765)) 2) 858993459)) + (iushr ((iand (x0 - (iand (iushr x0 1) 1431655765)) 858993459) + (iand (iushr (x0 - (iand (iushr x0 1) 1431655765)) 2) 858993459)) 4))) (ck (inr ((iand (((iand (x0 - (iand (iushr x0 1) 1431655765)) 858993459) + (iand (iushr (x0 - (iand (iushr x0 1) 1431655765)) 2) 858993459)) + (iushr ((iand (x0 - (iand (iushr x0 1) 1431655765)) 858993459) + (iand (iushr (x0 - (iand (iushr x0 1) 1431655765)) 2) 858993459)) 4)) 252645135) + (iushr (iand (((iand (x0 - (iand (iushr x0 1) 1431655765)) 858993459) + (iand (iushr (x0 - (iand (iushr x0 1) 1431655765)) 2) 858993459)) + (iushr ((iand (x0 - (iand (iushr x0 1) 1431655765)) 858993459) + (iand (iushr (x0 - (iand (iushr x0 1) 1431655765)) 2) 858993459)) 4)) 252645135) 8))) (ck (inr (((iand (((iand (x0 - (iand (iushr x0 1) 1431655765)) 858993459) + (iand (iushr (x0 - (iand (iushr x0 1) 1431655765)) 2) 858993459)) + (iushr ((iand (x0 - (iand (iushr x0 1) 1431655765)) 858993459) + (iand (iushr (x0 - (iand (iushr x0 1) 1431655765)) 2) 858993459)) 4)) 252645135) + (iushr (iand (((iand (x0 - (iand (iushr x0 1) 1431655765)) 858993459) + (iand (iushr (x0 - (iand (iushr x0 1) 1431655765)) 2) 858993459)) + (iushr ((iand (x0 - (iand (iushr x0 1) 1431655765)) 858993459) + (iand (iushr (x0 - (iand (iushr x0 1) 1431655765)) 2) 858993459)) 4)) 252645135) 8)) + (iushr ((iand (((iand (x0 - (iand (iushr x0 1) 1431655765)) 858993459) + (iand (iushr (x0 - (iand (iushr x0 1) 1431655765)) 2) 858993459)) + (iushr ((iand (x0 - (iand (iushr x0 1) 1431655765)) 858993459) + (iand (iushr (x0 - (iand (iushr x0 1) 1431655765)) 2) 858993459)) 4)) 252645135) + (iushr (iand (((iand (x0 - (iand (iushr x0 1) 1431655765)) 858993459) + (iand (iushr (x0 - (iand (iushr x0 1) 1431655765)) 2) 858993459)) + (iushr ((iand (x0 - (iand (iushr x0 1) 1431655765)) 858993459) + (iand (iushr (x0 - (iand (iushr x0 1) 1431655765)) 2) 858993459)) 4)) 252645135) 8)) 16))) (some (iand (((iand (((iand (x0 - (iand (iushr x0 1) 1431655765)) 858993459) + (iand (iushr (x0 - (iand (iushr x0 1) 1431655765)) 2) 858993459)) + (iushr ((iand (x0 - (iand (iushr x0 1) 1431655765)) 858993459) + (iand (iushr (x0 - (iand (iushr x0 1) 1431655765)) 2) 858993459)) 4)) 252645135) + (iushr (iand (((iand (x0 - (iand (iushr x0 1) 1431655765)) 858993459) + (iand (iushr (x0 - (iand (iushr x0 1) 1431655765)) 2) 858993459)) + (iushr ((iand (x0 - (iand (iushr x0 1) 1431655765)) 858993459) + (iand (iushr (x0 - (iand (iushr x0 1) 1431655765)) 2) 858993459)) 4)) 252645135) 8)) + (iushr ((iand (((iand (x0 - (iand (iushr x0 1) 1431655765)) 858993459) + (iand (iushr (x0 - (iand (iushr x0 1) 1431655765)) 2) 858993459)) + (iushr ((iand (x0 - (iand (iushr x0 1) 1431655765)) 858993459) + (iand (iushr (x0 - (iand (iushr x0 1) 1431655765)) 2) 858993459)) 4)) 252645135) + (iushr (iand (((iand (x0 - (iand (iushr x0 1) 1431655765)) 858993459) + (iand (iushr (x0 - (iand (iushr x0 1) 1431655765)) 2) 858993459)) + (iushr ((iand (x0 - (iand (iushr x0 1) 1431655765)) 858993459) + (iand (iushr (x0 - (iand (iushr x0 1) 1431655765)) 2) 858993459)) 4)) 252645135) 8)) 16)) 63))))))
set_option maxRecDepth 20000 in
set_option maxHeartbeats 4000000 in
theorem ct_J6_bitCount_0f7a4 (x0 : Int) (hx0 : inr x0) : Ct yJ6_bitCount_0f7a4 cJ6_bitCount_0f7a4 1 (some .int) 0 (fun ad => [vi x0]) (pu (fun _ => fJ6_bitCount_0f7a4 x0)) enI okI (fun _ => True) := by
  refine Ct.of (by decide) (fun ad => Nat.le_of_ble_eq_true rfl) ?_
  intro κ ad σ X C T hpre h
  have C : Cx κ RJ6 cJ6_bitCount_0f7a4 1 (some .int) 0 := C
  have h := wpO_pu.mp h
  unfold fJ6_bitCount_0f7a4 at h
  show Z κ (0, 0) (Qm κ ad σ enI okI X) 0 [(0, vi x0)] [] ad σ
  refine z_iload_n C 0 dJ6_bitCount_0f7a4_0 rfl ?_
  refine z_iload_n C 0 dJ6_bitCount_0f7a4_1 rfl ?_
  refine z_iconst C dJ6_bitCount_0f7a4_2 ?_
  refine z_iushr C dJ6_bitCount_0f7a4_3 ?_
  refine z_ldc_w C lc_J6_265 dJ6_bitCount_0f7a4_4 ?_
  refine z_iand C dJ6_bitCount_0f7a4_7 ?_
  obtain ⟨hk1, h⟩ := wpO_ck.mp h
  refine z_isub C dJ6_bitCount_0f7a4_8 ?_
  refine z_istore_n (lv2 := [(0, vi (x0 - (iand (iushr x0 1) 1431655765)))]) C dJ6_bitCount_0f7a4_9 (by decide) rfl ?_
  refine z_iload_n C 0 dJ6_bitCount_0f7a4_10 rfl ?_
  refine z_ldc_w C lc_J6_266 dJ6_bitCount_0f7a4_11 ?_
  refine z_iand C dJ6_bitCount_0f7a4_14 ?_
  refine z_iload_n C 0 dJ6_bitCount_0f7a4_15 rfl ?_
  refine z_iconst C dJ6_bitCount_0f7a4_16 ?_
  refine z_iushr C dJ6_bitCount_0f7a4_17 ?_
  refine z_ldc_w C lc_J6_266 dJ6_bitCount_0f7a4_18 ?_
  refine z_iand C dJ6_bitCount_0f7a4_21 ?_
  obtain ⟨hk2, h⟩ := wpO_ck.mp h
  refine z_iadd C dJ6_bitCount_0f7a4_22 ?_
  refine z_istore_n (lv2 := [(0, vi ((iand (x0 - (iand (iushr x0 1) 1431655765)) 858993459) + (iand (iushr (x0 - (iand (iushr x0 1) 1431655765)) 2) 858993459)))]) C dJ6_bitCount_0f7a4_23 (by decide) rfl ?_
  refine z_iload_n C 0 dJ6_bitCount_0f7a4_24 rfl ?_
  refine z_iload_n C 0 dJ6_bitCount_0f7a4_25 rfl ?_
  refine z_iconst C dJ6_bitCount_0f7a4_26 ?_
  refine z_iushr C dJ6_bitCount_0f7a4_27 ?_
  obtain ⟨hk3, h⟩ := wpO_ck.mp h
  refine z_iadd C dJ6_bitCount_0f7a4_28 ?_
  refine z_ldc_w C lc_J6_267 dJ6_bitCount_0f7a4_29 ?_
  refine z_iand C dJ6_bitCount_0f7a4_32 ?_
  refine z_istore_n (lv2 := [(0, vi (iand (((iand (x0 - (iand (iushr x0 1) 1431655765)) 858993459) + (iand (iushr (x0 - (iand (iushr x0 1) 1431655765)) 2) 858993459)) + (iushr ((iand (x0 - (iand (iushr x0 1) 1431655765)) 858993459) + (iand (iushr (x0 - (iand (iushr x0 1) 1431655765)) 2) 858993459)) 4)) 252645135))]) C dJ6_bitCount_0f7a4_33 (by decide) rfl ?_
  refine z_iload_n C 0 dJ6_bitCount_0f7a4_34 rfl ?_
  refine z_iload_n C 0 dJ6_bitCount_0f7a4_35 rfl ?_
  refine z_bipush C dJ6_bitCount_0f7a4_36 (by decide) ?_
  refine z_iushr C dJ6_bitCount_0f7a4_38 ?_
  obtain ⟨hk4, h⟩ := wpO_ck.mp h
  refine z_iadd C dJ6_bitCount_0f7a4_39 ?_
  refine z_istore_n (lv2 := [(0, vi ((iand (((iand (x0 - (iand (iushr x0 1) 1431655765)) 858993459) + (iand (iushr (x0 - (iand (iushr x0 1) 1431655765)) 2) 858993459)) + (iushr ((iand (x0 - (iand (iushr x0 1) 1431655765)) 858993459) + (iand (iushr (x0 - (iand (iushr x0 1) 1431655765)) 2) 858993459)) 4)) 252645135) + (iushr (iand (((iand (x0 - (iand (iushr x0 1) 1431655765)) 858993459) + (iand (iushr (x0 - (iand (iushr x0 1) 1431655765)) 2) 858993459)) + (iushr ((iand (x0 - (iand (iushr x0 1) 1431655765)) 858993459) + (iand (iushr (x0 - (iand (iushr x0 1) 1431655765)) 2) 858993459)) 4)) 252645135) 8)))]) C dJ6_bitCount_0f7a4_40 (by decide) rfl ?_
  refine z_iload_n C 0 dJ6_bitCount_0f7a4_41 rfl ?_
  refine z_iload_n C 0 dJ6_bitCount_0f7a4_42 rfl ?_
  refine z_bipush C dJ6_bitCount_0f7a4_43 (by decide) ?_
  refine z_iushr C dJ6_bitCount_0f7a4_45 ?_
  obtain ⟨hk5, h⟩ := wpO_ck.mp h
  refine z_iadd C dJ6_bitCount_0f7a4_46 ?_
  refine z_istore_n (lv2 := [(0, vi (((iand (((iand (x0 - (iand (iushr x0 1) 1431655765)) 858993459) + (iand (iushr (x0 - (iand (iushr x0 1) 1431655765)) 2) 858993459)) + (iushr ((iand (x0 - (iand (iushr x0 1) 1431655765)) 858993459) + (iand (iushr (x0 - (iand (iushr x0 1) 1431655765)) 2) 858993459)) 4)) 252645135) + (iushr (iand (((iand (x0 - (iand (iushr x0 1) 1431655765)) 858993459) + (iand (iushr (x0 - (iand (iushr x0 1) 1431655765)) 2) 858993459)) + (iushr ((iand (x0 - (iand (iushr x0 1) 1431655765)) 858993459) + (iand (iushr (x0 - (iand (iushr x0 1) 1431655765)) 2) 858993459)) 4)) 252645135) 8)) + (iushr ((iand (((iand (x0 - (iand (iushr x0 1) 1431655765)) 858993459) + (iand (iushr (x0 - (iand (iushr x0 1) 1431655765)) 2) 858993459)) + (iushr ((iand (x0 - (iand (iushr x0 1) 1431655765)) 858993459) + (iand (iushr (x0 - (iand (iushr x0 1) 1431655765)) 2) 858993459)) 4)) 252645135) + (iushr (iand (((iand (x0 - (iand (iushr x0 1) 1431655765)) 858993459) + (iand (iushr (x0 - (iand (iushr x0 1) 1431655765)) 2) 858993459)) + (iushr ((iand (x0 - (iand (iushr x0 1) 1431655765)) 858993459) + (iand (iushr (x0 - (iand (iushr x0 1) 1431655765)) 2) 858993459)) 4)) 252645135) 8)) 16)))]) C dJ6_bitCount_0f7a4_47 (by decide) rfl ?_
  refine z_iload_n C 0 dJ6_bitCount_0f7a4_48 rfl ?_
  refine z_bipush C dJ6_bitCount_0f7a4_49 (by decide) ?_
  refine z_iand C dJ6_bitCount_0f7a4_51 ?_
  have h := wpO_some.mp h
  exact z_ireturn T C dJ6_bitCount_0f7a4_52 (inr_iand _ _) rfl h
noncomputable def fJ6_numberOfLeadingZeros_0f7a4_j73 (x0 : Int) (x1 : Int) : Option Int :=
  ck (inr (x1 - (iushr x0 1))) (some (x1 - (iushr x0 1)))
noncomputable def fJ6_numberOfLeadingZeros_0f7a4_j61 (x0 : Int) (x1 : Int) : Option Int :=
  if x0 < 4 then (fJ6_numberOfLeadingZeros_0f7a4_j73 x0 x1) else (ck (inr (x1 + (-2))) (fJ6_numberOfLeadingZeros_0f7a4_j73 (iushr x0 2) (x1 + (-2))))
noncomputable def fJ6_numberOfLeadingZeros_0f7a4_j48 (x0 : Int) (x1 : Int) : Option Int :=
  if x0 < 16 then (fJ6_numberOfLeadingZeros_0f7a4_j61 x0 x1) else (ck (inr (x1 + (-4))) (fJ6_numberOfLeadingZeros_0f7a4_j61 (iushr x0 4) (x1 + (-4))))
noncomputable def fJ6_numberOfLeadingZeros_0f7a4_j33 (x0 : Int) (x1 : Int) : Option Int :=
  if x0 < 256 then (fJ6_numberOfLeadingZeros_0f7a4_j48 x0 x1) else (ck (inr (x1 + (-8))) (fJ6_numberOfLeadingZeros_0f7a4_j48 (iushr x0 8) (x1 + (-8))))
noncomputable def fJ6_numberOfLeadingZeros_0f7a4 (x0 : Int) : Option Int :=
  if 0 < x0 then (if x0 < 65536 then (fJ6_numberOfLeadingZeros_0f7a4_j33 x0 31) else (ck (inr (31 + (-16))) (fJ6_numberOfLeadingZeros_0f7a4_j33 (iushr x0 16) (31 + (-16))))) else (if x0 = 0 then (some 32) else (some 0))
set_option maxRecDepth 20000 in
set_option maxHeartbeats 4000000 in
theorem ct_J6_numberOfLeadingZeros_0f7a4 (x0 : Int) (hx0 : inr x0) : Ct yJ6_numberOfLeadingZeros_0f7a4 cJ6_numberOfLeadingZeros_0f7a4 2 (some .int) 0 (fun ad => [vi x0]) (pu (fun _ => fJ6_numberOfLeadingZeros_0f7a4 x0)) enI okI (fun _ => True) := by
  refine Ct.of (by decide) (fun ad => Nat.le_of_ble_eq_true rfl) ?_
  intro κ ad σ X C T hpre h
  have C : Cx κ RJ6 cJ6_numberOfLeadingZeros_0f7a4 2 (some .int) 0 := C
  have h := wpO_pu.mp h
  unfold fJ6_numberOfLeadingZeros_0f7a4 at h
  have J73 : ∀ (x0 : Int) (x1 : Int), inr x0 → inr x1 → wpO (fJ6_numberOfLeadingZeros_0f7a4_j73 x0 x1) (fun r => X r σ) → Z κ (0, 0) (Qm κ ad σ enI okI X) 73 [(0, vi x0), (1, vi x1)] [] ad σ := by
    intro x0 x1 hx0 hx1 h
    unfold fJ6_numberOfLeadingZeros_0f7a4_j73 at h
    refine z_iload_n C 1 dJ6_numberOfLeadingZeros_0f7a4_73 rfl ?_
    refine z_iload_n C 0 dJ6_numberOfLeadingZeros_0f7a4_74 rfl ?_
    refine z_iconst C dJ6_numberOfLeadingZeros_0f7a4_75 ?_
    refine z_iushr C dJ6_numberOfLeadingZeros_0f7a4_76 ?_
    obtain ⟨hk1, h⟩ := wpO_ck.mp h
    refine z_isub C dJ6_numberOfLeadingZeros_0f7a4_77 ?_
    have h := wpO_some.mp h
    exact z_ireturn T C dJ6_numberOfLeadingZeros_0f7a4_78 hk1 rfl h
  have J61 : ∀ (x0 : Int) (x1 : Int), inr x0 → inr x1 → wpO (fJ6_numberOfLeadingZeros_0f7a4_j61 x0 x1) (fun r => X r σ) → Z κ (0, 0) (Qm κ ad σ enI okI X) 61 [(0, vi x0), (1, vi x1)] [] ad σ := by
    intro x0 x1 hx0 hx1 h
    unfold fJ6_numberOfLeadingZeros_0f7a4_j61 at h
    refine z_iload_n C 0 dJ6_numberOfLeadingZeros_0f7a4_61 rfl ?_
    refine z_iconst C dJ6_numberOfLeadingZeros_0f7a4_62 ?_
    refine z_icmp_lt C 73 hx0 (by decide) dJ6_numberOfLeadingZeros_0f7a4_63 (by decide) (fun q2 => ?_) (fun q2 => ?_)
    · have h := (wpO_ite.mp h).1 q2
      exact J73 x0 x1 hx0 hx1 h
    · have h := (wpO_ite.mp h).2 q2
      obtain ⟨hk3, h⟩ := wpO_ck.mp h
      refine z_iinc (lv2 := [(1, vi (x1 + (-2))), (0, vi x0)]) C 1 dJ6_numberOfLeadingZeros_0f7a4_66 rfl (by decide) rfl ?_
      refine z_iload_n C 1 dJ6_numberOfLeadingZeros_0f7a4_69 rfl ?_
      refine z_iconst C dJ6_numberOfLeadingZeros_0f7a4_70 ?_
      refine z_iushr C dJ6_numberOfLeadingZeros_0f7a4_71 ?_
      refine z_istore_n (lv2 := [(0, vi (iushr x0 2)), (1, vi (x1 + (-2)))]) C dJ6_numberOfLeadingZeros_0f7a4_72 (by decide) rfl ?_
      exact J73 (iushr x0 2) (x1 + (-2)) (inr_iushr _ _) hk3 h
  have J48 : ∀ (x0 : Int) (x1 : Int), inr x0 → inr x1 → wpO (fJ6_numberOfLeadingZeros_0f7a4_j48 x0 x1) (fun r => X r σ) → Z κ (0, 0) (Qm κ ad σ enI okI X) 48 [(0, vi x0), (1, vi x1)] [] ad σ := by
    intro x0 x1 hx0 hx1 h
    unfold fJ6_numberOfLeadingZeros_0f7a4_j48 at h
    refine z_iload_n C 0 dJ6_numberOfLeadingZeros_0f7a4_48 rfl ?_
    refine z_bipush C dJ6_numberOfLeadingZeros_0f7a4_49 (by decide) ?_
    refine z_icmp_lt C 61 hx0 (by decide) dJ6_numberOfLeadingZeros_0f7a4_51 (by decide) (fun q4 => ?_) (fun q4 => ?_)
    · have h := (wpO_ite.mp h).1 q4
      exact J61 x0 x1 hx0 hx1 h
    · have h := (wpO_ite.mp h).2 q4
      obtain ⟨hk5, h⟩ := wpO_ck.mp h
      refine z_iinc (lv2 := [(1, vi (x1 + (-4))), (0, vi x0)]) C 1 dJ6_numberOfLeadingZeros_0f7a4_54 rfl (by decide) rfl ?_
      refine z_iload_n C 1 dJ6_numberOfLeadingZeros_0f7a4_57 rfl ?_
      refine z_iconst C dJ6_numberOfLeadingZeros_0f7a4_58 ?_
      refine z_iushr C dJ6_numberOfLeadingZeros_0f7a4_59 ?_
      refine z_istore_n (lv2 := [(0, vi (iushr x0 4)), (1, vi (x1 + (-4)))]) C dJ6_numberOfLeadingZeros_0f7a4_60 (by decide) rfl ?_
      exact J61 (iushr x0 4) (x1 + (-4)) (inr_iushr _ _) hk5 h
  have J33 : ∀ (x0 : Int) (x1 : Int), inr x0 → inr x1 → wpO (fJ6_numberOfLeadingZeros_0f7a4_j33 x0 x1) (fun r => X r σ) → Z κ (0, 0) (Qm κ ad σ enI okI X) 33 [(0, vi x0), (1, vi x1)] [] ad σ := by
    intro x0 x1 hx0 hx1 h
    unfold fJ6_numberOfLeadingZeros_0f7a4_j33 at h
    refine z_iload_n C 0 dJ6_numberOfLeadingZeros_0f7a4_33 rfl ?_
    refine z_sipush C dJ6_numberOfLeadingZeros_0f7a4_34 (by decide) ?_
    refine z_icmp_lt C 48 hx0 (by decide) dJ6_numberOfLeadingZeros_0f7a4_37 (by decide) (fun q6 => ?_) (fun q6 => ?_)
    · have h := (wpO_ite.mp h).1 q6
      exact J48 x0 x1 hx0 hx1 h
    · have h := (wpO_ite.mp h).2 q6
      obtain ⟨hk7, h⟩ := wpO_ck.mp h
      refine z_iinc (lv2 := [(1, vi (x1 + (-8))), (0, vi x0)]) C 1 dJ6_numberOfLeadingZeros_0f7a4_40 rfl (by decide) rfl ?_
      refine z_iload_n C 1 dJ6_numberOfLeadingZeros_0f7a4_43 rfl ?_
      refine z_bipush C dJ6_numberOfLeadingZeros_0f7a4_44 (by decide) ?_
      refine z_iushr C dJ6_numberOfLeadingZeros_0f7a4_46 ?_
      refine z_istore_n (lv2 := [(0, vi (iushr x0 8)), (1, vi (x1 + (-8)))]) C dJ6_numberOfLeadingZeros_0f7a4_47 (by decide) rfl ?_
      exact J48 (iushr x0 8) (x1 + (-8)) (inr_iushr _ _) hk7 h
  show Z κ (0, 0) (Qm κ ad σ enI okI X) 0 [(0, vi x0)] [] ad σ
  refine z_iload_n C 0 dJ6_numberOfLeadingZeros_0f7a4_0 rfl ?_
  refine z_if_gt C 15 hx0 dJ6_numberOfLeadingZeros_0f7a4_1 (by decide) (fun q8 => ?_) (fun q8 => ?_)
  · have h := (wpO_ite.mp h).1 q8
    refine z_bipush C dJ6_numberOfLeadingZeros_0f7a4_15 (by decide) ?_
    refine z_istore_n (lv2 := [(1, vi 31), (0, vi x0)]) C dJ6_numberOfLeadingZeros_0f7a4_17 (by decide) rfl ?_
    refine z_iload_n C 1 dJ6_numberOfLeadingZeros_0f7a4_18 rfl ?_
    refine z_ldc_w C lc_J6_264 dJ6_numberOfLeadingZeros_0f7a4_19 ?_
    refine z_icmp_lt C 33 hx0 (by decide) dJ6_numberOfLeadingZeros_0f7a4_22 (by decide) (fun q9 => ?_) (fun q9 => ?_)
    · have h := (wpO_ite.mp h).1 q9
      refine z_sub [1, 0] rfl ?_
      exact J33 x0 31 hx0 (by decide) h
    · have h := (wpO_ite.mp h).2 q9
      obtain ⟨hk10, h⟩ := wpO_ck.mp h
      refine z_iinc (lv2 := [(1, vi (31 + (-16))), (0, vi x0)]) C 0 dJ6_numberOfLeadingZeros_0f7a4_25 rfl (by decide) rfl ?_
      refine z_iload_n C 1 dJ6_numberOfLeadingZeros_0f7a4_28 rfl ?_
      refine z_bipush C dJ6_numberOfLeadingZeros_0f7a4_29 (by decide) ?_
      refine z_iushr C dJ6_numberOfLeadingZeros_0f7a4_31 ?_
      refine z_istore_n (lv2 := [(0, vi (iushr x0 16)), (1, vi (31 + (-16)))]) C dJ6_numberOfLeadingZeros_0f7a4_32 (by decide) rfl ?_
      exact J33 (iushr x0 16) (31 + (-16)) (inr_iushr _ _) hk10 h
  · have h := (wpO_ite.mp h).2 q8
    refine z_iload_n C 0 dJ6_numberOfLeadingZeros_0f7a4_4 rfl ?_
    refine z_if_ne C 13 hx0 dJ6_numberOfLeadingZeros_0f7a4_5 (by decide) (fun q11 => ?_) (fun q11 => ?_)
    · have h := (wpO_ite.mp h).2 q11
      refine z_iconst C dJ6_numberOfLeadingZeros_0f7a4_13 ?_
      have h := wpO_some.mp h
      exact z_ireturn T C dJ6_numberOfLeadingZeros_0f7a4_14 (by decide) rfl h
    · have h := (wpO_ite.mp h).1 q11
      refine z_bipush C dJ6_numberOfLeadingZeros_0f7a4_8 (by decide) ?_
      refine z_goto C 14 dJ6_numberOfLeadingZeros_0f7a4_10 (by decide) ?_
      have h := wpO_some.mp h
      exact z_ireturn T C dJ6_numberOfLeadingZeros_0f7a4_14 (by decide) rfl h
noncomputable def fJ7_fill_53178_j20 (σ1 : St) : Option (Unit × St) :=
  some ((), σ1)
noncomputable def fJ7_fill_53178_l5 (x0 : Nat) (n0 : Nat) (x1 : Int) (x3 : Int) (x2 : Int) (σ1 : St) : Option ((Int × St) ⊕ St) :=
  if x3 ≤ x2 then (some (.inr σ1)) else (ck (0 ≤ x2 ∧ x2 < (n0 : Int)) (ck (inr (x2 + 1)) (some (.inl ((x2 + 1, sI σ1 x0 0 x2.toNat x1))))))
noncomputable def fJ7_fill_53178_j5 (x0 : Nat) (n0 : Nat) (x1 : Int) (x2 : Int) (x3 : Int) (σ1 : St) : Option (Unit × St) :=
  bnk (wh (fun s => fJ7_fill_53178_l5 x0 n0 x1 x3 s.1 s.2) ((x2, σ1))) (fun e => fJ7_fill_53178_j20 e)
noncomputable def fJ7_fill_53178 (x0 : Nat) (n0 : Nat) (x1 : Int) (σ : St) : Option (Unit × St) :=
  fJ7_fill_53178_j5 x0 n0 x1 0 ((n0 : Int)) σ
set_option maxRecDepth 20000 in
set_option maxHeartbeats 4000000 in
theorem ct_J7_fill_53178 (x0 : Nat) (n0 : Nat) (x1 : Int) (ha_x0 : la x0 = some (0, n0)) (hs_x0 : ∀ {κ : Cxt} {σ : St}, isT κ → okj κ σ x0 0) (hn_x0 : inr (n0 : Int)) (hx1 : inr x1) : Ct yJ7_fill_53178 cJ7_fill_53178 4 none 0 (fun ad => [vo ad x0 (some 0), vi x1]) (fJ7_fill_53178 x0 n0 x1) enV okV (fun _ => True) := by
  refine Ct.of (by decide) (fun ad => Nat.le_of_ble_eq_true rfl) ?_
  intro κ ad σ X C T hpre h
  have C : Cx κ RJ7 cJ7_fill_53178 4 none 0 := C
  unfold fJ7_fill_53178 at h
  have J20 : ∀ (σ1 : St), σ1.2.2.2 = σ.2.2.2 → wpO (fJ7_fill_53178_j20 σ1) (fun q => X q.1 q.2) → Z κ (0, 0) (Qm κ ad σ enV okV X) 20 [] [] ad σ1 := by
    intro σ1 eN1 h
    unfold fJ7_fill_53178_j20 at h
    refine z_rng (fun hI1 hJ2 => ?_)
    have h := wpO_some.mp h
    exact z_return T C dJ7_fill_53178_20 eN1 h
  have J5 : ∀ (x1 : Int) (x2 : Int) (x3 : Int) (σ1 : St), inr x1 → inr x2 → inr x3 → σ1.2.2.2 = σ.2.2.2 → wpO (fJ7_fill_53178_j5 x0 n0 x1 x2 x3 σ1) (fun q => X q.1 q.2) → Z κ (0, 0) (Qm κ ad σ enV okV X) 5 [(0, vo ad x0 (some 0)), (1, vi x1), (2, vi x2), (3, vi x3)] [] ad σ1 := by
    intro x1 x2 x3 σ1 hx1 hx2 hx3 eN1 h
    unfold fJ7_fill_53178_j5 at h
    have step : ∀ (P5 : (Int × St) → Prop) (Q5 : St → Prop), (∀ (x2 : Int) (σ1 : St), P5 ((x2, σ1)) → inr x2 → σ1.2.2.2 = σ.2.2.2 → Z κ (0, 0) (Qm κ ad σ enV okV X) 5 [(0, vo ad x0 (some 0)), (1, vi x1), (2, vi x2), (3, vi x3)] [] ad σ1) → (∀ (σ1 : St), Q5 (σ1) → σ1.2.2.2 = σ.2.2.2 → Z κ (0, 0) (Qm κ ad σ enV okV X) 20 [] [] ad σ1) → ∀ (x2 : Int) (σ1 : St), inr x2 → σ1.2.2.2 = σ.2.2.2 → wpO (fJ7_fill_53178_l5 x0 n0 x1 x3 x2 σ1) (onS P5 Q5) → Z κ (0, 0) (Qm κ ad σ enV okV X) 5 [(0, vo ad x0 (some 0)), (1, vi x1), (2, vi x2), (3, vi x3)] [] ad σ1 := by
      intro P5 Q5 hP5 hE5_20 x2 σ1 hx2 eN1 h
      unfold fJ7_fill_53178_l5 at h
      refine z_rng (fun hI3 hJ4 => ?_)
      refine z_iload_n C 2 dJ7_fill_53178_5 rfl ?_
      refine z_iload_n C 3 dJ7_fill_53178_6 rfl ?_
      refine z_icmp_ge C 20 hx2 hx3 dJ7_fill_53178_7 (by decide) (fun q5 => ?_) (fun q5 => ?_)
      · have h := (wpO_ite.mp h).1 q5
        refine z_sub [] rfl ?_
        have h := wpO_some.mp h
        exact hE5_20 σ1 h eN1
      · have h := (wpO_ite.mp h).2 q5
        refine z_aload_n C 0 dJ7_fill_53178_10 rfl ?_
        refine z_iload_n C 2 dJ7_fill_53178_11 rfl ?_
        refine z_iload_n C 1 dJ7_fill_53178_12 rfl ?_
        obtain ⟨hb6, h⟩ := wpO_ck.mp h
        refine z_iastore C ha_x0 (hs_x0 T) hx2 hb6 hx1 dJ7_fill_53178_13 ?_
        obtain ⟨hk7, h⟩ := wpO_ck.mp h
        refine z_iinc (lv2 := [(2, vi (x2 + 1)), (0, vo ad x0 (some 0)), (1, vi x1), (3, vi x3)]) C 2 dJ7_fill_53178_14 rfl (by decide) rfl ?_
        refine z_goto C 5 dJ7_fill_53178_17 (by decide) ?_
        refine z_sub [1, 2, 0, 3] rfl ?_
        have h := wpO_some.mp h
        exact hP5 (x2 + 1) (sI σ1 x0 0 x2.toNat x1) h hk7 eN1
    exact wh_ind (P := fun s : (Int × St) => inr s.1 → s.2.2.2.2 = σ.2.2.2 → Z κ (0, 0) (Qm κ ad σ enV okV X) 5 [(0, vo ad x0 (some 0)), (1, vi x1), (2, vi s.1), (3, vi x3)] [] ad s.2) (fun s hs g0 g1 => step _ _ (fun _ _ hp => hp) (fun σ1 hq eN1 => J20 σ1 eN1 hq) s.1 s.2 g0 g1 hs) ((x2, σ1)) (wpO_bnk.mp h) hx2 eN1
  show Z κ (0, 0) (Qm κ ad σ enV okV X) 0 [(0, vo ad x0 (some 0)), (1, vi x1)] [] ad σ
  refine z_rng (fun hI8 hJ9 => ?_)
  refine z_iconst C dJ7_fill_53178_0 ?_
  refine z_istore_n (lv2 := [(2, vi 0), (0, vo ad x0 (some 0)), (1, vi x1)]) C dJ7_fill_53178_1 (by decide) rfl ?_
  refine z_aload_n C 1 dJ7_fill_53178_2 rfl ?_
  refine z_alen (t0 := 0) C ha_x0 (fun _ => rfl) (by decide) (hs_x0 T) dJ7_fill_53178_3 ?_
  refine z_istore_n (lv2 := [(3, vi ((n0 : Int))), (2, vi 0), (0, vo ad x0 (some 0)), (1, vi x1)]) C dJ7_fill_53178_4 (by decide) rfl ?_
  refine z_sub [2, 3, 1, 0] rfl ?_
  exact J5 x1 0 ((n0 : Int)) σ hx1 (by decide) hn_x0 rfl h
noncomputable def fJ7_fill_d0a16_j22 (σ1 : St) : Option (Unit × St) :=
  some ((), σ1)
noncomputable def fJ7_fill_d0a16_l6 (x0 : Nat) (n0 : Nat) (x1 : Int) (x4 : Int) (x3 : Int) (σ1 : St) : Option ((Int × St) ⊕ St) :=
  if x4 ≤ x3 then (some (.inr σ1)) else (ck (0 ≤ x3 ∧ x3 < (n0 : Int)) (ck (inr (x3 + 1)) (some (.inl ((x3 + 1, sJ σ1 x0 0 x3.toNat x1))))))
noncomputable def fJ7_fill_d0a16_j6 (x0 : Nat) (n0 : Nat) (x1 : Int) (x3 : Int) (x4 : Int) (σ1 : St) : Option (Unit × St) :=
  bnk (wh (fun s => fJ7_fill_d0a16_l6 x0 n0 x1 x4 s.1 s.2) ((x3, σ1))) (fun e => fJ7_fill_d0a16_j22 e)
noncomputable def fJ7_fill_d0a16 (x0 : Nat) (n0 : Nat) (x1 : Int) (σ : St) : Option (Unit × St) :=
  fJ7_fill_d0a16_j6 x0 n0 x1 0 ((n0 : Int)) σ
set_option maxRecDepth 20000 in
set_option maxHeartbeats 4000000 in
theorem ct_J7_fill_d0a16 (x0 : Nat) (n0 : Nat) (x1 : Int) (ha_x0 : la x0 = some (2, n0)) (hs_x0 : ∀ {κ : Cxt} {σ : St}, isT κ → okj κ σ x0 0) (hn_x0 : inr (n0 : Int)) (hx1 : inq x1) : Ct yJ7_fill_d0a16 cJ7_fill_d0a16 5 none 0 (fun ad => [vo ad x0 (some 0), vj x1]) (fJ7_fill_d0a16 x0 n0 x1) enV okV (fun _ => True) := by
  refine Ct.of (by decide) (fun ad => Nat.le_of_ble_eq_true rfl) ?_
  intro κ ad σ X C T hpre h
  have C : Cx κ RJ7 cJ7_fill_d0a16 5 none 0 := C
  unfold fJ7_fill_d0a16 at h
  have J22 : ∀ (σ1 : St), σ1.2.2.2 = σ.2.2.2 → wpO (fJ7_fill_d0a16_j22 σ1) (fun q => X q.1 q.2) → Z κ (0, 0) (Qm κ ad σ enV okV X) 22 [] [] ad σ1 := by
    intro σ1 eN1 h
    unfold fJ7_fill_d0a16_j22 at h
    refine z_rng (fun hI1 hJ2 => ?_)
    have h := wpO_some.mp h
    exact z_return T C dJ7_fill_d0a16_22 eN1 h
  have J6 : ∀ (x1 : Int) (x3 : Int) (x4 : Int) (σ1 : St), inq x1 → inr x3 → inr x4 → σ1.2.2.2 = σ.2.2.2 → wpO (fJ7_fill_d0a16_j6 x0 n0 x1 x3 x4 σ1) (fun q => X q.1 q.2) → Z κ (0, 0) (Qm κ ad σ enV okV X) 6 [(0, vo ad x0 (some 0)), (1, vj x1), (3, vi x3), (4, vi x4)] [] ad σ1 := by
    intro x1 x3 x4 σ1 hx1 hx3 hx4 eN1 h
    unfold fJ7_fill_d0a16_j6 at h
    have step : ∀ (P6 : (Int × St) → Prop) (Q6 : St → Prop), (∀ (x3 : Int) (σ1 : St), P6 ((x3, σ1)) → inr x3 → σ1.2.2.2 = σ.2.2.2 → Z κ (0, 0) (Qm κ ad σ enV okV X) 6 [(0, vo ad x0 (some 0)), (1, vj x1), (3, vi x3), (4, vi x4)] [] ad σ1) → (∀ (σ1 : St), Q6 (σ1) → σ1.2.2.2 = σ.2.2.2 → Z κ (0, 0) (Qm κ ad σ enV okV X) 22 [] [] ad σ1) → ∀ (x3 : Int) (σ1 : St), inr x3 → σ1.2.2.2 = σ.2.2.2 → wpO (fJ7_fill_d0a16_l6 x0 n0 x1 x4 x3 σ1) (onS P6 Q6) → Z κ (0, 0) (Qm κ ad σ enV okV X) 6 [(0, vo ad x0 (some 0)), (1, vj x1), (3, vi x3), (4, vi x4)] [] ad σ1 := by
      intro P6 Q6 hP6 hE6_22 x3 σ1 hx3 eN1 h
      unfold fJ7_fill_d0a16_l6 at h
      refine z_rng (fun hI3 hJ4 => ?_)
      refine z_iload_n C 2 dJ7_fill_d0a16_6 rfl ?_
      refine z_iload C 3 dJ7_fill_d0a16_7 rfl ?_
      refine z_icmp_ge C 22 hx3 hx4 dJ7_fill_d0a16_9 (by decide) (fun q5 => ?_) (fun q5 => ?_)
      · have h := (wpO_ite.mp h).1 q5
        refine z_sub [] rfl ?_
        have h := wpO_some.mp h
        exact hE6_22 σ1 h eN1
      · have h := (wpO_ite.mp h).2 q5
        refine z_aload_n C 0 dJ7_fill_d0a16_12 rfl ?_
        refine z_iload_n C 2 dJ7_fill_d0a16_13 rfl ?_
        refine z_lload_n C 1 dJ7_fill_d0a16_14 rfl ?_
        obtain ⟨hb6, h⟩ := wpO_ck.mp h
        refine z_lastore C ha_x0 (hs_x0 T) hx3 hb6 hx1 dJ7_fill_d0a16_15 ?_
        obtain ⟨hk7, h⟩ := wpO_ck.mp h
        refine z_iinc (lv2 := [(3, vi (x3 + 1)), (0, vo ad x0 (some 0)), (1, vj x1), (4, vi x4)]) C 2 dJ7_fill_d0a16_16 rfl (by decide) rfl ?_
        refine z_goto C 6 dJ7_fill_d0a16_19 (by decide) ?_
        refine z_sub [1, 2, 0, 3] rfl ?_
        have h := wpO_some.mp h
        exact hP6 (x3 + 1) (sJ σ1 x0 0 x3.toNat x1) h hk7 eN1
    exact wh_ind (P := fun s : (Int × St) => inr s.1 → s.2.2.2.2 = σ.2.2.2 → Z κ (0, 0) (Qm κ ad σ enV okV X) 6 [(0, vo ad x0 (some 0)), (1, vj x1), (3, vi s.1), (4, vi x4)] [] ad s.2) (fun s hs g0 g1 => step _ _ (fun _ _ hp => hp) (fun σ1 hq eN1 => J22 σ1 eN1 hq) s.1 s.2 g0 g1 hs) ((x3, σ1)) (wpO_bnk.mp h) hx3 eN1
  show Z κ (0, 0) (Qm κ ad σ enV okV X) 0 [(0, vo ad x0 (some 0)), (1, vj x1)] [] ad σ
  refine z_rng (fun hI8 hJ9 => ?_)
  refine z_iconst C dJ7_fill_d0a16_0 ?_
  refine z_istore_n (lv2 := [(3, vi 0), (0, vo ad x0 (some 0)), (1, vj x1)]) C dJ7_fill_d0a16_1 (by decide) rfl ?_
  refine z_aload_n C 1 dJ7_fill_d0a16_2 rfl ?_
  refine z_alen (t0 := 2) C ha_x0 (fun _ => rfl) (by decide) (hs_x0 T) dJ7_fill_d0a16_3 ?_
  refine z_istore (lv2 := [(4, vi ((n0 : Int))), (3, vi 0), (0, vo ad x0 (some 0)), (1, vj x1)]) C dJ7_fill_d0a16_4 (by decide) rfl ?_
  refine z_sub [2, 3, 1, 0] rfl ?_
  exact J6 x1 0 ((n0 : Int)) σ hx1 (by decide) hn_x0 rfl h
noncomputable def fX0_highest (x0 : Int) : Option Int :=
  bnk (fJ6_numberOfLeadingZeros_0f7a4 (ior x0 1)) (fun r1 => ck (inr (31 - r1)) (some (31 - r1)))
set_option maxRecDepth 20000 in
set_option maxHeartbeats 4000000 in
theorem ct_X0_highest (x0 : Int) (hx0 : inr x0) : Ct yX0_highest cX0_highest 1 (some .int) 1 (fun ad => [vi x0]) (pu (fun _ => fX0_highest x0)) enI okI (fun _ => True) := by
  refine Ct.of (by decide) (fun ad => Nat.le_of_ble_eq_true rfl) ?_
  intro κ ad σ X C T hpre h
  have C : Cx κ RX0 cX0_highest 1 (some .int) 1 := C
  have h := wpO_pu.mp h
  unfold fX0_highest at h
  show Z κ (0, 0) (Qm κ ad σ enI okI X) 0 [(0, vi x0)] [] ad σ
  refine z_bipush C dX0_highest_0 (by decide) ?_
  refine z_iload_n C 0 dX0_highest_2 rfl ?_
  refine z_iconst C dX0_highest_3 ?_
  refine z_ior C dX0_highest_4 ?_
  refine z_cSp (st := [vi 31]) T C (ct_J6_numberOfLeadingZeros_0f7a4 (ior x0 1) (inr_ior _ _)) lm_X0_83 ls_J6_numberOfLeadingZeros_0f7a4 dX0_highest_5 rfl rfl trivial (by decide) (Nat.le_of_ble_eq_true rfl) csOK_0 h (fun r1 hr2 h => ?_)
  show Z κ (0, 0) _ 8 _ [vi r1, vi 31] ad σ
  obtain ⟨hk3, h⟩ := wpO_ck.mp h
  refine z_isub C dX0_highest_8 ?_
  have h := wpO_some.mp h
  exact z_ireturn T C dX0_highest_9 hk3 rfl h
noncomputable def fX11_withMember (x0 : Int) (x1 : Int) (x2 : Int) : Option Int :=
  if x2 = 0 then (some (iand x0 (ixor (ishl 1 x1) ((-1))))) else (some (ior x0 (ishl 1 x1)))
set_option maxRecDepth 20000 in
set_option maxHeartbeats 4000000 in
theorem ct_X11_withMember (x0 : Int) (x1 : Int) (x2 : Int) (hx0 : inr x0) (hx1 : inr x1) (hx2 : x2 = 0 ∨ x2 = 1) : Ct yX11_withMember cX11_withMember 3 (some .int) 0 (fun ad => [vi x0, vi x1, vi x2]) (pu (fun _ => fX11_withMember x0 x1 x2)) enI okI (fun _ => True) := by
  refine Ct.of (by decide) (fun ad => Nat.le_of_ble_eq_true rfl) ?_
  intro κ ad σ X C T hpre h
  have C : Cx κ RX11 cX11_withMember 3 (some .int) 0 := C
  have h := wpO_pu.mp h
  unfold fX11_withMember at h
  show Z κ (0, 0) (Qm κ ad σ enI okI X) 0 [(0, vi x0), (1, vi x1), (2, vi x2)] [] ad σ
  refine z_iload_n C 2 dX11_withMember_0 rfl ?_
  refine z_if_eq C 12 (inr_b hx2) dX11_withMember_1 (by decide) (fun q1 => ?_) (fun q1 => ?_)
  · have h := (wpO_ite.mp h).1 q1
    refine z_iload_n C 0 dX11_withMember_12 rfl ?_
    refine z_iconst C dX11_withMember_13 ?_
    refine z_iload_n C 1 dX11_withMember_14 rfl ?_
    refine z_ishl C dX11_withMember_15 ?_
    refine z_iconst C dX11_withMember_16 ?_
    refine z_ixor C dX11_withMember_17 ?_
    refine z_iand C dX11_withMember_18 ?_
    have h := wpO_some.mp h
    exact z_ireturn T C dX11_withMember_19 (inr_iand _ _) rfl h
  · have h := (wpO_ite.mp h).2 q1
    refine z_iload_n C 0 dX11_withMember_4 rfl ?_
    refine z_iconst C dX11_withMember_5 ?_
    refine z_iload_n C 1 dX11_withMember_6 rfl ?_
    refine z_ishl C dX11_withMember_7 ?_
    refine z_ior C dX11_withMember_8 ?_
    refine z_goto C 19 dX11_withMember_9 (by decide) ?_
    have h := wpO_some.mp h
    exact z_ireturn T C dX11_withMember_19 (inr_ior _ _) rfl h
noncomputable def fX11_hasMember (x0 : Int) (x1 : Int) : Option Int :=
  if iand (ishr x0 x1) 1 = 0 then (some 0) else (some 1)
set_option maxRecDepth 20000 in
set_option maxHeartbeats 4000000 in
theorem ct_X11_hasMember (x0 : Int) (x1 : Int) (hx0 : inr x0) (hx1 : inr x1) : Ct yX11_hasMember cX11_hasMember 2 (some .boolean) 0 (fun ad => [vi x0, vi x1]) (pu (fun _ => fX11_hasMember x0 x1)) enI okB (fun _ => True) := by
  refine Ct.of (by decide) (fun ad => Nat.le_of_ble_eq_true rfl) ?_
  intro κ ad σ X C T hpre h
  have C : Cx κ RX11 cX11_hasMember 2 (some .boolean) 0 := C
  have h := wpO_pu.mp h
  unfold fX11_hasMember at h
  show Z κ (0, 0) (Qm κ ad σ enI okB X) 0 [(0, vi x0), (1, vi x1)] [] ad σ
  refine z_iload_n C 0 dX11_hasMember_0 rfl ?_
  refine z_iload_n C 1 dX11_hasMember_1 rfl ?_
  refine z_ishr C dX11_hasMember_2 ?_
  refine z_iconst C dX11_hasMember_3 ?_
  refine z_iand C dX11_hasMember_4 ?_
  refine z_if_eq C 12 (inr_iand _ _) dX11_hasMember_5 (by decide) (fun q1 => ?_) (fun q1 => ?_)
  · have h := (wpO_ite.mp h).1 q1
    refine z_iconst C dX11_hasMember_12 ?_
    have h := wpO_some.mp h
    exact z_breturn T C dX11_hasMember_13 (by decide) rfl h
  · have h := (wpO_ite.mp h).2 q1
    refine z_iconst C dX11_hasMember_8 ?_
    refine z_goto C 13 dX11_hasMember_9 (by decide) ?_
    have h := wpO_some.mp h
    exact z_breturn T C dX11_hasMember_13 (by decide) rfl h
noncomputable def fX0_canDo (x1 : Int) (x2 : Int) (σ : St) : Option Int :=
  bnk (fX0_highest x1) (fun r3 => bnk (fX11_withMember x1 r3 0) (fun r5 => if r5 = 0 then (bnk (fX11_hasMember x2 r3) (fun r16 => some r16)) else (ck (0 ≤ r5 ∧ r5 < 256) (if gI σ 108 0 r5.toNat = 0 then (some 0) else (bnk (fX0_highest r5) (fun r10 => ck (0 ≤ r10 ∧ r10 < 8) (bnk (fX11_hasMember (gI σ 107 0 r10.toNat) r3) (fun r13 => if r13 = 0 then (some 0) else (some 1)))))))))
set_option maxRecDepth 20000 in
set_option maxHeartbeats 4000000 in
theorem ct_X0_canDo (x1 : Int) (x2 : Int) (hx1 : inr x1) (hx2 : inr x2) : Ct yX0_canDo cX0_canDo 5 (some .boolean) 2 (fun ad => [vo ad 0 (some 0), vi x1, vi x2]) (pu (fX0_canDo x1 x2)) enI okB (fun _ => True) := by
  refine Ct.of (by decide) (fun ad => Nat.le_of_ble_eq_true rfl) ?_
  intro κ ad σ X C T hpre h
  have C : Cx κ RX0 cX0_canDo 5 (some .boolean) 2 := C
  have h := wpO_pu.mp h
  unfold fX0_canDo at h
  show Z κ (0, 0) (Qm κ ad σ enI okB X) 0 [(0, vo ad 0 (some 0)), (1, vi x1), (2, vi x2)] [] ad σ
  refine z_rng (fun hI1 hJ2 => ?_)
  refine z_iload_n C 1 dX0_canDo_0 rfl ?_
  refine z_cSp (st := []) T C (ct_X0_highest x1 hx1) lm_X0_76 ls_X0_highest dX0_canDo_1 rfl rfl trivial (by decide) (Nat.le_of_ble_eq_true rfl) csOK_0 h (fun r3 hr4 h => ?_)
  show Z κ (0, 0) _ 4 _ [vi r3] ad σ
  refine z_istore_n (lv2 := [(3, vi r3), (0, vo ad 0 (some 0)), (1, vi x1), (2, vi x2)]) C dX0_canDo_4 (by decide) rfl ?_
  refine z_iload_n C 2 dX0_canDo_5 rfl ?_
  refine z_iload_n C 0 dX0_canDo_6 rfl ?_
  refine z_iconst C dX0_canDo_7 ?_
  refine z_cSp (st := []) T C (ct_X11_withMember x1 r3 0 hx1 hr4 (by decide)) lm_X0_69 ls_X11_withMember dX0_canDo_8 rfl rfl trivial (by decide) (Nat.le_of_ble_eq_true rfl) csOK_0 h (fun r5 hr6 h => ?_)
  show Z κ (0, 0) _ 11 _ [vi r5] ad σ
  refine z_istore (lv2 := [(4, vi r5), (3, vi r3), (0, vo ad 0 (some 0)), (1, vi x1), (2, vi x2)]) C dX0_canDo_11 (by decide) rfl ?_
  refine z_iload C 0 dX0_canDo_13 rfl ?_
  refine z_if_ne C 24 hr6 dX0_canDo_15 (by decide) (fun q7 => ?_) (fun q7 => ?_)
  · have h := (wpO_ite.mp h).2 q7
    refine z_aload_n C 2 dX0_canDo_24 rfl ?_
    refine z_gA T C li_X0_33 (sg_0 T) dX0_canDo_25 ?_
    refine z_iload C 0 dX0_canDo_28 rfl ?_
    obtain ⟨hb8, h⟩ := wpO_ck.mp h
    refine z_bav (v := gI σ 108 0 r5.toNat) C ar_108 (sg_108 T) hr6 hb8 rfl dX0_canDo_30 ?_
    refine z_if_eq C 55 (hI1 108 0 _) dX0_canDo_31 (by decide) (fun q9 => ?_) (fun q9 => ?_)
    · have h := (wpO_ite.mp h).1 q9
      refine z_iconst C dX0_canDo_55 ?_
      have h := wpO_some.mp h
      exact z_breturn T C dX0_canDo_56 (by decide) rfl h
    · have h := (wpO_ite.mp h).2 q9
      refine z_aload_n C 2 dX0_canDo_34 rfl ?_
      refine z_gA T C li_X0_30 (sg_0 T) dX0_canDo_35 ?_
      refine z_iload C 0 dX0_canDo_38 rfl ?_
      refine z_cSp (st := [vo ad 107 (some 0)]) T C (ct_X0_highest r5 hr6) lm_X0_76 ls_X0_highest dX0_canDo_40 rfl rfl trivial (by decide) (Nat.le_of_ble_eq_true rfl) csOK_0 h (fun r10 hr11 h => ?_)
      show Z κ (0, 0) _ 43 _ [vi r10, vo ad 107 (some 0)] ad σ
      obtain ⟨hb12, h⟩ := wpO_ck.mp h
      refine z_iav (v := gI σ 107 0 r10.toNat) C ar_107 (sg_107 T) hr11 hb12 rfl dX0_canDo_43 ?_
      refine z_iload_n C 1 dX0_canDo_44 rfl ?_
      refine z_cSp (st := []) T C (ct_X11_hasMember (gI σ 107 0 r10.toNat) r3 (hI1 107 0 _) hr4) lm_X0_80 ls_X11_hasMember dX0_canDo_45 rfl rfl trivial (by decide) (Nat.le_of_ble_eq_true rfl) csOK_0 h (fun r13 hr14 h => ?_)
      show Z κ (0, 0) _ 48 _ [vi r13] ad σ
      refine z_if_eq C 55 (inr_b hr14) dX0_canDo_48 (by decide) (fun q15 => ?_) (fun q15 => ?_)
      · have h := (wpO_ite.mp h).1 q15
        refine z_iconst C dX0_canDo_55 ?_
        have h := wpO_some.mp h
        exact z_breturn T C dX0_canDo_56 (by decide) rfl h
      · have h := (wpO_ite.mp h).2 q15
        refine z_iconst C dX0_canDo_51 ?_
        refine z_goto C 56 dX0_canDo_52 (by decide) ?_
        have h := wpO_some.mp h
        exact z_breturn T C dX0_canDo_56 (by decide) rfl h
  · have h := (wpO_ite.mp h).1 q7
    refine z_iload_n C 4 dX0_canDo_18 rfl ?_
    refine z_iload_n C 1 dX0_canDo_19 rfl ?_
    refine z_cSp (st := []) T C (ct_X11_hasMember x2 r3 hx2 hr4) lm_X0_80 ls_X11_hasMember dX0_canDo_20 rfl rfl trivial (by decide) (Nat.le_of_ble_eq_true rfl) csOK_0 h (fun r16 hr17 h => ?_)
    show Z κ (0, 0) _ 23 _ [vi r16] ad σ
    have h := wpO_some.mp h
    exact z_breturn T C dX0_canDo_23 hr17 rfl h
noncomputable def fX0_addMan_j104 (σ1 : St) : Option (Unit × St) :=
  some ((), σ1)
noncomputable def fX0_addMan_j98 (x2 : Int) (σ1 : St) : Option ((Int × St) ⊕ St) :=
  ck (inr (x2 + (-1))) (some (.inl ((x2 + (-1), σ1))))
noncomputable def fX0_addMan_j88 (x2 : Int) (x3 : Int) (s1 : Int) (s2 : Int) (σ1 : St) : Option ((Int × St) ⊕ St) :=
  ck (0 ≤ s1 ∧ s1 < 256) (ck (s2 = 0 ∨ s2 = 1) (ck (inr (x3 - 1)) (some (.inl ((iand (x3 - 1) x2, sI σ1 109 0 s1.toNat s2))))))
noncomputable def fX0_addMan_j87 (x2 : Int) (x3 : Int) (s1 : Int) (σ1 : St) : Option ((Int × St) ⊕ St) :=
  fX0_addMan_j88 x2 x3 s1 0 σ1
noncomputable def fX0_addMan_l45 (x2 : Int) (x3 : Int) (σ1 : St) : Option ((Int × St) ⊕ St) :=
  if x3 ≤ 0 then (some (.inr σ1)) else (ck (0 ≤ x2 ∧ x2 < 256) (if gI σ1 109 0 x2.toNat = 0 then (ck (0 ≤ x3 ∧ x3 < 256) (if gI σ1 108 0 x3.toNat = 0 then (fX0_addMan_j87 x2 x3 x2 σ1) else (ck (0 ≤ ixor x2 x3 ∧ ixor x2 x3 < 256) (if gI σ1 109 0 ((ixor x2 x3).toNat) = 0 then (fX0_addMan_j87 x2 x3 x2 σ1) else (fX0_addMan_j88 x2 x3 x2 1 σ1))))) else (some (.inr σ1))))
noncomputable def fX0_addMan_j45 (x2 : Int) (x3 : Int) (σ1 : St) : Option ((Int × St) ⊕ St) :=
  bnk (wh (fun s => fX0_addMan_l45 x2 s.1 s.2) ((x3, σ1))) (fun e => fX0_addMan_j98 x2 e)
noncomputable def fX0_addMan_l39 (x2 : Int) (σ1 : St) : Option ((Int × St) ⊕ St) :=
  if x2 ≤ 0 then (some (.inr σ1)) else (fX0_addMan_j45 x2 x2 σ1)
noncomputable def fX0_addMan_j39 (x2 : Int) (σ1 : St) : Option (Unit × St) :=
  bnk (wh (fun s => fX0_addMan_l39 s.1 s.2) ((x2, σ1))) (fun e => fX0_addMan_j104 e)
noncomputable def fX0_addMan_j30 (σ1 : St) : Option (Unit × St) :=
  ck (inr ((ishl 1 (gI σ1 102 0 0)) - 1)) (fX0_addMan_j39 ((ishl 1 (gI σ1 102 0 0)) - 1) σ1)
noncomputable def fX0_addMan_l2 (x1 : Int) (x2 : Int) (σ1 : St) : Option ((Int × St) ⊕ St) :=
  if ishl 1 (gI σ1 102 0 0) ≤ x2 then (some (.inr σ1)) else (bnk (fX0_canDo x2 x1 σ1) (fun r31 => ck (0 ≤ x2 ∧ x2 < 256) (ck (inr (x2 + 1)) (some (.inl ((x2 + 1, sI σ1 108 0 x2.toNat r31)))))))
noncomputable def fX0_addMan_j2 (x1 : Int) (x2 : Int) (σ1 : St) : Option (Unit × St) :=
  bnk (wh (fun s => fX0_addMan_l2 x1 s.1 s.2) ((x2, σ1))) (fun e => fX0_addMan_j30 e)
noncomputable def fX0_addMan (x1 : Int) (σ : St) : Option (Unit × St) :=
  fX0_addMan_j2 x1 1 σ
set_option maxRecDepth 20000 in
set_option maxHeartbeats 4000000 in
theorem ct_X0_addMan (x1 : Int) (hx1 : inr x1) : Ct yX0_addMan cX0_addMan 4 none 3 (fun ad => [vo ad 0 (some 0), vi x1]) (fX0_addMan x1) enV okV (fun _ => True) := by
  refine Ct.of (by decide) (fun ad => Nat.le_of_ble_eq_true rfl) ?_
  intro κ ad σ X C T hpre h
  have C : Cx κ RX0 cX0_addMan 4 none 3 := C
  unfold fX0_addMan at h
  have J104 : ∀ (σ1 : St), σ1.2.2.2 = σ.2.2.2 → wpO (fX0_addMan_j104 σ1) (fun q => X q.1 q.2) → Z κ (0, 0) (Qm κ ad σ enV okV X) 104 [] [] ad σ1 := by
    intro σ1 eN1 h
    unfold fX0_addMan_j104 at h
    refine z_rng (fun hI1 hJ2 => ?_)
    have h := wpO_some.mp h
    exact z_return T C dX0_addMan_104 eN1 h
  have J39 : ∀ (x2 : Int) (σ1 : St), inr x2 → σ1.2.2.2 = σ.2.2.2 → wpO (fX0_addMan_j39 x2 σ1) (fun q => X q.1 q.2) → Z κ (0, 0) (Qm κ ad σ enV okV X) 39 [(0, vo ad 0 (some 0)), (2, vi x2)] [] ad σ1 := by
    intro x2 σ1 hx2 eN1 h
    unfold fX0_addMan_j39 at h
    have step : ∀ (P39 : (Int × St) → Prop) (Q39 : St → Prop), (∀ (x2 : Int) (σ1 : St), P39 ((x2, σ1)) → inr x2 → σ1.2.2.2 = σ.2.2.2 → Z κ (0, 0) (Qm κ ad σ enV okV X) 39 [(0, vo ad 0 (some 0)), (2, vi x2)] [] ad σ1) → (∀ (σ1 : St), Q39 (σ1) → σ1.2.2.2 = σ.2.2.2 → Z κ (0, 0) (Qm κ ad σ enV okV X) 104 [] [] ad σ1) → ∀ (x2 : Int) (σ1 : St), inr x2 → σ1.2.2.2 = σ.2.2.2 → wpO (fX0_addMan_l39 x2 σ1) (onS P39 Q39) → Z κ (0, 0) (Qm κ ad σ enV okV X) 39 [(0, vo ad 0 (some 0)), (2, vi x2)] [] ad σ1 := by
      intro P39 Q39 hP39 hE39_104 x2 σ1 hx2 eN1 h
      unfold fX0_addMan_l39 at h
      have J98 : ∀ (x2 : Int) (σ1 : St), inr x2 → σ1.2.2.2 = σ.2.2.2 → wpO (fX0_addMan_j98 x2 σ1) (onS P39 Q39) → Z κ (0, 0) (Qm κ ad σ enV okV X) 98 [(0, vo ad 0 (some 0)), (2, vi x2)] [] ad σ1 := by
        intro x2 σ1 hx2 eN1 h
        unfold fX0_addMan_j98 at h
        refine z_rng (fun hI3 hJ4 => ?_)
        obtain ⟨hk5, h⟩ := wpO_ck.mp h
        refine z_iinc (lv2 := [(2, vi (x2 + (-1))), (0, vo ad 0 (some 0))]) C 1 dX0_addMan_98 rfl (by decide) rfl ?_
        refine z_goto C 39 dX0_addMan_101 (by decide) ?_
        refine z_sub [1, 0] rfl ?_
        have h := wpO_some.mp h
        exact hP39 (x2 + (-1)) σ1 h hk5 eN1
      have J45 : ∀ (x2 : Int) (x3 : Int) (σ1 : St), inr x2 → inr x3 → σ1.2.2.2 = σ.2.2.2 → wpO (fX0_addMan_j45 x2 x3 σ1) (onS P39 Q39) → Z κ (0, 0) (Qm κ ad σ enV okV X) 45 [(0, vo ad 0 (some 0)), (2, vi x2), (3, vi x3)] [] ad σ1 := by
        intro x2 x3 σ1 hx2 hx3 eN1 h
        unfold fX0_addMan_j45 at h
        have step : ∀ (P45 : (Int × St) → Prop) (Q45 : St → Prop), (∀ (x3 : Int) (σ1 : St), P45 ((x3, σ1)) → inr x3 → σ1.2.2.2 = σ.2.2.2 → Z κ (0, 0) (Qm κ ad σ enV okV X) 45 [(0, vo ad 0 (some 0)), (2, vi x2), (3, vi x3)] [] ad σ1) → (∀ (σ1 : St), Q45 (σ1) → σ1.2.2.2 = σ.2.2.2 → Z κ (0, 0) (Qm κ ad σ enV okV X) 98 [(0, vo ad 0 (some 0)), (2, vi x2)] [] ad σ1) → ∀ (x3 : Int) (σ1 : St), inr x3 → σ1.2.2.2 = σ.2.2.2 → wpO (fX0_addMan_l45 x2 x3 σ1) (onS P45 Q45) → Z κ (0, 0) (Qm κ ad σ enV okV X) 45 [(0, vo ad 0 (some 0)), (2, vi x2), (3, vi x3)] [] ad σ1 := by
          intro P45 Q45 hP45 hE45_98 x3 σ1 hx3 eN1 h
          unfold fX0_addMan_l45 at h
          have J88 : ∀ (x3 : Int) (s1 : Int) (s2 : Int) (σ1 : St), inr x3 → inr s1 → inr s2 → σ1.2.2.2 = σ.2.2.2 → wpO (fX0_addMan_j88 x2 x3 s1 s2 σ1) (onS P45 Q45) → Z κ (0, 0) (Qm κ ad σ enV okV X) 88 [(0, vo ad 0 (some 0)), (2, vi x2), (3, vi x3)] [vi s2, vi s1, vo ad 109 (some 0)] ad σ1 := by
            intro x3 s1 s2 σ1 hx3 hs1 hs2 eN1 h
            unfold fX0_addMan_j88 at h
            refine z_rng (fun hI6 hJ7 => ?_)
            obtain ⟨hb8, h⟩ := wpO_ck.mp h
            obtain ⟨hb9, h⟩ := wpO_ck.mp h
            refine z_bastore C ar_109 (sg_109 T) hs1 hb8 hs2 hb9 dX0_addMan_88 ?_
            refine z_iload_n C 2 dX0_addMan_89 rfl ?_
            refine z_iconst C dX0_addMan_90 ?_
            obtain ⟨hk10, h⟩ := wpO_ck.mp h
            refine z_isub C dX0_addMan_91 ?_
            refine z_iload_n C 1 dX0_addMan_92 rfl ?_
            refine z_iand C dX0_addMan_93 ?_
            refine z_istore_n (lv2 := [(3, vi (iand (x3 - 1) x2)), (0, vo ad 0 (some 0)), (2, vi x2)]) C dX0_addMan_94 (by decide) rfl ?_
            refine z_goto C 45 dX0_addMan_95 (by decide) ?_
            refine z_sub [1, 2, 0] rfl ?_
            have h := wpO_some.mp h
            exact hP45 (iand (x3 - 1) x2) (sI σ1 109 0 s1.toNat s2) h (inr_iand _ _) eN1
          have J87 : ∀ (x3 : Int) (s1 : Int) (σ1 : St), inr x3 → inr s1 → σ1.2.2.2 = σ.2.2.2 → wpO (fX0_addMan_j87 x2 x3 s1 σ1) (onS P45 Q45) → Z κ (0, 0) (Qm κ ad σ enV okV X) 87 [(0, vo ad 0 (some 0)), (2, vi x2), (3, vi x3)] [vi s1, vo ad 109 (some 0)] ad σ1 := by
            intro x3 s1 σ1 hx3 hs1 eN1 h
            unfold fX0_addMan_j87 at h
            refine z_rng (fun hI11 hJ12 => ?_)
            refine z_iconst C dX0_addMan_87 ?_
            exact J88 x3 s1 0 σ1 hx3 hs1 (by decide) eN1 h
          refine z_rng (fun hI13 hJ14 => ?_)
          refine z_iload_n C 2 dX0_addMan_45 rfl ?_
          refine z_if_le C 98 hx3 dX0_addMan_46 (by decide) (fun q15 => ?_) (fun q15 => ?_)
          · have h := (wpO_ite.mp h).1 q15
            refine z_sub [0, 1] rfl ?_
            have h := wpO_some.mp h
            exact hE45_98 σ1 h eN1
          · have h := (wpO_ite.mp h).2 q15
            refine z_aload_n C 0 dX0_addMan_49 rfl ?_
            refine z_gA T C li_X0_37 (sg_0 T) dX0_addMan_50 ?_
            refine z_iload_n C 1 dX0_addMan_53 rfl ?_
            obtain ⟨hb16, h⟩ := wpO_ck.mp h
            refine z_bav (v := gI σ1 109 0 x2.toNat) C ar_109 (sg_109 T) hx2 hb16 rfl dX0_addMan_54 ?_
            refine z_if_ne C 98 (hI13 109 0 _) dX0_addMan_55 (by decide) (fun q17 => ?_) (fun q17 => ?_)
            · have h := (wpO_ite.mp h).2 q17
              refine z_sub [0, 1] rfl ?_
              have h := wpO_some.mp h
              exact hE45_98 σ1 h eN1
            · have h := (wpO_ite.mp h).1 q17
              refine z_aload_n C 0 dX0_addMan_58 rfl ?_
              refine z_gA T C li_X0_37 (sg_0 T) dX0_addMan_59 ?_
              refine z_iload_n C 1 dX0_addMan_62 rfl ?_
              refine z_aload_n C 0 dX0_addMan_63 rfl ?_
              refine z_gA T C li_X0_33 (sg_0 T) dX0_addMan_64 ?_
              refine z_iload_n C 2 dX0_addMan_67 rfl ?_
              obtain ⟨hb18, h⟩ := wpO_ck.mp h
              refine z_bav (v := gI σ1 108 0 x3.toNat) C ar_108 (sg_108 T) hx3 hb18 rfl dX0_addMan_68 ?_
              refine z_if_eq C 87 (hI13 108 0 _) dX0_addMan_69 (by decide) (fun q19 => ?_) (fun q19 => ?_)
              · have h := (wpO_ite.mp h).1 q19
                exact J87 x3 x2 σ1 hx3 hx2 eN1 h
              · have h := (wpO_ite.mp h).2 q19
                refine z_aload_n C 0 dX0_addMan_72 rfl ?_
                refine z_gA T C li_X0_37 (sg_0 T) dX0_addMan_73 ?_
                refine z_iload_n C 1 dX0_addMan_76 rfl ?_
                refine z_iload_n C 2 dX0_addMan_77 rfl ?_
                refine z_ixor C dX0_addMan_78 ?_
                obtain ⟨hb20, h⟩ := wpO_ck.mp h
                refine z_bav (v := gI σ1 109 0 ((ixor x2 x3).toNat)) C ar_109 (sg_109 T) (inr_ixor _ _) hb20 rfl dX0_addMan_79 ?_
                refine z_if_eq C 87 (hI13 109 0 _) dX0_addMan_80 (by decide) (fun q21 => ?_) (fun q21 => ?_)
                · have h := (wpO_ite.mp h).1 q21
                  exact J87 x3 x2 σ1 hx3 hx2 eN1 h
                · have h := (wpO_ite.mp h).2 q21
                  refine z_iconst C dX0_addMan_83 ?_
                  refine z_goto C 88 dX0_addMan_84 (by decide) ?_
                  exact J88 x3 x2 1 σ1 hx3 hx2 (by decide) eN1 h
        exact wh_ind (P := fun s : (Int × St) => inr s.1 → s.2.2.2.2 = σ.2.2.2 → Z κ (0, 0) (Qm κ ad σ enV okV X) 45 [(0, vo ad 0 (some 0)), (2, vi x2), (3, vi s.1)] [] ad s.2) (fun s hs g0 g1 => step _ _ (fun _ _ hp => hp) (fun σ1 hq eN1 => J98 x2 σ1 hx2 eN1 hq) s.1 s.2 g0 g1 hs) ((x3, σ1)) (wpO_bnk.mp h) hx3 eN1
      refine z_rng (fun hI22 hJ23 => ?_)
      refine z_iload_n C 1 dX0_addMan_39 rfl ?_
      refine z_if_le C 104 hx2 dX0_addMan_40 (by decide) (fun q24 => ?_) (fun q24 => ?_)
      · have h := (wpO_ite.mp h).1 q24
        refine z_sub [] rfl ?_
        have h := wpO_some.mp h
        exact hE39_104 σ1 h eN1
      · have h := (wpO_ite.mp h).2 q24
        refine z_iload_n C 1 dX0_addMan_43 rfl ?_
        refine z_istore_n (lv2 := [(3, vi x2), (0, vo ad 0 (some 0)), (2, vi x2)]) C dX0_addMan_44 (by decide) rfl ?_
        refine z_sub [1, 2, 0] rfl ?_
        exact J45 x2 x2 σ1 hx2 hx2 eN1 h
    exact wh_ind (P := fun s : (Int × St) => inr s.1 → s.2.2.2.2 = σ.2.2.2 → Z κ (0, 0) (Qm κ ad σ enV okV X) 39 [(0, vo ad 0 (some 0)), (2, vi s.1)] [] ad s.2) (fun s hs g0 g1 => step _ _ (fun _ _ hp => hp) (fun σ1 hq eN1 => J104 σ1 eN1 hq) s.1 s.2 g0 g1 hs) ((x2, σ1)) (wpO_bnk.mp h) hx2 eN1
  have J30 : ∀ (σ1 : St), σ1.2.2.2 = σ.2.2.2 → wpO (fX0_addMan_j30 σ1) (fun q => X q.1 q.2) → Z κ (0, 0) (Qm κ ad σ enV okV X) 30 [(0, vo ad 0 (some 0))] [] ad σ1 := by
    intro σ1 eN1 h
    unfold fX0_addMan_j30 at h
    refine z_rng (fun hI25 hJ26 => ?_)
    refine z_iconst C dX0_addMan_30 ?_
    refine z_aload_n C 0 dX0_addMan_31 rfl ?_
    refine z_gIv (v := gI σ1 102 0 0) C li_X0_40 (sg_0 T) rfl dX0_addMan_32 ?_
    refine z_ishl C dX0_addMan_35 ?_
    refine z_iconst C dX0_addMan_36 ?_
    obtain ⟨hk27, h⟩ := wpO_ck.mp h
    refine z_isub C dX0_addMan_37 ?_
    refine z_istore_n (lv2 := [(2, vi ((ishl 1 (gI σ1 102 0 0)) - 1)), (0, vo ad 0 (some 0))]) C dX0_addMan_38 (by decide) rfl ?_
    refine z_sub [1, 0] rfl ?_
    exact J39 ((ishl 1 (gI σ1 102 0 0)) - 1) σ1 hk27 eN1 h
  have J2 : ∀ (x1 : Int) (x2 : Int) (σ1 : St), inr x1 → inr x2 → σ1.2.2.2 = σ.2.2.2 → wpO (fX0_addMan_j2 x1 x2 σ1) (fun q => X q.1 q.2) → Z κ (0, 0) (Qm κ ad σ enV okV X) 2 [(0, vo ad 0 (some 0)), (1, vi x1), (2, vi x2)] [] ad σ1 := by
    intro x1 x2 σ1 hx1 hx2 eN1 h
    unfold fX0_addMan_j2 at h
    have step : ∀ (P2 : (Int × St) → Prop) (Q2 : St → Prop), (∀ (x2 : Int) (σ1 : St), P2 ((x2, σ1)) → inr x2 → σ1.2.2.2 = σ.2.2.2 → Z κ (0, 0) (Qm κ ad σ enV okV X) 2 [(0, vo ad 0 (some 0)), (1, vi x1), (2, vi x2)] [] ad σ1) → (∀ (σ1 : St), Q2 (σ1) → σ1.2.2.2 = σ.2.2.2 → Z κ (0, 0) (Qm κ ad σ enV okV X) 30 [(0, vo ad 0 (some 0))] [] ad σ1) → ∀ (x2 : Int) (σ1 : St), inr x2 → σ1.2.2.2 = σ.2.2.2 → wpO (fX0_addMan_l2 x1 x2 σ1) (onS P2 Q2) → Z κ (0, 0) (Qm κ ad σ enV okV X) 2 [(0, vo ad 0 (some 0)), (1, vi x1), (2, vi x2)] [] ad σ1 := by
      intro P2 Q2 hP2 hE2_30 x2 σ1 hx2 eN1 h
      unfold fX0_addMan_l2 at h
      refine z_rng (fun hI28 hJ29 => ?_)
      refine z_iload_n C 2 dX0_addMan_2 rfl ?_
      refine z_iconst C dX0_addMan_3 ?_
      refine z_aload_n C 0 dX0_addMan_4 rfl ?_
      refine z_gIv (v := gI σ1 102 0 0) C li_X0_40 (sg_0 T) rfl dX0_addMan_5 ?_
      refine z_ishl C dX0_addMan_8 ?_
      refine z_icmp_ge C 30 hx2 (inr_ishl _ _) dX0_addMan_9 (by decide) (fun q30 => ?_) (fun q30 => ?_)
      · have h := (wpO_ite.mp h).1 q30
        refine z_sub [0] rfl ?_
        have h := wpO_some.mp h
        exact hE2_30 σ1 h eN1
      · have h := (wpO_ite.mp h).2 q30
        refine z_aload_n C 0 dX0_addMan_12 rfl ?_
        refine z_gA T C li_X0_33 (sg_0 T) dX0_addMan_13 ?_
        refine z_iload_n C 2 dX0_addMan_16 rfl ?_
        refine z_aload_n C 0 dX0_addMan_17 rfl ?_
        refine z_iload_n C 2 dX0_addMan_18 rfl ?_
        refine z_iload_n C 1 dX0_addMan_19 rfl ?_
        refine z_cVp (st := [vi x2, vo ad 108 (some 0)]) T C (ct_X0_canDo x2 x1 hx2 hx1) lm_X0_73 lv_vX0_canDo dX0_addMan_20 [vi x2, vi x1] rfl rfl rfl rfl rfl (sg_0 T) trivial (by decide) (Nat.le_of_ble_eq_true rfl) csOK_0 h (fun r31 hr32 h => ?_)
        show Z κ (0, 0) _ 23 _ [vi r31, vi x2, vo ad 108 (some 0)] ad σ1
        obtain ⟨hb33, h⟩ := wpO_ck.mp h
        refine z_bastore C ar_108 (sg_108 T) hx2 hb33 (inr_b hr32) hr32 dX0_addMan_23 ?_
        obtain ⟨hk34, h⟩ := wpO_ck.mp h
        refine z_iinc (lv2 := [(2, vi (x2 + 1)), (0, vo ad 0 (some 0)), (1, vi x1)]) C 2 dX0_addMan_24 rfl (by decide) rfl ?_
        refine z_goto C 2 dX0_addMan_27 (by decide) ?_
        refine z_sub [1, 2, 0] rfl ?_
        have h := wpO_some.mp h
        exact hP2 (x2 + 1) (sI σ1 108 0 x2.toNat r31) h hk34 eN1
    exact wh_ind (P := fun s : (Int × St) => inr s.1 → s.2.2.2.2 = σ.2.2.2 → Z κ (0, 0) (Qm κ ad σ enV okV X) 2 [(0, vo ad 0 (some 0)), (1, vi x1), (2, vi s.1)] [] ad s.2) (fun s hs g0 g1 => step _ _ (fun _ _ hp => hp) (fun σ1 hq eN1 => J30 σ1 eN1 hq) s.1 s.2 g0 g1 hs) ((x2, σ1)) (wpO_bnk.mp h) hx2 eN1
  show Z κ (0, 0) (Qm κ ad σ enV okV X) 0 [(0, vo ad 0 (some 0)), (1, vi x1)] [] ad σ
  refine z_rng (fun hI35 hJ36 => ?_)
  refine z_iconst C dX0_addMan_0 ?_
  refine z_istore_n (lv2 := [(2, vi 1), (0, vo ad 0 (some 0)), (1, vi x1)]) C dX0_addMan_1 (by decide) rfl ?_
  refine z_sub [1, 2, 0] rfl ?_
  exact J2 x1 1 σ hx1 (by decide) rfl h
noncomputable def fX0_insertByHour_j43 (x1 : Int) (x3 : Int) (σ1 : St) : Option (Unit × St) :=
  ck (0 ≤ x3 ∧ x3 < 8) (some ((), sI σ1 106 0 x3.toNat x1))
noncomputable def fX0_insertByHour_l2 (x1 : Int) (x2 : Int) (x3 : Int) (σ1 : St) : Option ((Int × St) ⊕ (Int × St)) :=
  if x3 ≤ 0 then (some (.inr ((x3, σ1)))) else (ck (inr (x3 - 1)) (ck (0 ≤ x3 - 1 ∧ x3 - 1 < 8) (ck (0 ≤ gI σ1 106 0 ((x3 - 1).toNat) ∧ gI σ1 106 0 ((x3 - 1).toNat) < 8) (if gI σ1 104 0 ((gI σ1 106 0 ((x3 - 1).toNat)).toNat) ≤ x2 then (some (.inr ((x3, σ1)))) else (ck (inr (x3 - 1)) (ck (0 ≤ x3 - 1 ∧ x3 - 1 < 8) (ck (0 ≤ x3 ∧ x3 < 8) (ck (inr (x3 + (-1))) (some (.inl ((x3 + (-1), sI σ1 106 0 x3.toNat (gI σ1 106 0 ((x3 - 1).toNat))))))))))))))
noncomputable def fX0_insertByHour_j2 (x1 : Int) (x2 : Int) (x3 : Int) (σ1 : St) : Option (Unit × St) :=
  bnk (wh (fun s => fX0_insertByHour_l2 x1 x2 s.1 s.2) ((x3, σ1))) (fun e => fX0_insertByHour_j43 x1 e.1 e.2)
noncomputable def fX0_insertByHour (x1 : Int) (x2 : Int) (σ : St) : Option (Unit × St) :=
  fX0_insertByHour_j2 x1 x2 x1 σ
set_option maxRecDepth 20000 in
set_option maxHeartbeats 4000000 in
theorem ct_X0_insertByHour (x1 : Int) (x2 : Int) (hx1 : inr x1) (hx2 : inr x2) : Ct yX0_insertByHour cX0_insertByHour 4 none 0 (fun ad => [vo ad 0 (some 0), vi x1, vi x2]) (fX0_insertByHour x1 x2) enV okV (fun _ => True) := by
  refine Ct.of (by decide) (fun ad => Nat.le_of_ble_eq_true rfl) ?_
  intro κ ad σ X C T hpre h
  have C : Cx κ RX0 cX0_insertByHour 4 none 0 := C
  unfold fX0_insertByHour at h
  have J43 : ∀ (x1 : Int) (x3 : Int) (σ1 : St), inr x1 → inr x3 → σ1.2.2.2 = σ.2.2.2 → wpO (fX0_insertByHour_j43 x1 x3 σ1) (fun q => X q.1 q.2) → Z κ (0, 0) (Qm κ ad σ enV okV X) 43 [(0, vo ad 0 (some 0)), (1, vi x1), (3, vi x3)] [] ad σ1 := by
    intro x1 x3 σ1 hx1 hx3 eN1 h
    unfold fX0_insertByHour_j43 at h
    refine z_rng (fun hI1 hJ2 => ?_)
    refine z_aload_n C 0 dX0_insertByHour_43 rfl ?_
    refine z_gA T C li_X0_27 (sg_0 T) dX0_insertByHour_44 ?_
    refine z_iload_n C 2 dX0_insertByHour_47 rfl ?_
    refine z_iload_n C 1 dX0_insertByHour_48 rfl ?_
    obtain ⟨hb3, h⟩ := wpO_ck.mp h
    refine z_iastore C ar_106 (sg_106 T) hx3 hb3 hx1 dX0_insertByHour_49 ?_
    have h := wpO_some.mp h
    exact z_return T C dX0_insertByHour_50 eN1 h
  have J2 : ∀ (x1 : Int) (x2 : Int) (x3 : Int) (σ1 : St), inr x1 → inr x2 → inr x3 → σ1.2.2.2 = σ.2.2.2 → wpO (fX0_insertByHour_j2 x1 x2 x3 σ1) (fun q => X q.1 q.2) → Z κ (0, 0) (Qm κ ad σ enV okV X) 2 [(0, vo ad 0 (some 0)), (1, vi x1), (2, vi x2), (3, vi x3)] [] ad σ1 := by
    intro x1 x2 x3 σ1 hx1 hx2 hx3 eN1 h
    unfold fX0_insertByHour_j2 at h
    have step : ∀ (P2 : (Int × St) → Prop) (Q2 : (Int × St) → Prop), (∀ (x3 : Int) (σ1 : St), P2 ((x3, σ1)) → inr x3 → σ1.2.2.2 = σ.2.2.2 → Z κ (0, 0) (Qm κ ad σ enV okV X) 2 [(0, vo ad 0 (some 0)), (1, vi x1), (2, vi x2), (3, vi x3)] [] ad σ1) → (∀ (x3 : Int) (σ1 : St), Q2 ((x3, σ1)) → inr x3 → σ1.2.2.2 = σ.2.2.2 → Z κ (0, 0) (Qm κ ad σ enV okV X) 43 [(0, vo ad 0 (some 0)), (1, vi x1), (3, vi x3)] [] ad σ1) → ∀ (x3 : Int) (σ1 : St), inr x3 → σ1.2.2.2 = σ.2.2.2 → wpO (fX0_insertByHour_l2 x1 x2 x3 σ1) (onS P2 Q2) → Z κ (0, 0) (Qm κ ad σ enV okV X) 2 [(0, vo ad 0 (some 0)), (1, vi x1), (2, vi x2), (3, vi x3)] [] ad σ1 := by
      intro P2 Q2 hP2 hE2_43 x3 σ1 hx3 eN1 h
      unfold fX0_insertByHour_l2 at h
      refine z_rng (fun hI4 hJ5 => ?_)
      refine z_iload_n C 3 dX0_insertByHour_2 rfl ?_
      refine z_if_le C 43 hx3 dX0_insertByHour_3 (by decide) (fun q6 => ?_) (fun q6 => ?_)
      · have h := (wpO_ite.mp h).1 q6
        refine z_sub [0, 1, 3] rfl ?_
        have h := wpO_some.mp h
        exact hE2_43 x3 σ1 h hx3 eN1
      · have h := (wpO_ite.mp h).2 q6
        refine z_aload_n C 0 dX0_insertByHour_6 rfl ?_
        refine z_gA T C li_X0_21 (sg_0 T) dX0_insertByHour_7 ?_
        refine z_aload_n C 0 dX0_insertByHour_10 rfl ?_
        refine z_gA T C li_X0_27 (sg_0 T) dX0_insertByHour_11 ?_
        refine z_iload_n C 3 dX0_insertByHour_14 rfl ?_
        refine z_iconst C dX0_insertByHour_15 ?_
        obtain ⟨hk7, h⟩ := wpO_ck.mp h
        refine z_isub C dX0_insertByHour_16 ?_
        obtain ⟨hb8, h⟩ := wpO_ck.mp h
        refine z_iav (v := gI σ1 106 0 ((x3 - 1).toNat)) C ar_106 (sg_106 T) hk7 hb8 rfl dX0_insertByHour_17 ?_
        obtain ⟨hb9, h⟩ := wpO_ck.mp h
        refine z_iav (v := gI σ1 104 0 ((gI σ1 106 0 ((x3 - 1).toNat)).toNat)) C ar_104 (sg_104 T) (hI4 106 0 _) hb9 rfl dX0_insertByHour_18 ?_
        refine z_iload_n C 2 dX0_insertByHour_19 rfl ?_
        refine z_icmp_le C 43 (hI4 104 0 _) hx2 dX0_insertByHour_20 (by decide) (fun q10 => ?_) (fun q10 => ?_)
        · have h := (wpO_ite.mp h).1 q10
          refine z_sub [0, 1, 3] rfl ?_
          have h := wpO_some.mp h
          exact hE2_43 x3 σ1 h hx3 eN1
        · have h := (wpO_ite.mp h).2 q10
          refine z_aload_n C 0 dX0_insertByHour_23 rfl ?_
          refine z_gA T C li_X0_27 (sg_0 T) dX0_insertByHour_24 ?_
          refine z_iload_n C 3 dX0_insertByHour_27 rfl ?_
          refine z_aload_n C 0 dX0_insertByHour_28 rfl ?_
          refine z_gA T C li_X0_27 (sg_0 T) dX0_insertByHour_29 ?_
          refine z_iload_n C 3 dX0_insertByHour_32 rfl ?_
          refine z_iconst C dX0_insertByHour_33 ?_
          obtain ⟨hk11, h⟩ := wpO_ck.mp h
          refine z_isub C dX0_insertByHour_34 ?_
          obtain ⟨hb12, h⟩ := wpO_ck.mp h
          refine z_iav (v := gI σ1 106 0 ((x3 - 1).toNat)) C ar_106 (sg_106 T) hk11 hb12 rfl dX0_insertByHour_35 ?_
          obtain ⟨hb13, h⟩ := wpO_ck.mp h
          refine z_iastore C ar_106 (sg_106 T) hx3 hb13 (hI4 106 0 _) dX0_insertByHour_36 ?_
          obtain ⟨hk14, h⟩ := wpO_ck.mp h
          refine z_iinc (lv2 := [(3, vi (x3 + (-1))), (0, vo ad 0 (some 0)), (1, vi x1), (2, vi x2)]) C 3 dX0_insertByHour_37 rfl (by decide) rfl ?_
          refine z_goto C 2 dX0_insertByHour_40 (by decide) ?_
          refine z_sub [1, 2, 3, 0] rfl ?_
          have h := wpO_some.mp h
          exact hP2 (x3 + (-1)) (sI σ1 106 0 x3.toNat (gI σ1 106 0 ((x3 - 1).toNat))) h hk14 eN1
    exact wh_ind (P := fun s : (Int × St) => inr s.1 → s.2.2.2.2 = σ.2.2.2 → Z κ (0, 0) (Qm κ ad σ enV okV X) 2 [(0, vo ad 0 (some 0)), (1, vi x1), (2, vi x2), (3, vi s.1)] [] ad s.2) (fun s hs g0 g1 => step _ _ (fun _ _ hp => hp) (fun x3 σ1 hq hx3 eN1 => J43 x1 x3 σ1 hx1 hx3 eN1 hq) s.1 s.2 g0 g1 hs) ((x3, σ1)) (wpO_bnk.mp h) hx3 eN1
  show Z κ (0, 0) (Qm κ ad σ enV okV X) 0 [(0, vo ad 0 (some 0)), (1, vi x1), (2, vi x2)] [] ad σ
  refine z_rng (fun hI15 hJ16 => ?_)
  refine z_iload_n C 1 dX0_insertByHour_0 rfl ?_
  refine z_istore_n (lv2 := [(3, vi x1), (0, vo ad 0 (some 0)), (1, vi x1), (2, vi x2)]) C dX0_insertByHour_1 (by decide) rfl ?_
  refine z_sub [1, 2, 3, 0] rfl ?_
  exact J2 x1 x2 x1 σ hx1 hx2 hx1 rfl h
noncomputable def fX0_announce (x1 : Int) (x2 : Int) (x3 : Int) (σ : St) : Option (Int × St) :=
  if gI σ 102 0 0 < 8 then (ck (0 ≤ gI σ 102 0 0 ∧ gI σ 102 0 0 < 8) (ck (0 ≤ gI σ 102 0 0 ∧ gI σ 102 0 0 < 8) (ck (0 ≤ gI σ 102 0 0 ∧ gI σ 102 0 0 < 8) (bnd (fX0_insertByHour (gI σ 102 0 0) x2 (sI (sI (sI σ 103 0 ((gI σ 102 0 0).toNat) x1) 104 0 ((gI σ 102 0 0).toNat) x2) 105 0 ((gI σ 102 0 0).toNat) x3)) (fun _ σ9 => ck (inr ((gI σ9 102 0 0) + 1)) (ck (inr (((gI σ9 102 0 0) + 1) - 1)) (some (((gI σ9 102 0 0) + 1) - 1, sI σ9 102 0 0 ((gI σ9 102 0 0) + 1))))))))) else (some ((-4), σ))
set_option maxRecDepth 20000 in
set_option maxHeartbeats 4000000 in
theorem ct_X0_announce (x1 : Int) (x2 : Int) (x3 : Int) (hx1 : inr x1) (hx2 : inr x2) (hx3 : inr x3) : Ct yX0_announce cX0_announce 4 (some .int) 1 (fun ad => [vo ad 0 (some 0), vi x1, vi x2, vi x3]) (fX0_announce x1 x2 x3) enI okI (fun _ => True) := by
  refine Ct.of (by decide) (fun ad => Nat.le_of_ble_eq_true rfl) ?_
  intro κ ad σ X C T hpre h
  have C : Cx κ RX0 cX0_announce 4 (some .int) 1 := C
  unfold fX0_announce at h
  show Z κ (0, 0) (Qm κ ad σ enI okI X) 0 [(0, vo ad 0 (some 0)), (1, vi x1), (2, vi x2), (3, vi x3)] [] ad σ
  refine z_rng (fun hI1 hJ2 => ?_)
  refine z_aload_n C 0 dX0_announce_0 rfl ?_
  refine z_gIv (v := gI σ 102 0 0) C li_X0_40 (sg_0 T) rfl dX0_announce_1 ?_
  refine z_bipush C dX0_announce_4 (by decide) ?_
  refine z_icmp_lt C 12 (hI1 102 0 _) (by decide) dX0_announce_6 (by decide) (fun q3 => ?_) (fun q3 => ?_)
  · have h := (wpO_ite.mp h).1 q3
    refine z_aload_n C 0 dX0_announce_12 rfl ?_
    refine z_gA T C li_X0_18 (sg_0 T) dX0_announce_13 ?_
    refine z_aload_n C 0 dX0_announce_16 rfl ?_
    refine z_gIv (v := gI σ 102 0 0) C li_X0_40 (sg_0 T) rfl dX0_announce_17 ?_
    refine z_iload_n C 1 dX0_announce_20 rfl ?_
    obtain ⟨hb4, h⟩ := wpO_ck.mp h
    refine z_iastore C ar_103 (sg_103 T) (hI1 102 0 _) hb4 hx1 dX0_announce_21 ?_
    refine z_aload_n C 0 dX0_announce_22 rfl ?_
    refine z_gA T C li_X0_21 (sg_0 T) dX0_announce_23 ?_
    refine z_aload_n C 0 dX0_announce_26 rfl ?_
    refine z_gIv (v := gI σ 102 0 0) C li_X0_40 (sg_0 T) (gn (by decide) rfl) dX0_announce_27 ?_
    refine z_iload_n C 2 dX0_announce_30 rfl ?_
    obtain ⟨hb5, h⟩ := wpO_ck.mp h
    refine z_iastore C ar_104 (sg_104 T) (hI1 102 0 _) hb5 hx2 dX0_announce_31 ?_
    refine z_aload_n C 0 dX0_announce_32 rfl ?_
    refine z_gA T C li_X0_24 (sg_0 T) dX0_announce_33 ?_
    refine z_aload_n C 0 dX0_announce_36 rfl ?_
    refine z_gIv (v := gI σ 102 0 0) C li_X0_40 (sg_0 T) (gn (by decide) (gn (by decide) rfl)) dX0_announce_37 ?_
    refine z_iload_n C 3 dX0_announce_40 rfl ?_
    obtain ⟨hb6, h⟩ := wpO_ck.mp h
    refine z_iastore C ar_105 (sg_105 T) (hI1 102 0 _) hb6 hx3 dX0_announce_41 ?_
    refine z_aload_n C 0 dX0_announce_42 rfl ?_
    refine z_aload_n C 0 dX0_announce_43 rfl ?_
    refine z_gIv (v := gI σ 102 0 0) C li_X0_40 (sg_0 T) (gn (by decide) (gn (by decide) (gn (by decide) rfl))) dX0_announce_44 ?_
    refine z_iload_n C 2 dX0_announce_47 rfl ?_
    refine z_cV (st := []) T C (ct_X0_insertByHour (gI σ 102 0 0) x2 (hI1 102 0 _) hx2) lm_X0_44 lv_vX0_insertByHour dX0_announce_48 [vi (gI σ 102 0 0), vi x2] rfl rfl rfl rfl rfl (sg_0 T) trivial (by decide) (Nat.le_of_ble_eq_true rfl) csOK_0 h (fun r7 σ9 hr8 eN10 h => ?_)
    show Z κ (0, 0) _ 51 _ [] ad σ9
    refine z_rng (fun hI11 hJ12 => ?_)
    refine z_aload_n C 0 dX0_announce_51 rfl ?_
    refine z_dup C dX0_announce_52 rfl ?_
    refine z_gIv (v := gI σ9 102 0 0) C li_X0_40 (sg_0 T) rfl dX0_announce_53 ?_
    refine z_iconst C dX0_announce_56 ?_
    obtain ⟨hk13, h⟩ := wpO_ck.mp h
    refine z_iadd C dX0_announce_57 ?_
    refine z_pI C lq_X0_40 (sg_0 T) hk13 dX0_announce_58 ?_
    refine z_aload_n C 0 dX0_announce_61 rfl ?_
    refine z_gIv (v := (gI σ9 102 0 0) + 1) C li_X0_40 (sg_0 T) gs dX0_announce_62 ?_
    refine z_iconst C dX0_announce_65 ?_
    obtain ⟨hk14, h⟩ := wpO_ck.mp h
    refine z_isub C dX0_announce_66 ?_
    have h := wpO_some.mp h
    exact z_ireturn T C dX0_announce_67 hk14 eN10 h
  · have h := (wpO_ite.mp h).2 q3
    refine z_bipush C dX0_announce_9 (by decide) ?_
    have h := wpO_some.mp h
    exact z_ireturn T C dX0_announce_11 (by decide) rfl h
noncomputable def fX0_offer_j59 (x2 : Int) (x3 : Int) (σ1 : St) : Option (Unit × St) :=
  if x2 ≤ gI σ1 110 0 0 then (if x2 = gI σ1 110 0 0 then (some ((), sI (sI σ1 111 0 0 (iand (gI σ1 111 0 0) x3)) 112 0 0 (ior (gI σ1 112 0 0) x3))) else (some ((), σ1))) else (some ((), sI (sI (sI σ1 110 0 0 x2) 111 0 0 x3) 112 0 0 x3))
noncomputable def fX0_offer_j53 (x1 : Int) (x2 : Int) (x3 : Int) (x4 : Int) (σ1 : St) : Option ((Int × Int × Int) ⊕ (Int × Int)) :=
  ck (inr (x4 + 1)) (some (.inl ((x2, x3, x4 + 1))))
noncomputable def fX0_offer_l7 (x1 : Int) (σ1 : St) (x2 : Int) (x3 : Int) (x4 : Int) : Option ((Int × Int × Int) ⊕ (Int × Int)) :=
  if gI σ1 102 0 0 ≤ x4 then (some (.inr ((x2, x3)))) else (bnk (fX11_hasMember x1 x4) (fun r11 => if r11 = 0 then (fX0_offer_j53 x1 x2 x3 x4 σ1) else (ck (0 ≤ x4 ∧ x4 < 8) (ck (0 ≤ gI σ1 106 0 x4.toNat ∧ gI σ1 106 0 x4.toNat < 8) (ck (inr (x2 + (gI σ1 105 0 ((gI σ1 106 0 x4.toNat).toNat)))) (ck (0 ≤ x4 ∧ x4 < 8) (bnk (fX11_withMember x3 (gI σ1 106 0 x4.toNat) 1) (fun r18 => fX0_offer_j53 x1 (x2 + (gI σ1 105 0 ((gI σ1 106 0 x4.toNat).toNat))) r18 x4 σ1))))))))
noncomputable def fX0_offer_j7 (x1 : Int) (x2 : Int) (x3 : Int) (x4 : Int) (σ1 : St) : Option (Unit × St) :=
  bnk (wh (fun s => fX0_offer_l7 x1 σ1 s.1 s.2.1 s.2.2) ((x2, x3, x4))) (fun e => fX0_offer_j59 e.1 e.2 σ1)
noncomputable def fX0_offer (x1 : Int) (σ : St) : Option (Unit × St) :=
  fX0_offer_j7 x1 0 0 0 σ
set_option maxRecDepth 20000 in
set_option maxHeartbeats 4000000 in
theorem ct_X0_offer (x1 : Int) (hx1 : inr x1) : Ct yX0_offer cX0_offer 5 none 1 (fun ad => [vo ad 0 (some 0), vi x1]) (fX0_offer x1) enV okV (fun _ => True) := by
  refine Ct.of (by decide) (fun ad => Nat.le_of_ble_eq_true rfl) ?_
  intro κ ad σ X C T hpre h
  have C : Cx κ RX0 cX0_offer 5 none 1 := C
  unfold fX0_offer at h
  have J59 : ∀ (x2 : Int) (x3 : Int) (σ1 : St), inr x2 → inr x3 → σ1.2.2.2 = σ.2.2.2 → wpO (fX0_offer_j59 x2 x3 σ1) (fun q => X q.1 q.2) → Z κ (0, 0) (Qm κ ad σ enV okV X) 59 [(0, vo ad 0 (some 0)), (2, vi x2), (3, vi x3)] [] ad σ1 := by
    intro x2 x3 σ1 hx2 hx3 eN1 h
    unfold fX0_offer_j59 at h
    refine z_rng (fun hI1 hJ2 => ?_)
    refine z_iload_n C 1 dX0_offer_59 rfl ?_
    refine z_aload_n C 0 dX0_offer_60 rfl ?_
    refine z_gIv (v := gI σ1 110 0 0) C li_X0_88 (sg_0 T) rfl dX0_offer_61 ?_
    refine z_icmp_le C 85 hx2 (hI1 110 0 _) dX0_offer_64 (by decide) (fun q3 => ?_) (fun q3 => ?_)
    · have h := (wpO_ite.mp h).1 q3
      refine z_iload_n C 1 dX0_offer_85 rfl ?_
      refine z_aload_n C 0 dX0_offer_86 rfl ?_
      refine z_gIv (v := gI σ1 110 0 0) C li_X0_88 (sg_0 T) rfl dX0_offer_87 ?_
      refine z_icmp_ne C 113 hx2 (hI1 110 0 _) dX0_offer_90 (by decide) (fun q4 => ?_) (fun q4 => ?_)
      · have h := (wpO_ite.mp h).2 q4
        have h := wpO_some.mp h
        exact z_return T C dX0_offer_113 eN1 h
      · have h := (wpO_ite.mp h).1 q4
        refine z_aload_n C 0 dX0_offer_93 rfl ?_
        refine z_dup C dX0_offer_94 rfl ?_
        refine z_gIv (v := gI σ1 111 0 0) C li_X0_91 (sg_0 T) rfl dX0_offer_95 ?_
        refine z_iload_n C 2 dX0_offer_98 rfl ?_
        refine z_iand C dX0_offer_99 ?_
        refine z_pI C lq_X0_91 (sg_0 T) (inr_iand _ _) dX0_offer_100 ?_
        refine z_aload_n C 0 dX0_offer_103 rfl ?_
        refine z_dup C dX0_offer_104 rfl ?_
        refine z_gIv (v := gI σ1 112 0 0) C li_X0_94 (sg_0 T) (gn (by decide) rfl) dX0_offer_105 ?_
        refine z_iload_n C 2 dX0_offer_108 rfl ?_
        refine z_ior C dX0_offer_109 ?_
        refine z_pI C lq_X0_94 (sg_0 T) (inr_ior _ _) dX0_offer_110 ?_
        have h := wpO_some.mp h
        exact z_return T C dX0_offer_113 eN1 h
    · have h := (wpO_ite.mp h).2 q3
      refine z_aload_n C 0 dX0_offer_67 rfl ?_
      refine z_iload_n C 1 dX0_offer_68 rfl ?_
      refine z_pI C lq_X0_88 (sg_0 T) hx2 dX0_offer_69 ?_
      refine z_aload_n C 0 dX0_offer_72 rfl ?_
      refine z_iload_n C 2 dX0_offer_73 rfl ?_
      refine z_pI C lq_X0_91 (sg_0 T) hx3 dX0_offer_74 ?_
      refine z_aload_n C 0 dX0_offer_77 rfl ?_
      refine z_iload_n C 2 dX0_offer_78 rfl ?_
      refine z_pI C lq_X0_94 (sg_0 T) hx3 dX0_offer_79 ?_
      refine z_goto C 113 dX0_offer_82 (by decide) ?_
      have h := wpO_some.mp h
      exact z_return T C dX0_offer_113 eN1 h
  have J7 : ∀ (x1 : Int) (x2 : Int) (x3 : Int) (x4 : Int) (σ1 : St), inr x1 → inr x2 → inr x3 → inr x4 → σ1.2.2.2 = σ.2.2.2 → wpO (fX0_offer_j7 x1 x2 x3 x4 σ1) (fun q => X q.1 q.2) → Z κ (0, 0) (Qm κ ad σ enV okV X) 7 [(0, vo ad 0 (some 0)), (1, vi x1), (2, vi x2), (3, vi x3), (4, vi x4)] [] ad σ1 := by
    intro x1 x2 x3 x4 σ1 hx1 hx2 hx3 hx4 eN1 h
    unfold fX0_offer_j7 at h
    have step : ∀ (P7 : (Int × Int × Int) → Prop) (Q7 : (Int × Int) → Prop), (∀ (x2 : Int) (x3 : Int) (x4 : Int), P7 ((x2, x3, x4)) → inr x2 → inr x3 → inr x4 → Z κ (0, 0) (Qm κ ad σ enV okV X) 7 [(0, vo ad 0 (some 0)), (1, vi x1), (2, vi x2), (3, vi x3), (4, vi x4)] [] ad σ1) → (∀ (x2 : Int) (x3 : Int), Q7 ((x2, x3)) → inr x2 → inr x3 → Z κ (0, 0) (Qm κ ad σ enV okV X) 59 [(0, vo ad 0 (some 0)), (2, vi x2), (3, vi x3)] [] ad σ1) → ∀ (x2 : Int) (x3 : Int) (x4 : Int), inr x2 → inr x3 → inr x4 → wpO (fX0_offer_l7 x1 σ1 x2 x3 x4) (onS P7 Q7) → Z κ (0, 0) (Qm κ ad σ enV okV X) 7 [(0, vo ad 0 (some 0)), (1, vi x1), (2, vi x2), (3, vi x3), (4, vi x4)] [] ad σ1 := by
      intro P7 Q7 hP7 hE7_59 x2 x3 x4 hx2 hx3 hx4 h
      unfold fX0_offer_l7 at h
      have J53 : ∀ (x2 : Int) (x3 : Int) (x4 : Int), inr x2 → inr x3 → inr x4 → wpO (fX0_offer_j53 x1 x2 x3 x4 σ1) (onS P7 Q7) → Z κ (0, 0) (Qm κ ad σ enV okV X) 53 [(0, vo ad 0 (some 0)), (1, vi x1), (2, vi x2), (3, vi x3), (4, vi x4)] [] ad σ1 := by
        intro x2 x3 x4 hx2 hx3 hx4 h
        unfold fX0_offer_j53 at h
        refine z_rng (fun hI5 hJ6 => ?_)
        obtain ⟨hk7, h⟩ := wpO_ck.mp h
        refine z_iinc (lv2 := [(4, vi (x4 + 1)), (0, vo ad 0 (some 0)), (1, vi x1), (2, vi x2), (3, vi x3)]) C 4 dX0_offer_53 rfl (by decide) rfl ?_
        refine z_goto C 7 dX0_offer_56 (by decide) ?_
        refine z_sub [1, 2, 3, 4, 0] rfl ?_
        have h := wpO_some.mp h
        exact hP7 x2 x3 (x4 + 1) h hx2 hx3 hk7
      refine z_rng (fun hI8 hJ9 => ?_)
      refine z_iload C 4 dX0_offer_7 rfl ?_
      refine z_aload_n C 0 dX0_offer_9 rfl ?_
      refine z_gIv (v := gI σ1 102 0 0) C li_X0_40 (sg_0 T) rfl dX0_offer_10 ?_
      refine z_icmp_ge C 59 hx4 (hI8 102 0 _) dX0_offer_13 (by decide) (fun q10 => ?_) (fun q10 => ?_)
      · have h := (wpO_ite.mp h).1 q10
        refine z_sub [0, 2, 3] rfl ?_
        have h := wpO_some.mp h
        exact hE7_59 x2 x3 h hx2 hx3
      · have h := (wpO_ite.mp h).2 q10
        refine z_iload_n C 1 dX0_offer_16 rfl ?_
        refine z_iload C 4 dX0_offer_17 rfl ?_
        refine z_cSp (st := []) T C (ct_X11_hasMember x1 x4 hx1 hx4) lm_X0_80 ls_X11_hasMember dX0_offer_19 rfl rfl trivial (by decide) (Nat.le_of_ble_eq_true rfl) csOK_0 h (fun r11 hr12 h => ?_)
        show Z κ (0, 0) _ 22 _ [vi r11] ad σ1
        refine z_if_eq C 53 (inr_b hr12) dX0_offer_22 (by decide) (fun q13 => ?_) (fun q13 => ?_)
        · have h := (wpO_ite.mp h).1 q13
          exact J53 x2 x3 x4 hx2 hx3 hx4 h
        · have h := (wpO_ite.mp h).2 q13
          refine z_iload_n C 2 dX0_offer_25 rfl ?_
          refine z_aload_n C 0 dX0_offer_26 rfl ?_
          refine z_gA T C li_X0_24 (sg_0 T) dX0_offer_27 ?_
          refine z_aload_n C 0 dX0_offer_30 rfl ?_
          refine z_gA T C li_X0_27 (sg_0 T) dX0_offer_31 ?_
          refine z_iload C 4 dX0_offer_34 rfl ?_
          obtain ⟨hb14, h⟩ := wpO_ck.mp h
          refine z_iav (v := gI σ1 106 0 x4.toNat) C ar_106 (sg_106 T) hx4 hb14 rfl dX0_offer_36 ?_
          obtain ⟨hb15, h⟩ := wpO_ck.mp h
          refine z_iav (v := gI σ1 105 0 ((gI σ1 106 0 x4.toNat).toNat)) C ar_105 (sg_105 T) (hI8 106 0 _) hb15 rfl dX0_offer_37 ?_
          obtain ⟨hk16, h⟩ := wpO_ck.mp h
          refine z_iadd C dX0_offer_38 ?_
          refine z_istore_n (lv2 := [(2, vi (x2 + (gI σ1 105 0 ((gI σ1 106 0 x4.toNat).toNat)))), (0, vo ad 0 (some 0)), (1, vi x1), (3, vi x3), (4, vi x4)]) C dX0_offer_39 (by decide) rfl ?_
          refine z_iload_n C 3 dX0_offer_40 rfl ?_
          refine z_aload_n C 1 dX0_offer_41 rfl ?_
          refine z_gA T C li_X0_27 (sg_0 T) dX0_offer_42 ?_
          refine z_iload C 4 dX0_offer_45 rfl ?_
          obtain ⟨hb17, h⟩ := wpO_ck.mp h
          refine z_iav (v := gI σ1 106 0 x4.toNat) C ar_106 (sg_106 T) hx4 hb17 rfl dX0_offer_47 ?_
          refine z_iconst C dX0_offer_48 ?_
          refine z_cSp (st := []) T C (ct_X11_withMember x3 (gI σ1 106 0 x4.toNat) 1 hx3 (hI8 106 0 _) (by decide)) lm_X0_69 ls_X11_withMember dX0_offer_49 rfl rfl trivial (by decide) (Nat.le_of_ble_eq_true rfl) csOK_0 h (fun r18 hr19 h => ?_)
          show Z κ (0, 0) _ 52 _ [vi r18] ad σ1
          refine z_istore_n (lv2 := [(3, vi r18), (2, vi (x2 + (gI σ1 105 0 ((gI σ1 106 0 x4.toNat).toNat)))), (0, vo ad 0 (some 0)), (1, vi x1), (4, vi x4)]) C dX0_offer_52 (by decide) rfl ?_
          refine z_sub [2, 3, 1, 0, 4] rfl ?_
          exact J53 (x2 + (gI σ1 105 0 ((gI σ1 106 0 x4.toNat).toNat))) r18 x4 hk16 hr19 hx4 h
    exact wh_ind (P := fun s : (Int × Int × Int) => inr s.1 → inr s.2.1 → inr s.2.2 → Z κ (0, 0) (Qm κ ad σ enV okV X) 7 [(0, vo ad 0 (some 0)), (1, vi x1), (2, vi s.1), (3, vi s.2.1), (4, vi s.2.2)] [] ad σ1) (fun s hs g0 g1 g2 => step _ _ (fun _ _ _ hp => hp) (fun x2 x3 hq hx2 hx3 => J59 x2 x3 σ1 hx2 hx3 eN1 hq) s.1 s.2.1 s.2.2 g0 g1 g2 hs) ((x2, x3, x4)) (wpO_bnk.mp h) hx2 hx3 hx4
  show Z κ (0, 0) (Qm κ ad σ enV okV X) 0 [(0, vo ad 0 (some 0)), (1, vi x1)] [] ad σ
  refine z_rng (fun hI20 hJ21 => ?_)
  refine z_iconst C dX0_offer_0 ?_
  refine z_istore_n (lv2 := [(2, vi 0), (0, vo ad 0 (some 0)), (1, vi x1)]) C dX0_offer_1 (by decide) rfl ?_
  refine z_iconst C dX0_offer_2 ?_
  refine z_istore_n (lv2 := [(3, vi 0), (2, vi 0), (0, vo ad 0 (some 0)), (1, vi x1)]) C dX0_offer_3 (by decide) rfl ?_
  refine z_iconst C dX0_offer_4 ?_
  refine z_istore (lv2 := [(4, vi 0), (3, vi 0), (2, vi 0), (0, vo ad 0 (some 0)), (1, vi x1)]) C dX0_offer_5 (by decide) rfl ?_
  refine z_sub [3, 4, 2, 1, 0] rfl ?_
  exact J7 x1 0 0 0 σ hx1 (by decide) (by decide) (by decide) rfl h
noncomputable def fX0_chooseBest_j47 (σ1 : St) : Option (Unit × St) :=
  some ((), σ1)
noncomputable def fX0_chooseBest_j41 (x1 : Int) (σ1 : St) : Option ((Int × St) ⊕ St) :=
  ck (inr (x1 + 1)) (some (.inl ((x1 + 1, σ1))))
noncomputable def fX0_chooseBest_l17 (x1 : Int) (σ1 : St) : Option ((Int × St) ⊕ St) :=
  if ishl 1 (gI σ1 102 0 0) ≤ x1 then (some (.inr σ1)) else (ck (0 ≤ x1 ∧ x1 < 256) (if gI σ1 109 0 x1.toNat = 0 then (fX0_chooseBest_j41 x1 σ1) else (bnd (fX0_offer x1 σ1) (fun _ σ13 => fX0_chooseBest_j41 x1 σ13))))
noncomputable def fX0_chooseBest_j17 (x1 : Int) (σ1 : St) : Option (Unit × St) :=
  bnk (wh (fun s => fX0_chooseBest_l17 s.1 s.2) ((x1, σ1))) (fun e => fX0_chooseBest_j47 e)
noncomputable def fX0_chooseBest (σ : St) : Option (Unit × St) :=
  fX0_chooseBest_j17 1 (sI (sI (sI σ 110 0 0 0) 111 0 0 0) 112 0 0 0)
set_option maxRecDepth 20000 in
set_option maxHeartbeats 4000000 in
theorem ct_X0_chooseBest  : Ct yX0_chooseBest cX0_chooseBest 2 none 2 (fun ad => [vo ad 0 (some 0)]) fX0_chooseBest enV okV (fun _ => True) := by
  refine Ct.of (by decide) (fun ad => Nat.le_of_ble_eq_true rfl) ?_
  intro κ ad σ X C T hpre h
  have C : Cx κ RX0 cX0_chooseBest 2 none 2 := C
  unfold fX0_chooseBest at h
  have J47 : ∀ (σ1 : St), σ1.2.2.2 = σ.2.2.2 → wpO (fX0_chooseBest_j47 σ1) (fun q => X q.1 q.2) → Z κ (0, 0) (Qm κ ad σ enV okV X) 47 [] [] ad σ1 := by
    intro σ1 eN1 h
    unfold fX0_chooseBest_j47 at h
    refine z_rng (fun hI1 hJ2 => ?_)
    have h := wpO_some.mp h
    exact z_return T C dX0_chooseBest_47 eN1 h
  have J17 : ∀ (x1 : Int) (σ1 : St), inr x1 → σ1.2.2.2 = σ.2.2.2 → wpO (fX0_chooseBest_j17 x1 σ1) (fun q => X q.1 q.2) → Z κ (0, 0) (Qm κ ad σ enV okV X) 17 [(0, vo ad 0 (some 0)), (1, vi x1)] [] ad σ1 := by
    intro x1 σ1 hx1 eN1 h
    unfold fX0_chooseBest_j17 at h
    have step : ∀ (P17 : (Int × St) → Prop) (Q17 : St → Prop), (∀ (x1 : Int) (σ1 : St), P17 ((x1, σ1)) → inr x1 → σ1.2.2.2 = σ.2.2.2 → Z κ (0, 0) (Qm κ ad σ enV okV X) 17 [(0, vo ad 0 (some 0)), (1, vi x1)] [] ad σ1) → (∀ (σ1 : St), Q17 (σ1) → σ1.2.2.2 = σ.2.2.2 → Z κ (0, 0) (Qm κ ad σ enV okV X) 47 [] [] ad σ1) → ∀ (x1 : Int) (σ1 : St), inr x1 → σ1.2.2.2 = σ.2.2.2 → wpO (fX0_chooseBest_l17 x1 σ1) (onS P17 Q17) → Z κ (0, 0) (Qm κ ad σ enV okV X) 17 [(0, vo ad 0 (some 0)), (1, vi x1)] [] ad σ1 := by
      intro P17 Q17 hP17 hE17_47 x1 σ1 hx1 eN1 h
      unfold fX0_chooseBest_l17 at h
      have J41 : ∀ (x1 : Int) (σ1 : St), inr x1 → σ1.2.2.2 = σ.2.2.2 → wpO (fX0_chooseBest_j41 x1 σ1) (onS P17 Q17) → Z κ (0, 0) (Qm κ ad σ enV okV X) 41 [(0, vo ad 0 (some 0)), (1, vi x1)] [] ad σ1 := by
        intro x1 σ1 hx1 eN1 h
        unfold fX0_chooseBest_j41 at h
        refine z_rng (fun hI3 hJ4 => ?_)
        obtain ⟨hk5, h⟩ := wpO_ck.mp h
        refine z_iinc (lv2 := [(1, vi (x1 + 1)), (0, vo ad 0 (some 0))]) C 1 dX0_chooseBest_41 rfl (by decide) rfl ?_
        refine z_goto C 17 dX0_chooseBest_44 (by decide) ?_
        refine z_sub [1, 0] rfl ?_
        have h := wpO_some.mp h
        exact hP17 (x1 + 1) σ1 h hk5 eN1
      refine z_rng (fun hI6 hJ7 => ?_)
      refine z_iload_n C 1 dX0_chooseBest_17 rfl ?_
      refine z_iconst C dX0_chooseBest_18 ?_
      refine z_aload_n C 0 dX0_chooseBest_19 rfl ?_
      refine z_gIv (v := gI σ1 102 0 0) C li_X0_40 (sg_0 T) rfl dX0_chooseBest_20 ?_
      refine z_ishl C dX0_chooseBest_23 ?_
      refine z_icmp_ge C 47 hx1 (inr_ishl _ _) dX0_chooseBest_24 (by decide) (fun q8 => ?_) (fun q8 => ?_)
      · have h := (wpO_ite.mp h).1 q8
        refine z_sub [] rfl ?_
        have h := wpO_some.mp h
        exact hE17_47 σ1 h eN1
      · have h := (wpO_ite.mp h).2 q8
        refine z_aload_n C 0 dX0_chooseBest_27 rfl ?_
        refine z_gA T C li_X0_37 (sg_0 T) dX0_chooseBest_28 ?_
        refine z_iload_n C 1 dX0_chooseBest_31 rfl ?_
        obtain ⟨hb9, h⟩ := wpO_ck.mp h
        refine z_bav (v := gI σ1 109 0 x1.toNat) C ar_109 (sg_109 T) hx1 hb9 rfl dX0_chooseBest_32 ?_
        refine z_if_eq C 41 (hI6 109 0 _) dX0_chooseBest_33 (by decide) (fun q10 => ?_) (fun q10 => ?_)
        · have h := (wpO_ite.mp h).1 q10
          exact J41 x1 σ1 hx1 eN1 h
        · have h := (wpO_ite.mp h).2 q10
          refine z_aload_n C 0 dX0_chooseBest_36 rfl ?_
          refine z_iload_n C 1 dX0_chooseBest_37 rfl ?_
          refine z_cV (st := []) T C (ct_X0_offer x1 hx1) lm_X0_97 lv_vX0_offer dX0_chooseBest_38 [vi x1] rfl rfl rfl rfl rfl (sg_0 T) trivial (by decide) (Nat.le_of_ble_eq_true rfl) csOK_0 h (fun r11 σ13 hr12 eN14 h => ?_)
          have eN15 := eN14.trans eN1
          show Z κ (0, 0) _ 41 _ [] ad σ13
          refine z_rng (fun hI16 hJ17 => ?_)
          exact J41 x1 σ13 hx1 eN15 h
    exact wh_ind (P := fun s : (Int × St) => inr s.1 → s.2.2.2.2 = σ.2.2.2 → Z κ (0, 0) (Qm κ ad σ enV okV X) 17 [(0, vo ad 0 (some 0)), (1, vi s.1)] [] ad s.2) (fun s hs g0 g1 => step _ _ (fun _ _ hp => hp) (fun σ1 hq eN1 => J47 σ1 eN1 hq) s.1 s.2 g0 g1 hs) ((x1, σ1)) (wpO_bnk.mp h) hx1 eN1
  show Z κ (0, 0) (Qm κ ad σ enV okV X) 0 [(0, vo ad 0 (some 0))] [] ad σ
  refine z_rng (fun hI18 hJ19 => ?_)
  refine z_aload_n C 0 dX0_chooseBest_0 rfl ?_
  refine z_iconst C dX0_chooseBest_1 ?_
  refine z_pI C lq_X0_88 (sg_0 T) (by decide) dX0_chooseBest_2 ?_
  refine z_aload_n C 0 dX0_chooseBest_5 rfl ?_
  refine z_iconst C dX0_chooseBest_6 ?_
  refine z_pI C lq_X0_91 (sg_0 T) (by decide) dX0_chooseBest_7 ?_
  refine z_aload_n C 0 dX0_chooseBest_10 rfl ?_
  refine z_iconst C dX0_chooseBest_11 ?_
  refine z_pI C lq_X0_94 (sg_0 T) (by decide) dX0_chooseBest_12 ?_
  refine z_iconst C dX0_chooseBest_15 ?_
  refine z_istore_n (lv2 := [(1, vi 1), (0, vo ad 0 (some 0))]) C dX0_chooseBest_16 (by decide) rfl ?_
  refine z_sub [1, 0] rfl ?_
  exact J17 1 (sI (sI (sI σ 110 0 0 0) 111 0 0 0) 112 0 0 0) (by decide) rfl h
noncomputable def fX10_leaves (x0 : Nat) (x1 : Int) (σ : St) : Option Int :=
  if x1 ≤ gI σ 1102 x0 0 then (some (gI σ 1102 x0 0)) else (if 1 ≤ gI σ 1103 x0 0 then (ck (inr (x1 - (gI σ 1102 x0 0))) (ck (inr ((x1 - (gI σ 1102 x0 0)) + (gI σ 1103 x0 0))) (ck (inr (((x1 - (gI σ 1102 x0 0)) + (gI σ 1103 x0 0)) - 1)) (ck (¬ gI σ 1103 x0 0 = 0) (ck (inr ((idiv (((x1 - (gI σ 1102 x0 0)) + (gI σ 1103 x0 0)) - 1) (gI σ 1103 x0 0)) * (gI σ 1103 x0 0))) (ck (inr ((gI σ 1102 x0 0) + ((idiv (((x1 - (gI σ 1102 x0 0)) + (gI σ 1103 x0 0)) - 1) (gI σ 1103 x0 0)) * (gI σ 1103 x0 0)))) (some ((gI σ 1102 x0 0) + ((idiv (((x1 - (gI σ 1102 x0 0)) + (gI σ 1103 x0 0)) - 1) (gI σ 1103 x0 0)) * (gI σ 1103 x0 0)))))))))) else (some (gI σ 1102 x0 0)))
set_option maxRecDepth 20000 in
set_option maxHeartbeats 4000000 in
theorem ct_X10_leaves (x0 : Nat) (x1 : Int) (hx1 : inr x1) : Ct yX10_leaves cX10_leaves 3 (some .int) 0 (fun ad => [vo ad 10 (some x0), vi x1]) (pu (fX10_leaves x0 x1)) enI okI (fun σ => x0 < gN σ 10) := by
  refine Ct.of (by decide) (fun ad => Nat.le_of_ble_eq_true rfl) ?_
  intro κ ad σ X C T hpre h
  have C : Cx κ RX10 cX10_leaves 3 (some .int) 0 := C
  have h := wpO_pu.mp h
  have hx0 : x0 < gN σ 10 := hpre
  unfold fX10_leaves at h
  show Z κ (0, 0) (Qm κ ad σ enI okI X) 0 [(0, vo ad 10 (some x0)), (1, vi x1)] [] ad σ
  refine z_rng (fun hI1 hJ2 => ?_)
  refine z_iload_n C 1 dX10_leaves_0 rfl ?_
  refine z_aload_n C 0 dX10_leaves_1 rfl ?_
  refine z_gIv (v := gI σ 1102 x0 0) C li_X10_18 (nN rfl hx0) rfl dX10_leaves_2 ?_
  refine z_icmp_le C 16 hx1 (hI1 1102 x0 _) dX10_leaves_5 (by decide) (fun q3 => ?_) (fun q3 => ?_)
  · have h := (wpO_ite.mp h).1 q3
    refine z_aload_n C 0 dX10_leaves_16 rfl ?_
    refine z_gIv (v := gI σ 1102 x0 0) C li_X10_18 (nN rfl hx0) rfl dX10_leaves_17 ?_
    have h := wpO_some.mp h
    exact z_ireturn T C dX10_leaves_20 (hI1 1102 x0 _) rfl h
  · have h := (wpO_ite.mp h).2 q3
    refine z_aload_n C 0 dX10_leaves_8 rfl ?_
    refine z_gIv (v := gI σ 1103 x0 0) C li_X10_21 (nN rfl hx0) rfl dX10_leaves_9 ?_
    refine z_iconst C dX10_leaves_12 ?_
    refine z_icmp_ge C 21 (hI1 1103 x0 _) (by decide) dX10_leaves_13 (by decide) (fun q4 => ?_) (fun q4 => ?_)
    · have h := (wpO_ite.mp h).1 q4
      refine z_iload_n C 1 dX10_leaves_21 rfl ?_
      refine z_aload_n C 0 dX10_leaves_22 rfl ?_
      refine z_gIv (v := gI σ 1102 x0 0) C li_X10_18 (nN rfl hx0) rfl dX10_leaves_23 ?_
      obtain ⟨hk5, h⟩ := wpO_ck.mp h
      refine z_isub C dX10_leaves_26 ?_
      refine z_aload_n C 0 dX10_leaves_27 rfl ?_
      refine z_gIv (v := gI σ 1103 x0 0) C li_X10_21 (nN rfl hx0) rfl dX10_leaves_28 ?_
      obtain ⟨hk6, h⟩ := wpO_ck.mp h
      refine z_iadd C dX10_leaves_31 ?_
      refine z_iconst C dX10_leaves_32 ?_
      obtain ⟨hk7, h⟩ := wpO_ck.mp h
      refine z_isub C dX10_leaves_33 ?_
      refine z_aload_n C 0 dX10_leaves_34 rfl ?_
      refine z_gIv (v := gI σ 1103 x0 0) C li_X10_21 (nN rfl hx0) rfl dX10_leaves_35 ?_
      obtain ⟨h08, h⟩ := wpO_ck.mp h
      refine z_idiv C (hI1 1103 x0 _) h08 dX10_leaves_38 ?_
      refine z_istore_n (lv2 := [(2, vi (idiv (((x1 - (gI σ 1102 x0 0)) + (gI σ 1103 x0 0)) - 1) (gI σ 1103 x0 0))), (0, vo ad 10 (some x0)), (1, vi x1)]) C dX10_leaves_39 (by decide) rfl ?_
      refine z_aload_n C 1 dX10_leaves_40 rfl ?_
      refine z_gIv (v := gI σ 1102 x0 0) C li_X10_18 (nN rfl hx0) rfl dX10_leaves_41 ?_
      refine z_iload_n C 0 dX10_leaves_44 rfl ?_
      refine z_aload_n C 1 dX10_leaves_45 rfl ?_
      refine z_gIv (v := gI σ 1103 x0 0) C li_X10_21 (nN rfl hx0) rfl dX10_leaves_46 ?_
      obtain ⟨hk9, h⟩ := wpO_ck.mp h
      refine z_imul C dX10_leaves_49 ?_
      obtain ⟨hk10, h⟩ := wpO_ck.mp h
      refine z_iadd C dX10_leaves_50 ?_
      have h := wpO_some.mp h
      exact z_ireturn T C dX10_leaves_51 hk10 rfl h
    · have h := (wpO_ite.mp h).2 q4
      refine z_aload_n C 0 dX10_leaves_16 rfl ?_
      refine z_gIv (v := gI σ 1102 x0 0) C li_X10_18 (nN rfl hx0) rfl dX10_leaves_17 ?_
      have h := wpO_some.mp h
      exact z_ireturn T C dX10_leaves_20 (hI1 1102 x0 _) rfl h
noncomputable def fX10_arrives (x0 : Nat) (x1 : Int) (x2 : Int) (σ : St) : Option Int :=
  if gI σ 1106 x0 0 = 0 then (if 9999 < x1 then (some 1000000) else (bnk (fX10_leaves x0 x1 σ) (fun r5 => if r5 ≤ 9999 then (bnk (fX10_leaves x0 x1 σ) (fun r8 => ck (inr (r8 + (gI σ 1104 x0 0))) (if x2 = 0 then (ck (inr ((r8 + (gI σ 1104 x0 0)) + 0)) (some ((r8 + (gI σ 1104 x0 0)) + 0))) else (ck (inr ((r8 + (gI σ 1104 x0 0)) + (gI σ 1105 x0 0))) (some ((r8 + (gI σ 1104 x0 0)) + (gI σ 1105 x0 0))))))) else (some 1000000)))) else (some 1000000)
set_option maxRecDepth 20000 in
set_option maxHeartbeats 4000000 in
theorem ct_X10_arrives (x0 : Nat) (x1 : Int) (x2 : Int) (hx1 : inr x1) (hx2 : x2 = 0 ∨ x2 = 1) : Ct yX10_arrives cX10_arrives 3 (some .int) 1 (fun ad => [vo ad 10 (some x0), vi x1, vi x2]) (pu (fX10_arrives x0 x1 x2)) enI okI (fun σ => x0 < gN σ 10) := by
  refine Ct.of (by decide) (fun ad => Nat.le_of_ble_eq_true rfl) ?_
  intro κ ad σ X C T hpre h
  have C : Cx κ RX10 cX10_arrives 3 (some .int) 1 := C
  have h := wpO_pu.mp h
  have hx0 : x0 < gN σ 10 := hpre
  unfold fX10_arrives at h
  show Z κ (0, 0) (Qm κ ad σ enI okI X) 0 [(0, vo ad 10 (some x0)), (1, vi x1), (2, vi x2)] [] ad σ
  refine z_rng (fun hI1 hJ2 => ?_)
  refine z_aload_n C 0 dX10_arrives_0 rfl ?_
  refine z_gIv (v := gI σ 1106 x0 0) C li_X10_30 (nN rfl hx0) rfl dX10_arrives_1 ?_
  refine z_if_ne C 25 (hI1 1106 x0 _) dX10_arrives_4 (by decide) (fun q3 => ?_) (fun q3 => ?_)
  · have h := (wpO_ite.mp h).2 q3
    refine z_ldc C lc_X10_38 dX10_arrives_25 ?_
    have h := wpO_some.mp h
    exact z_ireturn T C dX10_arrives_27 (by decide) rfl h
  · have h := (wpO_ite.mp h).1 q3
    refine z_iload_n C 1 dX10_arrives_7 rfl ?_
    refine z_sipush C dX10_arrives_8 (by decide) ?_
    refine z_icmp_gt C 25 hx1 (by decide) dX10_arrives_11 (by decide) (fun q4 => ?_) (fun q4 => ?_)
    · have h := (wpO_ite.mp h).1 q4
      refine z_ldc C lc_X10_38 dX10_arrives_25 ?_
      have h := wpO_some.mp h
      exact z_ireturn T C dX10_arrives_27 (by decide) rfl h
    · have h := (wpO_ite.mp h).2 q4
      refine z_aload_n C 0 dX10_arrives_14 rfl ?_
      refine z_iload_n C 1 dX10_arrives_15 rfl ?_
      refine z_cVp (st := []) T C (ct_X10_leaves x0 x1 hx1) lm_X10_34 lv_vX10_leaves dX10_arrives_16 [vi x1] rfl rfl rfl rfl rfl (nN rfl hx0) (nNl rfl hx0) (by decide) (Nat.le_of_ble_eq_true rfl) csOK_0 h (fun r5 hr6 h => ?_)
      show Z κ (0, 0) _ 19 _ [vi r5] ad σ
      refine z_sipush C dX10_arrives_19 (by decide) ?_
      refine z_icmp_le C 28 hr6 (by decide) dX10_arrives_22 (by decide) (fun q7 => ?_) (fun q7 => ?_)
      · have h := (wpO_ite.mp h).1 q7
        refine z_aload_n C 0 dX10_arrives_28 rfl ?_
        refine z_iload_n C 1 dX10_arrives_29 rfl ?_
        refine z_cVp (st := []) T C (ct_X10_leaves x0 x1 hx1) lm_X10_34 lv_vX10_leaves dX10_arrives_30 [vi x1] rfl rfl rfl rfl rfl (nN rfl hx0) (nNl rfl hx0) (by decide) (Nat.le_of_ble_eq_true rfl) csOK_0 h (fun r8 hr9 h => ?_)
        show Z κ (0, 0) _ 33 _ [vi r8] ad σ
        refine z_aload_n C 0 dX10_arrives_33 rfl ?_
        refine z_gIv (v := gI σ 1104 x0 0) C li_X10_24 (nN rfl hx0) rfl dX10_arrives_34 ?_
        obtain ⟨hk10, h⟩ := wpO_ck.mp h
        refine z_iadd C dX10_arrives_37 ?_
        refine z_iload_n C 2 dX10_arrives_38 rfl ?_
        refine z_if_eq C 49 (inr_b hx2) dX10_arrives_39 (by decide) (fun q11 => ?_) (fun q11 => ?_)
        · have h := (wpO_ite.mp h).1 q11
          refine z_iconst C dX10_arrives_49 ?_
          obtain ⟨hk12, h⟩ := wpO_ck.mp h
          refine z_iadd C dX10_arrives_50 ?_
          have h := wpO_some.mp h
          exact z_ireturn T C dX10_arrives_51 hk12 rfl h
        · have h := (wpO_ite.mp h).2 q11
          refine z_aload_n C 0 dX10_arrives_42 rfl ?_
          refine z_gIv (v := gI σ 1105 x0 0) C li_X10_27 (nN rfl hx0) rfl dX10_arrives_43 ?_
          refine z_goto C 50 dX10_arrives_46 (by decide) ?_
          obtain ⟨hk13, h⟩ := wpO_ck.mp h
          refine z_iadd C dX10_arrives_50 ?_
          have h := wpO_some.mp h
          exact z_ireturn T C dX10_arrives_51 hk13 rfl h
      · have h := (wpO_ite.mp h).2 q7
        refine z_ldc C lc_X10_38 dX10_arrives_25 ?_
        have h := wpO_some.mp h
        exact z_ireturn T C dX10_arrives_27 (by decide) rfl h
noncomputable def fX9_travel_j118 (σ1 : St) : Option (Unit × St) :=
  some ((), σ1)
noncomputable def fX9_travel_j112 (x3 : Int) (x4 : Int) (x5 : Int) (σ1 : St) : Option ((Int × Int × St) ⊕ St) :=
  ck (inr (x5 + 1)) (some (.inl ((x4, x5 + 1, σ1))))
noncomputable def fX9_travel_j106 (x3 : Int) (x4 : Int) (x5 : Int) (x6 : Int) (σ1 : St) : Option ((Int × Int × St) ⊕ (Int × St)) :=
  ck (inr (x6 + 1)) (some (.inl ((x4, x6 + 1, σ1))))
noncomputable def fX9_travel_l40 (x3 : Int) (x5 : Int) (x4 : Int) (x6 : Int) (σ1 : St) : Option ((Int × Int × St) ⊕ (Int × St)) :=
  if gI σ1 1001 0 0 ≤ x6 then (some (.inr ((x4, σ1)))) else (ck (0 ≤ x6 ∧ x6 < 24) (lt (gP σ1 1000 0 x6.toNat) (fun r13 => mop r13 (fun j15 => ck (j15 < gN σ1 10) (ck (0 ≤ gI σ1 1100 j15 0 ∧ gI σ1 1100 j15 0 < 8) (ck (x3 = 0 ∨ x3 = 1) (bnk (fX10_arrives j15 (gI σ1 1002 0 ((gI σ1 1100 j15 0).toNat)) x3 σ1) (fun r20 => ck (0 ≤ gI σ1 1101 j15 0 ∧ gI σ1 1101 j15 0 < 8) (if gI σ1 1002 0 ((gI σ1 1101 j15 0).toNat) ≤ r20 then (fX9_travel_j106 x3 x4 x5 x6 σ1) else (ck (0 ≤ gI σ1 1101 j15 0 ∧ gI σ1 1101 j15 0 < 8) (fX9_travel_j106 x3 1 x5 x6 (sI σ1 1002 0 ((gI σ1 1101 j15 0).toNat) r20))))))))) none)))
noncomputable def fX9_travel_j40 (x3 : Int) (x4 : Int) (x5 : Int) (x6 : Int) (σ1 : St) : Option ((Int × Int × St) ⊕ St) :=
  bnk (wh (fun s => fX9_travel_l40 x3 x5 s.1 s.2.1 s.2.2) ((x4, x6, σ1))) (fun e => fX9_travel_j112 x3 e.1 x5 e.2)
noncomputable def fX9_travel_l22 (x3 : Int) (x4 : Int) (x5 : Int) (σ1 : St) : Option ((Int × Int × St) ⊕ St) :=
  if 8 ≤ x5 then (some (.inr σ1)) else (if x4 = 0 then (some (.inr σ1)) else (fX9_travel_j40 x3 0 x5 0 σ1))
noncomputable def fX9_travel_j22 (x3 : Int) (x4 : Int) (x5 : Int) (σ1 : St) : Option (Unit × St) :=
  bnk (wh (fun s => fX9_travel_l22 x3 s.1 s.2.1 s.2.2) ((x4, x5, σ1))) (fun e => fX9_travel_j118 e)
noncomputable def fX9_travel (x1 : Int) (x2 : Int) (x3 : Int) (σ : St) : Option (Unit × St) :=
  bnd (fJ7_fill_53178 1002 8 1000000 σ) (fun _ σ33 => ck (0 ≤ x1 ∧ x1 < 8) (fX9_travel_j22 x3 1 0 (sI σ33 1002 0 x1.toNat x2)))
set_option maxRecDepth 20000 in
set_option maxHeartbeats 4000000 in
theorem ct_X9_travel (x1 : Int) (x2 : Int) (x3 : Int) (hx1 : inr x1) (hx2 : inr x2) (hx3 : x3 = 0 ∨ x3 = 1) : Ct yX9_travel cX9_travel 9 none 2 (fun ad => [vo ad 9 (some 0), vi x1, vi x2, vi x3]) (fX9_travel x1 x2 x3) enV okV (fun _ => True) := by
  refine Ct.of (by decide) (fun ad => Nat.le_of_ble_eq_true rfl) ?_
  intro κ ad σ X C T hpre h
  have C : Cx κ RX9 cX9_travel 9 none 2 := C
  unfold fX9_travel at h
  have J118 : ∀ (σ1 : St), σ1.2.2.2 = σ.2.2.2 → wpO (fX9_travel_j118 σ1) (fun q => X q.1 q.2) → Z κ (0, 0) (Qm κ ad σ enV okV X) 118 [] [] ad σ1 := by
    intro σ1 eN1 h
    unfold fX9_travel_j118 at h
    refine z_rng (fun hI1 hJ2 => ?_)
    have h := wpO_some.mp h
    exact z_return T C dX9_travel_118 eN1 h
  have J22 : ∀ (x3 : Int) (x4 : Int) (x5 : Int) (σ1 : St), inr x3 → inr x4 → inr x5 → σ1.2.2.2 = σ.2.2.2 → wpO (fX9_travel_j22 x3 x4 x5 σ1) (fun q => X q.1 q.2) → Z κ (0, 0) (Qm κ ad σ enV okV X) 22 [(0, vo ad 9 (some 0)), (3, vi x3), (4, vi x4), (5, vi x5)] [] ad σ1 := by
    intro x3 x4 x5 σ1 hx3 hx4 hx5 eN1 h
    unfold fX9_travel_j22 at h
    have step : ∀ (P22 : (Int × Int × St) → Prop) (Q22 : St → Prop), (∀ (x4 : Int) (x5 : Int) (σ1 : St), P22 ((x4, x5, σ1)) → inr x4 → inr x5 → σ1.2.2.2 = σ.2.2.2 → Z κ (0, 0) (Qm κ ad σ enV okV X) 22 [(0, vo ad 9 (some 0)), (3, vi x3), (4, vi x4), (5, vi x5)] [] ad σ1) → (∀ (σ1 : St), Q22 (σ1) → σ1.2.2.2 = σ.2.2.2 → Z κ (0, 0) (Qm κ ad σ enV okV X) 118 [] [] ad σ1) → ∀ (x4 : Int) (x5 : Int) (σ1 : St), inr x4 → inr x5 → σ1.2.2.2 = σ.2.2.2 → wpO (fX9_travel_l22 x3 x4 x5 σ1) (onS P22 Q22) → Z κ (0, 0) (Qm κ ad σ enV okV X) 22 [(0, vo ad 9 (some 0)), (3, vi x3), (4, vi x4), (5, vi x5)] [] ad σ1 := by
      intro P22 Q22 hP22 hE22_118 x4 x5 σ1 hx4 hx5 eN1 h
      unfold fX9_travel_l22 at h
      have J112 : ∀ (x4 : Int) (x5 : Int) (σ1 : St), inr x4 → inr x5 → σ1.2.2.2 = σ.2.2.2 → wpO (fX9_travel_j112 x3 x4 x5 σ1) (onS P22 Q22) → Z κ (0, 0) (Qm κ ad σ enV okV X) 112 [(0, vo ad 9 (some 0)), (3, vi x3), (4, vi x4), (5, vi x5)] [] ad σ1 := by
        intro x4 x5 σ1 hx4 hx5 eN1 h
        unfold fX9_travel_j112 at h
        refine z_rng (fun hI3 hJ4 => ?_)
        obtain ⟨hk5, h⟩ := wpO_ck.mp h
        refine z_iinc (lv2 := [(5, vi (x5 + 1)), (0, vo ad 9 (some 0)), (3, vi x3), (4, vi x4)]) C 3 dX9_travel_112 rfl (by decide) rfl ?_
        refine z_goto C 22 dX9_travel_115 (by decide) ?_
        refine z_sub [1, 2, 3, 0] rfl ?_
        have h := wpO_some.mp h
        exact hP22 x4 (x5 + 1) σ1 h hx4 hk5 eN1
      have J40 : ∀ (x4 : Int) (x5 : Int) (x6 : Int) (σ1 : St), inr x4 → inr x5 → inr x6 → σ1.2.2.2 = σ.2.2.2 → wpO (fX9_travel_j40 x3 x4 x5 x6 σ1) (onS P22 Q22) → Z κ (0, 0) (Qm κ ad σ enV okV X) 40 [(0, vo ad 9 (some 0)), (3, vi x3), (4, vi x4), (5, vi x5), (6, vi x6)] [] ad σ1 := by
        intro x4 x5 x6 σ1 hx4 hx5 hx6 eN1 h
        unfold fX9_travel_j40 at h
        have step : ∀ (P40 : (Int × Int × St) → Prop) (Q40 : (Int × St) → Prop), (∀ (x4 : Int) (x6 : Int) (σ1 : St), P40 ((x4, x6, σ1)) → inr x4 → inr x6 → σ1.2.2.2 = σ.2.2.2 → Z κ (0, 0) (Qm κ ad σ enV okV X) 40 [(0, vo ad 9 (some 0)), (3, vi x3), (4, vi x4), (5, vi x5), (6, vi x6)] [] ad σ1) → (∀ (x4 : Int) (σ1 : St), Q40 ((x4, σ1)) → inr x4 → σ1.2.2.2 = σ.2.2.2 → Z κ (0, 0) (Qm κ ad σ enV okV X) 112 [(0, vo ad 9 (some 0)), (3, vi x3), (4, vi x4), (5, vi x5)] [] ad σ1) → ∀ (x4 : Int) (x6 : Int) (σ1 : St), inr x4 → inr x6 → σ1.2.2.2 = σ.2.2.2 → wpO (fX9_travel_l40 x3 x5 x4 x6 σ1) (onS P40 Q40) → Z κ (0, 0) (Qm κ ad σ enV okV X) 40 [(0, vo ad 9 (some 0)), (3, vi x3), (4, vi x4), (5, vi x5), (6, vi x6)] [] ad σ1 := by
          intro P40 Q40 hP40 hE40_112 x4 x6 σ1 hx4 hx6 eN1 h
          unfold fX9_travel_l40 at h
          have J106 : ∀ (x4 : Int) (x6 : Int) (σ1 : St), inr x4 → inr x6 → σ1.2.2.2 = σ.2.2.2 → wpO (fX9_travel_j106 x3 x4 x5 x6 σ1) (onS P40 Q40) → Z κ (0, 0) (Qm κ ad σ enV okV X) 106 [(0, vo ad 9 (some 0)), (3, vi x3), (4, vi x4), (5, vi x5), (6, vi x6)] [] ad σ1 := by
            intro x4 x6 σ1 hx4 hx6 eN1 h
            unfold fX9_travel_j106 at h
            refine z_rng (fun hI6 hJ7 => ?_)
            obtain ⟨hk8, h⟩ := wpO_ck.mp h
            refine z_iinc (lv2 := [(6, vi (x6 + 1)), (0, vo ad 9 (some 0)), (3, vi x3), (4, vi x4), (5, vi x5)]) C 4 dX9_travel_106 rfl (by decide) rfl ?_
            refine z_goto C 40 dX9_travel_109 (by decide) ?_
            refine z_sub [1, 2, 3, 4, 0] rfl ?_
            have h := wpO_some.mp h
            exact hP40 x4 (x6 + 1) σ1 h hx4 hk8 eN1
          refine z_rng (fun hI9 hJ10 => ?_)
          refine z_iload C 4 dX9_travel_40 rfl ?_
          refine z_aload_n C 0 dX9_travel_42 rfl ?_
          refine z_gIv (v := gI σ1 1001 0 0) C li_X9_21 (sg_9 T) rfl dX9_travel_43 ?_
          refine z_icmp_ge C 112 hx6 (hI9 1001 0 _) dX9_travel_46 (by decide) (fun q11 => ?_) (fun q11 => ?_)
          · have h := (wpO_ite.mp h).1 q11
            refine z_sub [0, 1, 2, 3] rfl ?_
            have h := wpO_some.mp h
            exact hE40_112 x4 σ1 h hx4 eN1
          · have h := (wpO_ite.mp h).2 q11
            refine z_aload_n C 0 dX9_travel_49 rfl ?_
            refine z_gA T C li_X9_11 (sg_9 T) dX9_travel_50 ?_
            refine z_iload C 4 dX9_travel_53 rfl ?_
            obtain ⟨hb12, h⟩ := wpO_ck.mp h
            refine z_aald (K := 10) (t0 := 3) C ar_1000 (fun _ => rfl) (sg_1000 T) hx6 hb12 dX9_travel_55 (fun r13 hr14 => ?_)
            have h := lt_elim h r13 hr14
            refine z_astore (lv2 := [(7, vo ad 10 r13), (0, vo ad 9 (some 0)), (3, vi x3), (4, vi x4), (5, vi x5), (6, vi x6)]) C dX9_travel_56 (by decide) rfl ?_
            refine z_aload C 0 dX9_travel_58 rfl ?_
            refine z_aload_n C 1 dX9_travel_60 rfl ?_
            refine z_gA T C li_X9_17 (sg_9 T) dX9_travel_61 ?_
            refine z_aload C 0 dX9_travel_64 rfl ?_
            obtain ⟨j15, hr16, h⟩ := mop_none h
            subst hr16
            obtain ⟨hj17, h⟩ := wpO_ck.mp h
            refine z_gIv (v := gI σ1 1100 j15 0) C li_X9_40 (nN eN1 (toN eN1 hj17)) rfl dX9_travel_66 ?_
            obtain ⟨hb18, h⟩ := wpO_ck.mp h
            refine z_iav (v := gI σ1 1002 0 ((gI σ1 1100 j15 0).toNat)) C ar_1002 (sg_1002 T) (hI9 1100 j15 _) hb18 rfl dX9_travel_69 ?_
            refine z_iload_n C 2 dX9_travel_70 rfl ?_
            obtain ⟨hb19, h⟩ := wpO_ck.mp h
            refine z_cVp (st := []) T C (ct_X10_arrives j15 (gI σ1 1002 0 ((gI σ1 1100 j15 0).toNat)) x3 (hI9 1002 0 _) hb19) lm_X9_43 lv_vX10_arrives dX9_travel_71 [vi (gI σ1 1002 0 ((gI σ1 1100 j15 0).toNat)), vi x3] rfl rfl rfl rfl rfl (nN eN1 (toN eN1 hj17)) (nNl eN1 (toN eN1 hj17)) (by decide) (Nat.le_of_ble_eq_true rfl) csOK_0 h (fun r20 hr21 h => ?_)
            show Z κ (0, 0) _ 74 _ [vi r20] ad σ1
            refine z_istore (lv2 := [(8, vi r20), (7, vo ad 10 (some j15)), (0, vo ad 9 (some 0)), (3, vi x3), (4, vi x4), (5, vi x5), (6, vi x6)]) C dX9_travel_74 (by decide) rfl ?_
            refine z_iload C 0 dX9_travel_76 rfl ?_
            refine z_aload_n C 2 dX9_travel_78 rfl ?_
            refine z_gA T C li_X9_17 (sg_9 T) dX9_travel_79 ?_
            refine z_aload C 1 dX9_travel_82 rfl ?_
            refine z_gIv (v := gI σ1 1101 j15 0) C li_X9_47 (nN eN1 (toN eN1 hj17)) rfl dX9_travel_84 ?_
            obtain ⟨hb22, h⟩ := wpO_ck.mp h
            refine z_iav (v := gI σ1 1002 0 ((gI σ1 1101 j15 0).toNat)) C ar_1002 (sg_1002 T) (hI9 1101 j15 _) hb22 rfl dX9_travel_87 ?_
            refine z_icmp_ge C 106 hr21 (hI9 1002 0 _) dX9_travel_88 (by decide) (fun q23 => ?_) (fun q23 => ?_)
            · have h := (wpO_ite.mp h).1 q23
              refine z_sub [2, 3, 4, 5, 6] rfl ?_
              exact J106 x4 x6 σ1 hx4 hx6 eN1 h
            · have h := (wpO_ite.mp h).2 q23
              refine z_aload_n C 2 dX9_travel_91 rfl ?_
              refine z_gA T C li_X9_17 (sg_9 T) dX9_travel_92 ?_
              refine z_aload C 1 dX9_travel_95 rfl ?_
              refine z_gIv (v := gI σ1 1101 j15 0) C li_X9_47 (nN eN1 (toN eN1 hj17)) rfl dX9_travel_97 ?_
              refine z_iload C 0 dX9_travel_100 rfl ?_
              obtain ⟨hb24, h⟩ := wpO_ck.mp h
              refine z_iastore C ar_1002 (sg_1002 T) (hI9 1101 j15 _) hb24 hr21 dX9_travel_102 ?_
              refine z_iconst C dX9_travel_103 ?_
              refine z_istore (lv2 := [(4, vi 1), (8, vi r20), (7, vo ad 10 (some j15)), (0, vo ad 9 (some 0)), (3, vi x3), (5, vi x5), (6, vi x6)]) C dX9_travel_104 (by decide) rfl ?_
              refine z_sub [3, 4, 0, 5, 6] rfl ?_
              exact J106 1 x6 (sI σ1 1002 0 ((gI σ1 1101 j15 0).toNat) r20) (by decide) hx6 eN1 h
        exact wh_ind (P := fun s : (Int × Int × St) => inr s.1 → inr s.2.1 → s.2.2.2.2.2 = σ.2.2.2 → Z κ (0, 0) (Qm κ ad σ enV okV X) 40 [(0, vo ad 9 (some 0)), (3, vi x3), (4, vi s.1), (5, vi x5), (6, vi s.2.1)] [] ad s.2.2) (fun s hs g0 g1 g2 => step _ _ (fun _ _ _ hp => hp) (fun x4 σ1 hq hx4 eN1 => J112 x4 x5 σ1 hx4 hx5 eN1 hq) s.1 s.2.1 s.2.2 g0 g1 g2 hs) ((x4, x6, σ1)) (wpO_bnk.mp h) hx4 hx6 eN1
      refine z_rng (fun hI25 hJ26 => ?_)
      refine z_iload C 3 dX9_travel_22 rfl ?_
      refine z_bipush C dX9_travel_24 (by decide) ?_
      refine z_icmp_ge C 118 hx5 (by decide) dX9_travel_26 (by decide) (fun q27 => ?_) (fun q27 => ?_)
      · have h := (wpO_ite.mp h).1 q27
        refine z_sub [] rfl ?_
        have h := wpO_some.mp h
        exact hE22_118 σ1 h eN1
      · have h := (wpO_ite.mp h).2 q27
        refine z_iload C 2 dX9_travel_29 rfl ?_
        refine z_if_eq C 118 hx4 dX9_travel_31 (by decide) (fun q28 => ?_) (fun q28 => ?_)
        · have h := (wpO_ite.mp h).1 q28
          refine z_sub [] rfl ?_
          have h := wpO_some.mp h
          exact hE22_118 σ1 h eN1
        · have h := (wpO_ite.mp h).2 q28
          refine z_iconst C dX9_travel_34 ?_
          refine z_istore (lv2 := [(4, vi 0), (0, vo ad 9 (some 0)), (3, vi x3), (5, vi x5)]) C dX9_travel_35 (by decide) rfl ?_
          refine z_iconst C dX9_travel_37 ?_
          refine z_istore (lv2 := [(6, vi 0), (4, vi 0), (0, vo ad 9 (some 0)), (3, vi x3), (5, vi x5)]) C dX9_travel_38 (by decide) rfl ?_
          refine z_sub [2, 3, 1, 4, 0] rfl ?_
          exact J40 0 x5 0 σ1 (by decide) hx5 (by decide) eN1 h
    exact wh_ind (P := fun s : (Int × Int × St) => inr s.1 → inr s.2.1 → s.2.2.2.2.2 = σ.2.2.2 → Z κ (0, 0) (Qm κ ad σ enV okV X) 22 [(0, vo ad 9 (some 0)), (3, vi x3), (4, vi s.1), (5, vi s.2.1)] [] ad s.2.2) (fun s hs g0 g1 g2 => step _ _ (fun _ _ _ hp => hp) (fun σ1 hq eN1 => J118 σ1 eN1 hq) s.1 s.2.1 s.2.2 g0 g1 g2 hs) ((x4, x5, σ1)) (wpO_bnk.mp h) hx4 hx5 eN1
  show Z κ (0, 0) (Qm κ ad σ enV okV X) 0 [(0, vo ad 9 (some 0)), (1, vi x1), (2, vi x2), (3, vi x3)] [] ad σ
  refine z_rng (fun hI29 hJ30 => ?_)
  refine z_aload_n C 0 dX9_travel_0 rfl ?_
  refine z_gA T C li_X9_17 (sg_9 T) dX9_travel_1 ?_
  refine z_ldc C lc_X9_33 dX9_travel_4 ?_
  refine z_cS (st := []) T C (ct_J7_fill_53178 1002 8 1000000 ar_1002 (fun T => sg_1002 T) (by decide) (by decide)) lm_X9_34 ls_J7_fill_53178 dX9_travel_6 rfl rfl trivial (by decide) (Nat.le_of_ble_eq_true rfl) csOK_0 h (fun r31 σ33 hr32 eN34 h => ?_)
  show Z κ (0, 0) _ 9 _ [] ad σ33
  refine z_rng (fun hI35 hJ36 => ?_)
  refine z_aload_n C 0 dX9_travel_9 rfl ?_
  refine z_gA T C li_X9_17 (sg_9 T) dX9_travel_10 ?_
  refine z_iload_n C 1 dX9_travel_13 rfl ?_
  refine z_iload_n C 2 dX9_travel_14 rfl ?_
  obtain ⟨hb37, h⟩ := wpO_ck.mp h
  refine z_iastore C ar_1002 (sg_1002 T) hx1 hb37 hx2 dX9_travel_15 ?_
  refine z_iconst C dX9_travel_16 ?_
  refine z_istore (lv2 := [(4, vi 1), (0, vo ad 9 (some 0)), (1, vi x1), (2, vi x2), (3, vi x3)]) C dX9_travel_17 (by decide) rfl ?_
  refine z_iconst C dX9_travel_19 ?_
  refine z_istore (lv2 := [(5, vi 0), (4, vi 1), (0, vo ad 9 (some 0)), (1, vi x1), (2, vi x2), (3, vi x3)]) C dX9_travel_20 (by decide) rfl ?_
  refine z_sub [2, 5, 1, 0] rfl ?_
  exact J22 x3 1 0 (sI σ33 1002 0 x1.toNat x2) (inr_b hx3) (by decide) (by decide) eN34 h
noncomputable def fX9_isThereBy (x1 : Int) (x2 : Int) (σ : St) : Option Int :=
  ck (0 ≤ x1 ∧ x1 < 8) (if x2 < gI σ 1002 0 x1.toNat then (some 0) else (some 1))
set_option maxRecDepth 20000 in
set_option maxHeartbeats 4000000 in
theorem ct_X9_isThereBy (x1 : Int) (x2 : Int) (hx1 : inr x1) (hx2 : inr x2) : Ct yX9_isThereBy cX9_isThereBy 3 (some .boolean) 0 (fun ad => [vo ad 9 (some 0), vi x1, vi x2]) (pu (fX9_isThereBy x1 x2)) enI okB (fun _ => True) := by
  refine Ct.of (by decide) (fun ad => Nat.le_of_ble_eq_true rfl) ?_
  intro κ ad σ X C T hpre h
  have C : Cx κ RX9 cX9_isThereBy 3 (some .boolean) 0 := C
  have h := wpO_pu.mp h
  unfold fX9_isThereBy at h
  show Z κ (0, 0) (Qm κ ad σ enI okB X) 0 [(0, vo ad 9 (some 0)), (1, vi x1), (2, vi x2)] [] ad σ
  refine z_rng (fun hI1 hJ2 => ?_)
  refine z_aload_n C 0 dX9_isThereBy_0 rfl ?_
  refine z_gA T C li_X9_17 (sg_9 T) dX9_isThereBy_1 ?_
  refine z_iload_n C 1 dX9_isThereBy_4 rfl ?_
  obtain ⟨hb3, h⟩ := wpO_ck.mp h
  refine z_iav (v := gI σ 1002 0 x1.toNat) C ar_1002 (sg_1002 T) hx1 hb3 rfl dX9_isThereBy_5 ?_
  refine z_iload_n C 2 dX9_isThereBy_6 rfl ?_
  refine z_icmp_gt C 14 (hI1 1002 0 _) hx2 dX9_isThereBy_7 (by decide) (fun q4 => ?_) (fun q4 => ?_)
  · have h := (wpO_ite.mp h).1 q4
    refine z_iconst C dX9_isThereBy_14 ?_
    have h := wpO_some.mp h
    exact z_breturn T C dX9_isThereBy_15 (by decide) rfl h
  · have h := (wpO_ite.mp h).2 q4
    refine z_iconst C dX9_isThereBy_10 ?_
    refine z_goto C 15 dX9_isThereBy_11 (by decide) ?_
    have h := wpO_some.mp h
    exact z_breturn T C dX9_isThereBy_15 (by decide) rfl h
noncomputable def fX0_reachable_j64 (x4 : Int) (σ1 : St) : Option (Int × St) :=
  some (x4, σ1)
noncomputable def fX0_reachable_l13 (σ1 : St) (x4 : Int) (x5 : Int) : Option ((Int × Int) ⊕ Int) :=
  if gI σ1 102 0 0 ≤ x5 then (some (.inr x4)) else (ck (0 ≤ x5 ∧ x5 < 8) (ck (0 ≤ gI σ1 106 0 x5.toNat ∧ gI σ1 106 0 x5.toNat < 8) (ck (0 ≤ gI σ1 106 0 x5.toNat ∧ gI σ1 106 0 x5.toNat < 8) (bnk (fX9_isThereBy (gI σ1 103 0 ((gI σ1 106 0 x5.toNat).toNat)) (gI σ1 104 0 ((gI σ1 106 0 x5.toNat).toNat)) σ1) (fun r9 => bnk (fX11_withMember x4 x5 r9) (fun r11 => ck (inr (x5 + 1)) (some (.inl ((r11, x5 + 1))))))))))
noncomputable def fX0_reachable_j13 (x4 : Int) (x5 : Int) (σ1 : St) : Option (Int × St) :=
  bnk (wh (fun s => fX0_reachable_l13 σ1 s.1 s.2) ((x4, x5))) (fun e => fX0_reachable_j64 e σ1)
noncomputable def fX0_reachable (x2 : Int) (x3 : Int) (σ : St) : Option (Int × St) :=
  bnd (fX9_travel x2 x3 1 σ) (fun _ σ18 => fX0_reachable_j13 0 0 σ18)
set_option maxRecDepth 20000 in
set_option maxHeartbeats 4000000 in
theorem ct_X0_reachable (x2 : Int) (x3 : Int) (hx2 : inr x2) (hx3 : inr x3) : Ct yX0_reachable cX0_reachable 7 (some .int) 3 (fun ad => [vo ad 0 (some 0), vo ad 9 (some 0), vi x2, vi x3]) (fX0_reachable x2 x3) enI okI (fun _ => True) := by
  refine Ct.of (by decide) (fun ad => Nat.le_of_ble_eq_true rfl) ?_
  intro κ ad σ X C T hpre h
  have C : Cx κ RX0 cX0_reachable 7 (some .int) 3 := C
  unfold fX0_reachable at h
  have J64 : ∀ (x4 : Int) (σ1 : St), inr x4 → σ1.2.2.2 = σ.2.2.2 → wpO (fX0_reachable_j64 x4 σ1) (fun q => X q.1 q.2) → Z κ (0, 0) (Qm κ ad σ enI okI X) 64 [(4, vi x4)] [] ad σ1 := by
    intro x4 σ1 hx4 eN1 h
    unfold fX0_reachable_j64 at h
    refine z_rng (fun hI1 hJ2 => ?_)
    refine z_iload C 0 dX0_reachable_64 rfl ?_
    have h := wpO_some.mp h
    exact z_ireturn T C dX0_reachable_66 hx4 eN1 h
  have J13 : ∀ (x4 : Int) (x5 : Int) (σ1 : St), inr x4 → inr x5 → σ1.2.2.2 = σ.2.2.2 → wpO (fX0_reachable_j13 x4 x5 σ1) (fun q => X q.1 q.2) → Z κ (0, 0) (Qm κ ad σ enI okI X) 13 [(0, vo ad 0 (some 0)), (1, vo ad 9 (some 0)), (4, vi x4), (5, vi x5)] [] ad σ1 := by
    intro x4 x5 σ1 hx4 hx5 eN1 h
    unfold fX0_reachable_j13 at h
    have step : ∀ (P13 : (Int × Int) → Prop) (Q13 : Int → Prop), (∀ (x4 : Int) (x5 : Int), P13 ((x4, x5)) → inr x4 → inr x5 → Z κ (0, 0) (Qm κ ad σ enI okI X) 13 [(0, vo ad 0 (some 0)), (1, vo ad 9 (some 0)), (4, vi x4), (5, vi x5)] [] ad σ1) → (∀ (x4 : Int), Q13 (x4) → inr x4 → Z κ (0, 0) (Qm κ ad σ enI okI X) 64 [(4, vi x4)] [] ad σ1) → ∀ (x4 : Int) (x5 : Int), inr x4 → inr x5 → wpO (fX0_reachable_l13 σ1 x4 x5) (onS P13 Q13) → Z κ (0, 0) (Qm κ ad σ enI okI X) 13 [(0, vo ad 0 (some 0)), (1, vo ad 9 (some 0)), (4, vi x4), (5, vi x5)] [] ad σ1 := by
      intro P13 Q13 hP13 hE13_64 x4 x5 hx4 hx5 h
      unfold fX0_reachable_l13 at h
      refine z_rng (fun hI3 hJ4 => ?_)
      refine z_iload C 3 dX0_reachable_13 rfl ?_
      refine z_aload_n C 0 dX0_reachable_15 rfl ?_
      refine z_gIv (v := gI σ1 102 0 0) C li_X0_40 (sg_0 T) rfl dX0_reachable_16 ?_
      refine z_icmp_ge C 64 hx5 (hI3 102 0 _) dX0_reachable_19 (by decide) (fun q5 => ?_) (fun q5 => ?_)
      · have h := (wpO_ite.mp h).1 q5
        refine z_sub [2] rfl ?_
        have h := wpO_some.mp h
        exact hE13_64 x4 h hx4
      · have h := (wpO_ite.mp h).2 q5
        refine z_aload_n C 0 dX0_reachable_22 rfl ?_
        refine z_gA T C li_X0_27 (sg_0 T) dX0_reachable_23 ?_
        refine z_iload C 3 dX0_reachable_26 rfl ?_
        obtain ⟨hb6, h⟩ := wpO_ck.mp h
        refine z_iav (v := gI σ1 106 0 x5.toNat) C ar_106 (sg_106 T) hx5 hb6 rfl dX0_reachable_28 ?_
        refine z_istore (lv2 := [(6, vi (gI σ1 106 0 x5.toNat)), (0, vo ad 0 (some 0)), (1, vo ad 9 (some 0)), (4, vi x4), (5, vi x5)]) C dX0_reachable_29 (by decide) rfl ?_
        refine z_iload C 3 dX0_reachable_31 rfl ?_
        refine z_iload C 4 dX0_reachable_33 rfl ?_
        refine z_aload_n C 2 dX0_reachable_35 rfl ?_
        refine z_aload_n C 1 dX0_reachable_36 rfl ?_
        refine z_gA T C li_X0_18 (sg_0 T) dX0_reachable_37 ?_
        refine z_iload C 0 dX0_reachable_40 rfl ?_
        obtain ⟨hb7, h⟩ := wpO_ck.mp h
        refine z_iav (v := gI σ1 103 0 ((gI σ1 106 0 x5.toNat).toNat)) C ar_103 (sg_103 T) (hI3 106 0 _) hb7 rfl dX0_reachable_42 ?_
        refine z_aload_n C 1 dX0_reachable_43 rfl ?_
        refine z_gA T C li_X0_21 (sg_0 T) dX0_reachable_44 ?_
        refine z_iload C 0 dX0_reachable_47 rfl ?_
        obtain ⟨hb8, h⟩ := wpO_ck.mp h
        refine z_iav (v := gI σ1 104 0 ((gI σ1 106 0 x5.toNat).toNat)) C ar_104 (sg_104 T) (hI3 106 0 _) hb8 rfl dX0_reachable_49 ?_
        refine z_cVp (st := [vi x5, vi x4]) T C (ct_X9_isThereBy (gI σ1 103 0 ((gI σ1 106 0 x5.toNat).toNat)) (gI σ1 104 0 ((gI σ1 106 0 x5.toNat).toNat)) (hI3 103 0 _) (hI3 104 0 _)) lm_X0_65 lv_vX9_isThereBy dX0_reachable_50 [vi (gI σ1 103 0 ((gI σ1 106 0 x5.toNat).toNat)), vi (gI σ1 104 0 ((gI σ1 106 0 x5.toNat).toNat))] rfl rfl rfl rfl rfl (sg_9 T) trivial (by decide) (Nat.le_of_ble_eq_true rfl) csOK_0 h (fun r9 hr10 h => ?_)
        show Z κ (0, 0) _ 53 _ [vi r9, vi x5, vi x4] ad σ1
        refine z_cSp (st := []) T C (ct_X11_withMember x4 x5 r9 hx4 hx5 hr10) lm_X0_69 ls_X11_withMember dX0_reachable_53 rfl rfl trivial (by decide) (Nat.le_of_ble_eq_true rfl) csOK_0 h (fun r11 hr12 h => ?_)
        show Z κ (0, 0) _ 56 _ [vi r11] ad σ1
        refine z_istore (lv2 := [(4, vi r11), (6, vi (gI σ1 106 0 x5.toNat)), (0, vo ad 0 (some 0)), (1, vo ad 9 (some 0)), (5, vi x5)]) C dX0_reachable_56 (by decide) rfl ?_
        obtain ⟨hk13, h⟩ := wpO_ck.mp h
        refine z_iinc (lv2 := [(5, vi (x5 + 1)), (4, vi r11), (6, vi (gI σ1 106 0 x5.toNat)), (0, vo ad 0 (some 0)), (1, vo ad 9 (some 0))]) C 4 dX0_reachable_58 rfl (by decide) rfl ?_
        refine z_goto C 13 dX0_reachable_61 (by decide) ?_
        refine z_sub [3, 4, 1, 0] rfl ?_
        have h := wpO_some.mp h
        exact hP13 r11 (x5 + 1) h hr12 hk13
    exact wh_ind (P := fun s : (Int × Int) => inr s.1 → inr s.2 → Z κ (0, 0) (Qm κ ad σ enI okI X) 13 [(0, vo ad 0 (some 0)), (1, vo ad 9 (some 0)), (4, vi s.1), (5, vi s.2)] [] ad σ1) (fun s hs g0 g1 => step _ _ (fun _ _ hp => hp) (fun x4 hq hx4 => J64 x4 σ1 hx4 eN1 hq) s.1 s.2 g0 g1 hs) ((x4, x5)) (wpO_bnk.mp h) hx4 hx5
  show Z κ (0, 0) (Qm κ ad σ enI okI X) 0 [(0, vo ad 0 (some 0)), (1, vo ad 9 (some 0)), (2, vi x2), (3, vi x3)] [] ad σ
  refine z_rng (fun hI14 hJ15 => ?_)
  refine z_aload_n C 1 dX0_reachable_0 rfl ?_
  refine z_iload_n C 2 dX0_reachable_1 rfl ?_
  refine z_iload_n C 3 dX0_reachable_2 rfl ?_
  refine z_iconst C dX0_reachable_3 ?_
  refine z_cV (st := []) T C (ct_X9_travel x2 x3 1 hx2 hx3 (by decide)) lm_X0_59 lv_vX9_travel dX0_reachable_4 [vi x2, vi x3, vi 1] rfl rfl rfl rfl rfl (sg_9 T) trivial (by decide) (Nat.le_of_ble_eq_true rfl) csOK_0 h (fun r16 σ18 hr17 eN19 h => ?_)
  show Z κ (0, 0) _ 7 _ [] ad σ18
  refine z_rng (fun hI20 hJ21 => ?_)
  refine z_iconst C dX0_reachable_7 ?_
  refine z_istore (lv2 := [(4, vi 0), (0, vo ad 0 (some 0)), (1, vo ad 9 (some 0)), (2, vi x2), (3, vi x3)]) C dX0_reachable_8 (by decide) rfl ?_
  refine z_iconst C dX0_reachable_10 ?_
  refine z_istore (lv2 := [(5, vi 0), (4, vi 0), (0, vo ad 0 (some 0)), (1, vo ad 9 (some 0)), (2, vi x2), (3, vi x3)]) C dX0_reachable_11 (by decide) rfl ?_
  refine z_sub [2, 3, 1, 0] rfl ?_
  exact J13 0 0 σ18 (by decide) (by decide) eN19 h
noncomputable def fX0_plan_j121 (σ1 : St) : Option (Unit × St) :=
  bnd (fX0_chooseBest σ1) (fun _ σ5 => some ((), σ5))
noncomputable def fX0_plan_j115 (x2 : Int) (σ1 : St) : Option ((Int × St) ⊕ St) :=
  ck (inr (x2 + 1)) (some (.inl ((x2 + 1, σ1))))
noncomputable def fX0_plan_l78 (x2 : Int) (σ1 : St) : Option ((Int × St) ⊕ St) :=
  if 4 ≤ x2 then (some (.inr σ1)) else (ck (0 ≤ x2 ∧ x2 < 4) (if gI σ1 100 0 x2.toNat = (-9) then (fX0_plan_j115 x2 σ1) else (ck (0 ≤ x2 ∧ x2 < 4) (ck (0 ≤ x2 ∧ x2 < 4) (bnd (fX0_reachable (gI σ1 100 0 x2.toNat) (gI σ1 101 0 x2.toNat) σ1) (fun r20 σ22 => bnd (fX0_addMan r20 σ22) (fun _ σ29 => fX0_plan_j115 x2 σ29)))))))
noncomputable def fX0_plan_j78 (x2 : Int) (σ1 : St) : Option (Unit × St) :=
  bnk (wh (fun s => fX0_plan_l78 s.1 s.2) ((x2, σ1))) (fun e => fX0_plan_j121 e)
noncomputable def fX0_plan_j76 (σ1 : St) : Option (Unit × St) :=
  fX0_plan_j78 0 σ1
noncomputable def fX0_plan_j69 (x2 : Int) (s1 : Int) (s2 : Int) (σ1 : St) : Option ((Int × St) ⊕ St) :=
  ck (0 ≤ s1 ∧ s1 < 256) (ck (s2 = 0 ∨ s2 = 1) (ck (inr (x2 + 1)) (some (.inl ((x2 + 1, sI σ1 109 0 s1.toNat s2))))))
noncomputable def fX0_plan_l48 (x2 : Int) (σ1 : St) : Option ((Int × St) ⊕ St) :=
  if 256 ≤ x2 then (some (.inr σ1)) else (if x2 = 0 then (fX0_plan_j69 x2 x2 1 σ1) else (fX0_plan_j69 x2 x2 0 σ1))
noncomputable def fX0_plan_j48 (x2 : Int) (σ1 : St) : Option (Unit × St) :=
  bnk (wh (fun s => fX0_plan_l48 s.1 s.2) ((x2, σ1))) (fun e => fX0_plan_j76 e)
noncomputable def fX0_plan_j46 (σ1 : St) : Option (Unit × St) :=
  fX0_plan_j48 0 σ1
noncomputable def fX0_plan_l2 (x2 : Int) (σ1 : St) : Option ((Int × St) ⊕ St) :=
  if gI σ1 102 0 0 ≤ x2 then (some (.inr σ1)) else (ck (0 ≤ x2 ∧ x2 < 8) (ck (0 ≤ gI σ1 106 0 x2.toNat ∧ gI σ1 106 0 x2.toNat < 8) (ck (0 ≤ gI σ1 106 0 x2.toNat ∧ gI σ1 106 0 x2.toNat < 8) (bnd (fX0_reachable (gI σ1 103 0 ((gI σ1 106 0 x2.toNat).toNat)) (gI σ1 104 0 ((gI σ1 106 0 x2.toNat).toNat)) σ1) (fun r53 σ55 => ck (0 ≤ x2 ∧ x2 < 8) (ck (inr (x2 + 1)) (some (.inl ((x2 + 1, sI σ55 107 0 x2.toNat r53))))))))))
noncomputable def fX0_plan_j2 (x2 : Int) (σ1 : St) : Option (Unit × St) :=
  bnk (wh (fun s => fX0_plan_l2 s.1 s.2) ((x2, σ1))) (fun e => fX0_plan_j46 e)
noncomputable def fX0_plan (σ : St) : Option (Unit × St) :=
  fX0_plan_j2 0 σ
set_option maxRecDepth 20000 in
set_option maxHeartbeats 4000000 in
theorem ct_X0_plan  : Ct yX0_plan cX0_plan 4 none 4 (fun ad => [vo ad 0 (some 0), vo ad 9 (some 0)]) fX0_plan enV okV (fun _ => True) := by
  refine Ct.of (by decide) (fun ad => Nat.le_of_ble_eq_true rfl) ?_
  intro κ ad σ X C T hpre h
  have C : Cx κ RX0 cX0_plan 4 none 4 := C
  unfold fX0_plan at h
  have J121 : ∀ (σ1 : St), σ1.2.2.2 = σ.2.2.2 → wpO (fX0_plan_j121 σ1) (fun q => X q.1 q.2) → Z κ (0, 0) (Qm κ ad σ enV okV X) 121 [(0, vo ad 0 (some 0))] [] ad σ1 := by
    intro σ1 eN1 h
    unfold fX0_plan_j121 at h
    refine z_rng (fun hI1 hJ2 => ?_)
    refine z_aload_n C 0 dX0_plan_121 rfl ?_
    refine z_cV (st := []) T C ct_X0_chooseBest lm_X0_56 lv_vX0_chooseBest dX0_plan_122 [] rfl rfl rfl rfl rfl (sg_0 T) trivial (by decide) (Nat.le_of_ble_eq_true rfl) csOK_0 h (fun r3 σ5 hr4 eN6 h => ?_)
    have eN7 := eN6.trans eN1
    show Z κ (0, 0) _ 125 _ [] ad σ5
    refine z_rng (fun hI8 hJ9 => ?_)
    have h := wpO_some.mp h
    exact z_return T C dX0_plan_125 eN7 h
  have J78 : ∀ (x2 : Int) (σ1 : St), inr x2 → σ1.2.2.2 = σ.2.2.2 → wpO (fX0_plan_j78 x2 σ1) (fun q => X q.1 q.2) → Z κ (0, 0) (Qm κ ad σ enV okV X) 78 [(0, vo ad 0 (some 0)), (1, vo ad 9 (some 0)), (2, vi x2)] [] ad σ1 := by
    intro x2 σ1 hx2 eN1 h
    unfold fX0_plan_j78 at h
    have step : ∀ (P78 : (Int × St) → Prop) (Q78 : St → Prop), (∀ (x2 : Int) (σ1 : St), P78 ((x2, σ1)) → inr x2 → σ1.2.2.2 = σ.2.2.2 → Z κ (0, 0) (Qm κ ad σ enV okV X) 78 [(0, vo ad 0 (some 0)), (1, vo ad 9 (some 0)), (2, vi x2)] [] ad σ1) → (∀ (σ1 : St), Q78 (σ1) → σ1.2.2.2 = σ.2.2.2 → Z κ (0, 0) (Qm κ ad σ enV okV X) 121 [(0, vo ad 0 (some 0))] [] ad σ1) → ∀ (x2 : Int) (σ1 : St), inr x2 → σ1.2.2.2 = σ.2.2.2 → wpO (fX0_plan_l78 x2 σ1) (onS P78 Q78) → Z κ (0, 0) (Qm κ ad σ enV okV X) 78 [(0, vo ad 0 (some 0)), (1, vo ad 9 (some 0)), (2, vi x2)] [] ad σ1 := by
      intro P78 Q78 hP78 hE78_121 x2 σ1 hx2 eN1 h
      unfold fX0_plan_l78 at h
      have J115 : ∀ (x2 : Int) (σ1 : St), inr x2 → σ1.2.2.2 = σ.2.2.2 → wpO (fX0_plan_j115 x2 σ1) (onS P78 Q78) → Z κ (0, 0) (Qm κ ad σ enV okV X) 115 [(0, vo ad 0 (some 0)), (1, vo ad 9 (some 0)), (2, vi x2)] [] ad σ1 := by
        intro x2 σ1 hx2 eN1 h
        unfold fX0_plan_j115 at h
        refine z_rng (fun hI10 hJ11 => ?_)
        obtain ⟨hk12, h⟩ := wpO_ck.mp h
        refine z_iinc (lv2 := [(2, vi (x2 + 1)), (0, vo ad 0 (some 0)), (1, vo ad 9 (some 0))]) C 2 dX0_plan_115 rfl (by decide) rfl ?_
        refine z_goto C 78 dX0_plan_118 (by decide) ?_
        refine z_sub [1, 2, 0] rfl ?_
        have h := wpO_some.mp h
        exact hP78 (x2 + 1) σ1 h hk12 eN1
      refine z_rng (fun hI13 hJ14 => ?_)
      refine z_iload_n C 2 dX0_plan_78 rfl ?_
      refine z_iconst C dX0_plan_79 ?_
      refine z_icmp_ge C 121 hx2 (by decide) dX0_plan_80 (by decide) (fun q15 => ?_) (fun q15 => ?_)
      · have h := (wpO_ite.mp h).1 q15
        refine z_sub [0] rfl ?_
        have h := wpO_some.mp h
        exact hE78_121 σ1 h eN1
      · have h := (wpO_ite.mp h).2 q15
        refine z_aload_n C 0 dX0_plan_83 rfl ?_
        refine z_gA T C li_X0_9 (sg_0 T) dX0_plan_84 ?_
        refine z_iload_n C 2 dX0_plan_87 rfl ?_
        obtain ⟨hb16, h⟩ := wpO_ck.mp h
        refine z_iav (v := gI σ1 100 0 x2.toNat) C ar_100 (sg_100 T) hx2 hb16 rfl dX0_plan_88 ?_
        refine z_bipush C dX0_plan_89 (by decide) ?_
        refine z_icmp_eq C 115 (hI13 100 0 _) (by decide) dX0_plan_91 (by decide) (fun q17 => ?_) (fun q17 => ?_)
        · have h := (wpO_ite.mp h).1 q17
          exact J115 x2 σ1 hx2 eN1 h
        · have h := (wpO_ite.mp h).2 q17
          refine z_aload_n C 0 dX0_plan_94 rfl ?_
          refine z_aload_n C 0 dX0_plan_95 rfl ?_
          refine z_aload_n C 1 dX0_plan_96 rfl ?_
          refine z_aload_n C 0 dX0_plan_97 rfl ?_
          refine z_gA T C li_X0_9 (sg_0 T) dX0_plan_98 ?_
          refine z_iload_n C 2 dX0_plan_101 rfl ?_
          obtain ⟨hb18, h⟩ := wpO_ck.mp h
          refine z_iav (v := gI σ1 100 0 x2.toNat) C ar_100 (sg_100 T) hx2 hb18 rfl dX0_plan_102 ?_
          refine z_aload_n C 0 dX0_plan_103 rfl ?_
          refine z_gA T C li_X0_15 (sg_0 T) dX0_plan_104 ?_
          refine z_iload_n C 2 dX0_plan_107 rfl ?_
          obtain ⟨hb19, h⟩ := wpO_ck.mp h
          refine z_iav (v := gI σ1 101 0 x2.toNat) C ar_101 (sg_101 T) hx2 hb19 rfl dX0_plan_108 ?_
          refine z_cV (st := [vo ad 0 (some 0)]) T C (ct_X0_reachable (gI σ1 100 0 x2.toNat) (gI σ1 101 0 x2.toNat) (hI13 100 0 _) (hI13 101 0 _)) lm_X0_48 lv_vX0_reachable dX0_plan_109 [vo ad 9 (some 0), vi (gI σ1 100 0 x2.toNat), vi (gI σ1 101 0 x2.toNat)] rfl rfl rfl rfl rfl (sg_0 T) trivial (by decide) (Nat.le_of_ble_eq_true rfl) csOK_0 h (fun r20 σ22 hr21 eN23 h => ?_)
          have eN24 := eN23.trans eN1
          show Z κ (0, 0) _ 112 _ [vi r20, vo ad 0 (some 0)] ad σ22
          refine z_rng (fun hI25 hJ26 => ?_)
          refine z_cV (st := []) T C (ct_X0_addMan r20 hr21) lm_X0_52 lv_vX0_addMan dX0_plan_112 [vi r20] rfl rfl rfl rfl rfl (sg_0 T) trivial (by decide) (Nat.le_of_ble_eq_true rfl) csOK_0 h (fun r27 σ29 hr28 eN30 h => ?_)
          have eN31 := eN30.trans eN24
          show Z κ (0, 0) _ 115 _ [] ad σ29
          refine z_rng (fun hI32 hJ33 => ?_)
          exact J115 x2 σ29 hx2 eN31 h
    exact wh_ind (P := fun s : (Int × St) => inr s.1 → s.2.2.2.2 = σ.2.2.2 → Z κ (0, 0) (Qm κ ad σ enV okV X) 78 [(0, vo ad 0 (some 0)), (1, vo ad 9 (some 0)), (2, vi s.1)] [] ad s.2) (fun s hs g0 g1 => step _ _ (fun _ _ hp => hp) (fun σ1 hq eN1 => J121 σ1 eN1 hq) s.1 s.2 g0 g1 hs) ((x2, σ1)) (wpO_bnk.mp h) hx2 eN1
  have J76 : ∀ (σ1 : St), σ1.2.2.2 = σ.2.2.2 → wpO (fX0_plan_j76 σ1) (fun q => X q.1 q.2) → Z κ (0, 0) (Qm κ ad σ enV okV X) 76 [(0, vo ad 0 (some 0)), (1, vo ad 9 (some 0))] [] ad σ1 := by
    intro σ1 eN1 h
    unfold fX0_plan_j76 at h
    refine z_rng (fun hI34 hJ35 => ?_)
    refine z_iconst C dX0_plan_76 ?_
    refine z_istore_n (lv2 := [(2, vi 0), (0, vo ad 0 (some 0)), (1, vo ad 9 (some 0))]) C dX0_plan_77 (by decide) rfl ?_
    refine z_sub [1, 2, 0] rfl ?_
    exact J78 0 σ1 (by decide) eN1 h
  have J48 : ∀ (x2 : Int) (σ1 : St), inr x2 → σ1.2.2.2 = σ.2.2.2 → wpO (fX0_plan_j48 x2 σ1) (fun q => X q.1 q.2) → Z κ (0, 0) (Qm κ ad σ enV okV X) 48 [(0, vo ad 0 (some 0)), (1, vo ad 9 (some 0)), (2, vi x2)] [] ad σ1 := by
    intro x2 σ1 hx2 eN1 h
    unfold fX0_plan_j48 at h
    have step : ∀ (P48 : (Int × St) → Prop) (Q48 : St → Prop), (∀ (x2 : Int) (σ1 : St), P48 ((x2, σ1)) → inr x2 → σ1.2.2.2 = σ.2.2.2 → Z κ (0, 0) (Qm κ ad σ enV okV X) 48 [(0, vo ad 0 (some 0)), (1, vo ad 9 (some 0)), (2, vi x2)] [] ad σ1) → (∀ (σ1 : St), Q48 (σ1) → σ1.2.2.2 = σ.2.2.2 → Z κ (0, 0) (Qm κ ad σ enV okV X) 76 [(0, vo ad 0 (some 0)), (1, vo ad 9 (some 0))] [] ad σ1) → ∀ (x2 : Int) (σ1 : St), inr x2 → σ1.2.2.2 = σ.2.2.2 → wpO (fX0_plan_l48 x2 σ1) (onS P48 Q48) → Z κ (0, 0) (Qm κ ad σ enV okV X) 48 [(0, vo ad 0 (some 0)), (1, vo ad 9 (some 0)), (2, vi x2)] [] ad σ1 := by
      intro P48 Q48 hP48 hE48_76 x2 σ1 hx2 eN1 h
      unfold fX0_plan_l48 at h
      have J69 : ∀ (x2 : Int) (s1 : Int) (s2 : Int) (σ1 : St), inr x2 → inr s1 → inr s2 → σ1.2.2.2 = σ.2.2.2 → wpO (fX0_plan_j69 x2 s1 s2 σ1) (onS P48 Q48) → Z κ (0, 0) (Qm κ ad σ enV okV X) 69 [(0, vo ad 0 (some 0)), (1, vo ad 9 (some 0)), (2, vi x2)] [vi s2, vi s1, vo ad 109 (some 0)] ad σ1 := by
        intro x2 s1 s2 σ1 hx2 hs1 hs2 eN1 h
        unfold fX0_plan_j69 at h
        refine z_rng (fun hI36 hJ37 => ?_)
        obtain ⟨hb38, h⟩ := wpO_ck.mp h
        obtain ⟨hb39, h⟩ := wpO_ck.mp h
        refine z_bastore C ar_109 (sg_109 T) hs1 hb38 hs2 hb39 dX0_plan_69 ?_
        obtain ⟨hk40, h⟩ := wpO_ck.mp h
        refine z_iinc (lv2 := [(2, vi (x2 + 1)), (0, vo ad 0 (some 0)), (1, vo ad 9 (some 0))]) C 2 dX0_plan_70 rfl (by decide) rfl ?_
        refine z_goto C 48 dX0_plan_73 (by decide) ?_
        refine z_sub [1, 2, 0] rfl ?_
        have h := wpO_some.mp h
        exact hP48 (x2 + 1) (sI σ1 109 0 s1.toNat s2) h hk40 eN1
      refine z_rng (fun hI41 hJ42 => ?_)
      refine z_iload_n C 2 dX0_plan_48 rfl ?_
      refine z_sipush C dX0_plan_49 (by decide) ?_
      refine z_icmp_ge C 76 hx2 (by decide) dX0_plan_52 (by decide) (fun q43 => ?_) (fun q43 => ?_)
      · have h := (wpO_ite.mp h).1 q43
        refine z_sub [0, 1] rfl ?_
        have h := wpO_some.mp h
        exact hE48_76 σ1 h eN1
      · have h := (wpO_ite.mp h).2 q43
        refine z_aload_n C 0 dX0_plan_55 rfl ?_
        refine z_gA T C li_X0_37 (sg_0 T) dX0_plan_56 ?_
        refine z_iload_n C 2 dX0_plan_59 rfl ?_
        refine z_iload_n C 2 dX0_plan_60 rfl ?_
        refine z_if_ne C 68 hx2 dX0_plan_61 (by decide) (fun q44 => ?_) (fun q44 => ?_)
        · have h := (wpO_ite.mp h).2 q44
          refine z_iconst C dX0_plan_68 ?_
          exact J69 x2 x2 0 σ1 hx2 hx2 (by decide) eN1 h
        · have h := (wpO_ite.mp h).1 q44
          refine z_iconst C dX0_plan_64 ?_
          refine z_goto C 69 dX0_plan_65 (by decide) ?_
          exact J69 x2 x2 1 σ1 hx2 hx2 (by decide) eN1 h
    exact wh_ind (P := fun s : (Int × St) => inr s.1 → s.2.2.2.2 = σ.2.2.2 → Z κ (0, 0) (Qm κ ad σ enV okV X) 48 [(0, vo ad 0 (some 0)), (1, vo ad 9 (some 0)), (2, vi s.1)] [] ad s.2) (fun s hs g0 g1 => step _ _ (fun _ _ hp => hp) (fun σ1 hq eN1 => J76 σ1 eN1 hq) s.1 s.2 g0 g1 hs) ((x2, σ1)) (wpO_bnk.mp h) hx2 eN1
  have J46 : ∀ (σ1 : St), σ1.2.2.2 = σ.2.2.2 → wpO (fX0_plan_j46 σ1) (fun q => X q.1 q.2) → Z κ (0, 0) (Qm κ ad σ enV okV X) 46 [(0, vo ad 0 (some 0)), (1, vo ad 9 (some 0))] [] ad σ1 := by
    intro σ1 eN1 h
    unfold fX0_plan_j46 at h
    refine z_rng (fun hI45 hJ46 => ?_)
    refine z_iconst C dX0_plan_46 ?_
    refine z_istore_n (lv2 := [(2, vi 0), (0, vo ad 0 (some 0)), (1, vo ad 9 (some 0))]) C dX0_plan_47 (by decide) rfl ?_
    refine z_sub [1, 2, 0] rfl ?_
    exact J48 0 σ1 (by decide) eN1 h
  have J2 : ∀ (x2 : Int) (σ1 : St), inr x2 → σ1.2.2.2 = σ.2.2.2 → wpO (fX0_plan_j2 x2 σ1) (fun q => X q.1 q.2) → Z κ (0, 0) (Qm κ ad σ enV okV X) 2 [(0, vo ad 0 (some 0)), (1, vo ad 9 (some 0)), (2, vi x2)] [] ad σ1 := by
    intro x2 σ1 hx2 eN1 h
    unfold fX0_plan_j2 at h
    have step : ∀ (P2 : (Int × St) → Prop) (Q2 : St → Prop), (∀ (x2 : Int) (σ1 : St), P2 ((x2, σ1)) → inr x2 → σ1.2.2.2 = σ.2.2.2 → Z κ (0, 0) (Qm κ ad σ enV okV X) 2 [(0, vo ad 0 (some 0)), (1, vo ad 9 (some 0)), (2, vi x2)] [] ad σ1) → (∀ (σ1 : St), Q2 (σ1) → σ1.2.2.2 = σ.2.2.2 → Z κ (0, 0) (Qm κ ad σ enV okV X) 46 [(0, vo ad 0 (some 0)), (1, vo ad 9 (some 0))] [] ad σ1) → ∀ (x2 : Int) (σ1 : St), inr x2 → σ1.2.2.2 = σ.2.2.2 → wpO (fX0_plan_l2 x2 σ1) (onS P2 Q2) → Z κ (0, 0) (Qm κ ad σ enV okV X) 2 [(0, vo ad 0 (some 0)), (1, vo ad 9 (some 0)), (2, vi x2)] [] ad σ1 := by
      intro P2 Q2 hP2 hE2_46 x2 σ1 hx2 eN1 h
      unfold fX0_plan_l2 at h
      refine z_rng (fun hI47 hJ48 => ?_)
      refine z_iload_n C 2 dX0_plan_2 rfl ?_
      refine z_aload_n C 0 dX0_plan_3 rfl ?_
      refine z_gIv (v := gI σ1 102 0 0) C li_X0_40 (sg_0 T) rfl dX0_plan_4 ?_
      refine z_icmp_ge C 46 hx2 (hI47 102 0 _) dX0_plan_7 (by decide) (fun q49 => ?_) (fun q49 => ?_)
      · have h := (wpO_ite.mp h).1 q49
        refine z_sub [0, 1] rfl ?_
        have h := wpO_some.mp h
        exact hE2_46 σ1 h eN1
      · have h := (wpO_ite.mp h).2 q49
        refine z_aload_n C 0 dX0_plan_10 rfl ?_
        refine z_gA T C li_X0_27 (sg_0 T) dX0_plan_11 ?_
        refine z_iload_n C 2 dX0_plan_14 rfl ?_
        obtain ⟨hb50, h⟩ := wpO_ck.mp h
        refine z_iav (v := gI σ1 106 0 x2.toNat) C ar_106 (sg_106 T) hx2 hb50 rfl dX0_plan_15 ?_
        refine z_istore_n (lv2 := [(3, vi (gI σ1 106 0 x2.toNat)), (0, vo ad 0 (some 0)), (1, vo ad 9 (some 0)), (2, vi x2)]) C dX0_plan_16 (by decide) rfl ?_
        refine z_aload_n C 1 dX0_plan_17 rfl ?_
        refine z_gA T C li_X0_30 (sg_0 T) dX0_plan_18 ?_
        refine z_iload_n C 3 dX0_plan_21 rfl ?_
        refine z_aload_n C 1 dX0_plan_22 rfl ?_
        refine z_aload_n C 2 dX0_plan_23 rfl ?_
        refine z_aload_n C 1 dX0_plan_24 rfl ?_
        refine z_gA T C li_X0_18 (sg_0 T) dX0_plan_25 ?_
        refine z_iload_n C 0 dX0_plan_28 rfl ?_
        obtain ⟨hb51, h⟩ := wpO_ck.mp h
        refine z_iav (v := gI σ1 103 0 ((gI σ1 106 0 x2.toNat).toNat)) C ar_103 (sg_103 T) (hI47 106 0 _) hb51 rfl dX0_plan_29 ?_
        refine z_aload_n C 1 dX0_plan_30 rfl ?_
        refine z_gA T C li_X0_21 (sg_0 T) dX0_plan_31 ?_
        refine z_iload_n C 0 dX0_plan_34 rfl ?_
        obtain ⟨hb52, h⟩ := wpO_ck.mp h
        refine z_iav (v := gI σ1 104 0 ((gI σ1 106 0 x2.toNat).toNat)) C ar_104 (sg_104 T) (hI47 106 0 _) hb52 rfl dX0_plan_35 ?_
        refine z_cV (st := [vi x2, vo ad 107 (some 0)]) T C (ct_X0_reachable (gI σ1 103 0 ((gI σ1 106 0 x2.toNat).toNat)) (gI σ1 104 0 ((gI σ1 106 0 x2.toNat).toNat)) (hI47 103 0 _) (hI47 104 0 _)) lm_X0_48 lv_vX0_reachable dX0_plan_36 [vo ad 9 (some 0), vi (gI σ1 103 0 ((gI σ1 106 0 x2.toNat).toNat)), vi (gI σ1 104 0 ((gI σ1 106 0 x2.toNat).toNat))] rfl rfl rfl rfl rfl (sg_0 T) trivial (by decide) (Nat.le_of_ble_eq_true rfl) csOK_0 h (fun r53 σ55 hr54 eN56 h => ?_)
        have eN57 := eN56.trans eN1
        show Z κ (0, 0) _ 39 _ [vi r53, vi x2, vo ad 107 (some 0)] ad σ55
        refine z_rng (fun hI58 hJ59 => ?_)
        obtain ⟨hb60, h⟩ := wpO_ck.mp h
        refine z_iastore C ar_107 (sg_107 T) hx2 hb60 hr54 dX0_plan_39 ?_
        obtain ⟨hk61, h⟩ := wpO_ck.mp h
        refine z_iinc (lv2 := [(2, vi (x2 + 1)), (3, vi (gI σ1 106 0 x2.toNat)), (0, vo ad 0 (some 0)), (1, vo ad 9 (some 0))]) C 3 dX0_plan_40 rfl (by decide) rfl ?_
        refine z_goto C 2 dX0_plan_43 (by decide) ?_
        refine z_sub [2, 3, 0] rfl ?_
        have h := wpO_some.mp h
        exact hP2 (x2 + 1) (sI σ55 107 0 x2.toNat r53) h hk61 eN57
    exact wh_ind (P := fun s : (Int × St) => inr s.1 → s.2.2.2.2 = σ.2.2.2 → Z κ (0, 0) (Qm κ ad σ enV okV X) 2 [(0, vo ad 0 (some 0)), (1, vo ad 9 (some 0)), (2, vi s.1)] [] ad s.2) (fun s hs g0 g1 => step _ _ (fun _ _ hp => hp) (fun σ1 hq eN1 => J46 σ1 eN1 hq) s.1 s.2 g0 g1 hs) ((x2, σ1)) (wpO_bnk.mp h) hx2 eN1
  show Z κ (0, 0) (Qm κ ad σ enV okV X) 0 [(0, vo ad 0 (some 0)), (1, vo ad 9 (some 0))] [] ad σ
  refine z_rng (fun hI62 hJ63 => ?_)
  refine z_iconst C dX0_plan_0 ?_
  refine z_istore_n (lv2 := [(2, vi 0), (0, vo ad 0 (some 0)), (1, vo ad 9 (some 0))]) C dX0_plan_1 (by decide) rfl ?_
  refine z_sub [1, 2, 0] rfl ?_
  exact J2 0 σ (by decide) rfl h
noncomputable def fX0_station (x1 : Int) (x2 : Int) (x3 : Int) (σ : St) : Option (Unit × St) :=
  ck (0 ≤ x1 ∧ x1 < 4) (ck (0 ≤ x1 ∧ x1 < 4) (some ((), sI (sI σ 100 0 x1.toNat x2) 101 0 x1.toNat x3)))
set_option maxRecDepth 20000 in
set_option maxHeartbeats 4000000 in
theorem ct_X0_station (x1 : Int) (x2 : Int) (x3 : Int) (hx1 : inr x1) (hx2 : inr x2) (hx3 : inr x3) : Ct yX0_station cX0_station 4 none 0 (fun ad => [vo ad 0 (some 0), vi x1, vi x2, vi x3]) (fX0_station x1 x2 x3) enV okV (fun _ => True) := by
  refine Ct.of (by decide) (fun ad => Nat.le_of_ble_eq_true rfl) ?_
  intro κ ad σ X C T hpre h
  have C : Cx κ RX0 cX0_station 4 none 0 := C
  unfold fX0_station at h
  show Z κ (0, 0) (Qm κ ad σ enV okV X) 0 [(0, vo ad 0 (some 0)), (1, vi x1), (2, vi x2), (3, vi x3)] [] ad σ
  refine z_rng (fun hI1 hJ2 => ?_)
  refine z_aload_n C 0 dX0_station_0 rfl ?_
  refine z_gA T C li_X0_9 (sg_0 T) dX0_station_1 ?_
  refine z_iload_n C 1 dX0_station_4 rfl ?_
  refine z_iload_n C 2 dX0_station_5 rfl ?_
  obtain ⟨hb3, h⟩ := wpO_ck.mp h
  refine z_iastore C ar_100 (sg_100 T) hx1 hb3 hx2 dX0_station_6 ?_
  refine z_aload_n C 0 dX0_station_7 rfl ?_
  refine z_gA T C li_X0_15 (sg_0 T) dX0_station_8 ?_
  refine z_iload_n C 1 dX0_station_11 rfl ?_
  refine z_iload_n C 3 dX0_station_12 rfl ?_
  obtain ⟨hb4, h⟩ := wpO_ck.mp h
  refine z_iastore C ar_101 (sg_101 T) hx1 hb4 hx3 dX0_station_13 ?_
  have h := wpO_some.mp h
  exact z_return T C dX0_station_14 rfl h
noncomputable def fX11_within (x0 : Int) (x1 : Int) (x2 : Int) : Option Int :=
  if x0 < x1 then (some 0) else (if x2 < x0 then (some 0) else (some 1))
set_option maxRecDepth 20000 in
set_option maxHeartbeats 4000000 in
theorem ct_X11_within (x0 : Int) (x1 : Int) (x2 : Int) (hx0 : inr x0) (hx1 : inr x1) (hx2 : inr x2) : Ct yX11_within cX11_within 3 (some .boolean) 0 (fun ad => [vi x0, vi x1, vi x2]) (pu (fun _ => fX11_within x0 x1 x2)) enI okB (fun _ => True) := by
  refine Ct.of (by decide) (fun ad => Nat.le_of_ble_eq_true rfl) ?_
  intro κ ad σ X C T hpre h
  have C : Cx κ RX11 cX11_within 3 (some .boolean) 0 := C
  have h := wpO_pu.mp h
  unfold fX11_within at h
  show Z κ (0, 0) (Qm κ ad σ enI okB X) 0 [(0, vi x0), (1, vi x1), (2, vi x2)] [] ad σ
  refine z_iload_n C 0 dX11_within_0 rfl ?_
  refine z_iload_n C 1 dX11_within_1 rfl ?_
  refine z_icmp_lt C 14 hx0 hx1 dX11_within_2 (by decide) (fun q1 => ?_) (fun q1 => ?_)
  · have h := (wpO_ite.mp h).1 q1
    refine z_iconst C dX11_within_14 ?_
    have h := wpO_some.mp h
    exact z_breturn T C dX11_within_15 (by decide) rfl h
  · have h := (wpO_ite.mp h).2 q1
    refine z_iload_n C 0 dX11_within_5 rfl ?_
    refine z_iload_n C 2 dX11_within_6 rfl ?_
    refine z_icmp_gt C 14 hx0 hx2 dX11_within_7 (by decide) (fun q2 => ?_) (fun q2 => ?_)
    · have h := (wpO_ite.mp h).1 q2
      refine z_iconst C dX11_within_14 ?_
      have h := wpO_some.mp h
      exact z_breturn T C dX11_within_15 (by decide) rfl h
    · have h := (wpO_ite.mp h).2 q2
      refine z_iconst C dX11_within_10 ?_
      refine z_goto C 15 dX11_within_11 (by decide) ?_
      have h := wpO_some.mp h
      exact z_breturn T C dX11_within_15 (by decide) rfl h
noncomputable def fX11_shotNumbered (x1 : Int) (σ : St) : Option (Option Nat) :=
  ck (inr ((gI σ 1204 0 0) - 1)) (bnk (fX11_within x1 0 ((gI σ 1204 0 0) - 1)) (fun r4 => if r4 = 0 then (some none) else (ck (0 ≤ x1 ∧ x1 < 40) (lt (gP σ 1203 0 x1.toNat) (fun r8 => some r8)))))
set_option maxRecDepth 20000 in
set_option maxHeartbeats 4000000 in
theorem ct_X11_shotNumbered (x1 : Int) (hx1 : inr x1) : Ct yX11_shotNumbered cX11_shotNumbered 2 (some (.object RX7)) 1 (fun ad => [vo ad 11 (some 0), vi x1]) (pu (fX11_shotNumbered x1)) (enR 7) okR (fun _ => True) := by
  refine Ct.of (by decide) (fun ad => Nat.le_of_ble_eq_true rfl) ?_
  intro κ ad σ X C T hpre h
  have C : Cx κ RX11 cX11_shotNumbered 2 (some (.object RX7)) 1 := C
  have h := wpO_pu.mp h
  unfold fX11_shotNumbered at h
  show Z κ (0, 0) (Qm κ ad σ (enR 7) okR X) 0 [(0, vo ad 11 (some 0)), (1, vi x1)] [] ad σ
  refine z_rng (fun hI1 hJ2 => ?_)
  refine z_iload_n C 1 dX11_shotNumbered_0 rfl ?_
  refine z_iconst C dX11_shotNumbered_1 ?_
  refine z_aload_n C 0 dX11_shotNumbered_2 rfl ?_
  refine z_gIv (v := gI σ 1204 0 0) C li_X11_131 (sg_11 T) rfl dX11_shotNumbered_3 ?_
  refine z_iconst C dX11_shotNumbered_6 ?_
  obtain ⟨hk3, h⟩ := wpO_ck.mp h
  refine z_isub C dX11_shotNumbered_7 ?_
  refine z_cSp (st := []) T C (ct_X11_within x1 0 ((gI σ 1204 0 0) - 1) hx1 (by decide) hk3) lm_X11_83 ls_X11_within dX11_shotNumbered_8 rfl rfl trivial (by decide) (Nat.le_of_ble_eq_true rfl) csOK_0 h (fun r4 hr5 h => ?_)
  show Z κ (0, 0) _ 11 _ [vi r4] ad σ
  refine z_if_eq C 23 (inr_b hr5) dX11_shotNumbered_11 (by decide) (fun q6 => ?_) (fun q6 => ?_)
  · have h := (wpO_ite.mp h).1 q6
    refine z_null (K := 7) C dX11_shotNumbered_23 ?_
    have h := wpO_some.mp h
    exact z_areturn T C dX11_shotNumbered_24 rfl h
  · have h := (wpO_ite.mp h).2 q6
    refine z_aload_n C 0 dX11_shotNumbered_14 rfl ?_
    refine z_gA T C li_X11_25 (sg_11 T) dX11_shotNumbered_15 ?_
    refine z_iload_n C 1 dX11_shotNumbered_18 rfl ?_
    obtain ⟨hb7, h⟩ := wpO_ck.mp h
    refine z_aald (K := 7) (t0 := 4) C ar_1203 (fun _ => rfl) (sg_1203 T) hx1 hb7 dX11_shotNumbered_19 (fun r8 hr9 => ?_)
    have h := lt_elim h r8 hr9
    refine z_goto C 24 dX11_shotNumbered_20 (by decide) ?_
    have h := wpO_some.mp h
    exact z_areturn T C dX11_shotNumbered_24 rfl h
noncomputable def fX11_about (x1 : Int) (x2 : Int) (σ : St) : Option Int :=
  bnk (fX11_shotNumbered x1 σ) (fun r3 => mop r3 (fun j5 => ck (j5 < gN σ 7) (if x2 = 0 then (some (gI σ 801 j5 0)) else (if x2 = 1 then (some (gI σ 802 j5 0)) else (if x2 = 2 then (some (gI σ 803 j5 0)) else (if x2 = 3 then (some (gI σ 804 j5 0)) else (if x2 = 4 then (some (gI σ 805 j5 0)) else (if x2 = 5 then (some (gI σ 806 j5 0)) else (some ((-2)))))))))) (some ((-1))))
set_option maxRecDepth 20000 in
set_option maxHeartbeats 4000000 in
theorem ct_X11_about (x1 : Int) (x2 : Int) (hx1 : inr x1) (hx2 : inr x2) : Ct yX11_about cX11_about 4 (some .int) 2 (fun ad => [vo ad 11 (some 0), vi x1, vi x2]) (pu (fX11_about x1 x2)) enI okI (fun _ => True) := by
  refine Ct.of (by decide) (fun ad => Nat.le_of_ble_eq_true rfl) ?_
  intro κ ad σ X C T hpre h
  have C : Cx κ RX11 cX11_about 4 (some .int) 2 := C
  have h := wpO_pu.mp h
  unfold fX11_about at h
  show Z κ (0, 0) (Qm κ ad σ enI okI X) 0 [(0, vo ad 11 (some 0)), (1, vi x1), (2, vi x2)] [] ad σ
  refine z_rng (fun hI1 hJ2 => ?_)
  refine z_aload_n C 0 dX11_about_0 rfl ?_
  refine z_iload_n C 1 dX11_about_1 rfl ?_
  refine z_cVp (st := []) T C (ct_X11_shotNumbered x1 hx1) lm_X11_144 lv_vX11_shotNumbered dX11_about_2 [vi x1] rfl rfl rfl rfl rfl (sg_11 T) trivial (by decide) (Nat.le_of_ble_eq_true rfl) csOK_0 h (fun r3 hr4 h => ?_)
  show Z κ (0, 0) _ 5 _ [vo ad 7 r3] ad σ
  refine z_astore_n (lv2 := [(3, vo ad 7 r3), (0, vo ad 11 (some 0)), (1, vi x1), (2, vi x2)]) C dX11_about_5 (by decide) rfl ?_
  refine z_aload_n C 0 dX11_about_6 rfl ?_
  refine z_ifnonnull C 12 dX11_about_7 (by decide) (fun j5 hr6 => ?_) (fun hr6 => ?_)
  · have h := (wpO_mop.mp h).1 j5 hr6
    subst hr6
    obtain ⟨hj7, h⟩ := wpO_ck.mp h
    refine z_iload_n C 3 dX11_about_12 rfl ?_
    by_cases q8 : x2 = 0
    · have h := (wpO_ite.mp h).1 q8
      refine z_tableIn (off := 39) C 52 hx2 dX11_about_13 (by omega) (by omega) (by rw [q8]; rfl) (by decide) ?_
      refine z_aload_n C 0 dX11_about_52 rfl ?_
      refine z_gIv (v := gI σ 801 j5 0) C li_X11_148 (nN rfl (toN rfl hj7)) rfl dX11_about_53 ?_
      have h := wpO_some.mp h
      exact z_ireturn T C dX11_about_56 (hI1 801 j5 _) rfl h
    have h := (wpO_ite.mp h).2 q8
    by_cases q9 : x2 = 1
    · have h := (wpO_ite.mp h).1 q9
      refine z_tableIn (off := 44) C 57 hx2 dX11_about_13 (by omega) (by omega) (by rw [q9]; rfl) (by decide) ?_
      refine z_aload_n C 0 dX11_about_57 rfl ?_
      refine z_gIv (v := gI σ 802 j5 0) C li_X11_151 (nN rfl (toN rfl hj7)) rfl dX11_about_58 ?_
      have h := wpO_some.mp h
      exact z_ireturn T C dX11_about_61 (hI1 802 j5 _) rfl h
    have h := (wpO_ite.mp h).2 q9
    by_cases q10 : x2 = 2
    · have h := (wpO_ite.mp h).1 q10
      refine z_tableIn (off := 49) C 62 hx2 dX11_about_13 (by omega) (by omega) (by rw [q10]; rfl) (by decide) ?_
      refine z_aload_n C 0 dX11_about_62 rfl ?_
      refine z_gIv (v := gI σ 803 j5 0) C li_X11_154 (nN rfl (toN rfl hj7)) rfl dX11_about_63 ?_
      have h := wpO_some.mp h
      exact z_ireturn T C dX11_about_66 (hI1 803 j5 _) rfl h
    have h := (wpO_ite.mp h).2 q10
    by_cases q11 : x2 = 3
    · have h := (wpO_ite.mp h).1 q11
      refine z_tableIn (off := 54) C 67 hx2 dX11_about_13 (by omega) (by omega) (by rw [q11]; rfl) (by decide) ?_
      refine z_aload_n C 0 dX11_about_67 rfl ?_
      refine z_gIv (v := gI σ 804 j5 0) C li_X11_157 (nN rfl (toN rfl hj7)) rfl dX11_about_68 ?_
      have h := wpO_some.mp h
      exact z_ireturn T C dX11_about_71 (hI1 804 j5 _) rfl h
    have h := (wpO_ite.mp h).2 q11
    by_cases q12 : x2 = 4
    · have h := (wpO_ite.mp h).1 q12
      refine z_tableIn (off := 59) C 72 hx2 dX11_about_13 (by omega) (by omega) (by rw [q12]; rfl) (by decide) ?_
      refine z_aload_n C 0 dX11_about_72 rfl ?_
      refine z_gIv (v := gI σ 805 j5 0) C li_X11_160 (nN rfl (toN rfl hj7)) rfl dX11_about_73 ?_
      have h := wpO_some.mp h
      exact z_ireturn T C dX11_about_76 (hI1 805 j5 _) rfl h
    have h := (wpO_ite.mp h).2 q12
    by_cases q13 : x2 = 5
    · have h := (wpO_ite.mp h).1 q13
      refine z_tableIn (off := 64) C 77 hx2 dX11_about_13 (by omega) (by omega) (by rw [q13]; rfl) (by decide) ?_
      refine z_aload_n C 0 dX11_about_77 rfl ?_
      refine z_gIv (v := gI σ 806 j5 0) C li_X11_163 (nN rfl (toN rfl hj7)) rfl dX11_about_78 ?_
      have h := wpO_some.mp h
      exact z_ireturn T C dX11_about_81 (hI1 806 j5 _) rfl h
    have h := (wpO_ite.mp h).2 q13
    refine z_tableOut C 82 hx2 dX11_about_13 (by omega) (by decide) ?_
    refine z_bipush C dX11_about_82 (by decide) ?_
    have h := wpO_some.mp h
    exact z_ireturn T C dX11_about_84 (by decide) rfl h
  · have h := (wpO_mop.mp h).2 hr6
    subst hr6
    refine z_iconst C dX11_about_10 ?_
    have h := wpO_some.mp h
    exact z_ireturn T C dX11_about_11 (by decide) rfl h
noncomputable def fX11_age (x1 : Int) (σ : St) : Option (Int × St) :=
  bnk (fX11_within x1 0 400) (fun r3 => if r3 = 0 then (some ((-2), σ)) else (some (gI σ 1207 0 0, sI σ 1207 0 0 x1)))
set_option maxRecDepth 20000 in
set_option maxHeartbeats 4000000 in
theorem ct_X11_age (x1 : Int) (hx1 : inr x1) : Ct yX11_age cX11_age 3 (some .int) 1 (fun ad => [vo ad 11 (some 0), vi x1]) (fX11_age x1) enI okI (fun _ => True) := by
  refine Ct.of (by decide) (fun ad => Nat.le_of_ble_eq_true rfl) ?_
  intro κ ad σ X C T hpre h
  have C : Cx κ RX11 cX11_age 3 (some .int) 1 := C
  unfold fX11_age at h
  show Z κ (0, 0) (Qm κ ad σ enI okI X) 0 [(0, vo ad 11 (some 0)), (1, vi x1)] [] ad σ
  refine z_rng (fun hI1 hJ2 => ?_)
  refine z_iload_n C 1 dX11_age_0 rfl ?_
  refine z_iconst C dX11_age_1 ?_
  refine z_sipush C dX11_age_2 (by decide) ?_
  refine z_cSp (st := []) T C (ct_X11_within x1 0 400 hx1 (by decide) (by decide)) lm_X11_83 ls_X11_within dX11_age_5 rfl rfl trivial (by decide) (Nat.le_of_ble_eq_true rfl) csOK_0 h (fun r3 hr4 h => ?_)
  show Z κ (0, 0) _ 8 _ [vi r3] ad σ
  refine z_if_ne C 14 (inr_b hr4) dX11_age_8 (by decide) (fun q5 => ?_) (fun q5 => ?_)
  · have h := (wpO_ite.mp h).2 q5
    refine z_aload_n C 0 dX11_age_14 rfl ?_
    refine z_gIv (v := gI σ 1207 0 0) C li_X11_35 (sg_11 T) rfl dX11_age_15 ?_
    refine z_istore_n (lv2 := [(2, vi (gI σ 1207 0 0)), (0, vo ad 11 (some 0)), (1, vi x1)]) C dX11_age_18 (by decide) rfl ?_
    refine z_aload_n C 1 dX11_age_19 rfl ?_
    refine z_iload_n C 2 dX11_age_20 rfl ?_
    refine z_pI C lq_X11_35 (sg_11 T) hx1 dX11_age_21 ?_
    refine z_iload_n C 0 dX11_age_24 rfl ?_
    have h := wpO_some.mp h
    exact z_ireturn T C dX11_age_25 (hI1 1207 0 _) rfl h
  · have h := (wpO_ite.mp h).1 q5
    refine z_bipush C dX11_age_11 (by decide) ?_
    have h := wpO_some.mp h
    exact z_ireturn T C dX11_age_13 (by decide) rfl h
noncomputable def fX11_storyNumbered (x1 : Int) (σ : St) : Option (Option Nat) :=
  ck (inr ((gI σ 1206 0 0) - 1)) (bnk (fX11_within x1 0 ((gI σ 1206 0 0) - 1)) (fun r4 => if r4 = 0 then (some none) else (ck (0 ≤ x1 ∧ x1 < 8) (lt (gP σ 1205 0 x1.toNat) (fun r8 => some r8)))))
set_option maxRecDepth 20000 in
set_option maxHeartbeats 4000000 in
theorem ct_X11_storyNumbered (x1 : Int) (hx1 : inr x1) : Ct yX11_storyNumbered cX11_storyNumbered 2 (some (.object RX8)) 1 (fun ad => [vo ad 11 (some 0), vi x1]) (pu (fX11_storyNumbered x1)) (enR 8) okR (fun _ => True) := by
  refine Ct.of (by decide) (fun ad => Nat.le_of_ble_eq_true rfl) ?_
  intro κ ad σ X C T hpre h
  have C : Cx κ RX11 cX11_storyNumbered 2 (some (.object RX8)) 1 := C
  have h := wpO_pu.mp h
  unfold fX11_storyNumbered at h
  show Z κ (0, 0) (Qm κ ad σ (enR 8) okR X) 0 [(0, vo ad 11 (some 0)), (1, vi x1)] [] ad σ
  refine z_rng (fun hI1 hJ2 => ?_)
  refine z_iload_n C 1 dX11_storyNumbered_0 rfl ?_
  refine z_iconst C dX11_storyNumbered_1 ?_
  refine z_aload_n C 0 dX11_storyNumbered_2 rfl ?_
  refine z_gIv (v := gI σ 1206 0 0) C li_X11_200 (sg_11 T) rfl dX11_storyNumbered_3 ?_
  refine z_iconst C dX11_storyNumbered_6 ?_
  obtain ⟨hk3, h⟩ := wpO_ck.mp h
  refine z_isub C dX11_storyNumbered_7 ?_
  refine z_cSp (st := []) T C (ct_X11_within x1 0 ((gI σ 1206 0 0) - 1) hx1 (by decide) hk3) lm_X11_83 ls_X11_within dX11_storyNumbered_8 rfl rfl trivial (by decide) (Nat.le_of_ble_eq_true rfl) csOK_0 h (fun r4 hr5 h => ?_)
  show Z κ (0, 0) _ 11 _ [vi r4] ad σ
  refine z_if_eq C 23 (inr_b hr5) dX11_storyNumbered_11 (by decide) (fun q6 => ?_) (fun q6 => ?_)
  · have h := (wpO_ite.mp h).1 q6
    refine z_null (K := 8) C dX11_storyNumbered_23 ?_
    have h := wpO_some.mp h
    exact z_areturn T C dX11_storyNumbered_24 rfl h
  · have h := (wpO_ite.mp h).2 q6
    refine z_aload_n C 0 dX11_storyNumbered_14 rfl ?_
    refine z_gA T C li_X11_31 (sg_11 T) dX11_storyNumbered_15 ?_
    refine z_iload_n C 1 dX11_storyNumbered_18 rfl ?_
    obtain ⟨hb7, h⟩ := wpO_ck.mp h
    refine z_aald (K := 8) (t0 := 5) C ar_1205 (fun _ => rfl) (sg_1205 T) hx1 hb7 dX11_storyNumbered_19 (fun r8 hr9 => ?_)
    have h := lt_elim h r8 hr9
    refine z_goto C 24 dX11_storyNumbered_20 (by decide) ?_
    have h := wpO_some.mp h
    exact z_areturn T C dX11_storyNumbered_24 rfl h
noncomputable def fX11_isLand (x0 : Int) : Option Int :=
  bnk (fX11_within x0 0 4) (fun r1 => some r1)
set_option maxRecDepth 20000 in
set_option maxHeartbeats 4000000 in
theorem ct_X11_isLand (x0 : Int) (hx0 : inr x0) : Ct yX11_isLand cX11_isLand 1 (some .boolean) 1 (fun ad => [vi x0]) (pu (fun _ => fX11_isLand x0)) enI okB (fun _ => True) := by
  refine Ct.of (by decide) (fun ad => Nat.le_of_ble_eq_true rfl) ?_
  intro κ ad σ X C T hpre h
  have C : Cx κ RX11 cX11_isLand 1 (some .boolean) 1 := C
  have h := wpO_pu.mp h
  unfold fX11_isLand at h
  show Z κ (0, 0) (Qm κ ad σ enI okB X) 0 [(0, vi x0)] [] ad σ
  refine z_iload_n C 0 dX11_isLand_0 rfl ?_
  refine z_iconst C dX11_isLand_1 ?_
  refine z_iconst C dX11_isLand_2 ?_
  refine z_cSp (st := []) T C (ct_X11_within x0 0 4 hx0 (by decide) (by decide)) lm_X11_83 ls_X11_within dX11_isLand_3 rfl rfl trivial (by decide) (Nat.le_of_ble_eq_true rfl) csOK_0 h (fun r1 hr2 h => ?_)
  show Z κ (0, 0) _ 6 _ [vi r1] ad σ
  have h := wpO_some.mp h
  exact z_breturn T C dX11_isLand_6 hr2 rfl h
noncomputable def fX11_isDay (x0 : Int) : Option Int :=
  bnk (fX11_within x0 0 416) (fun r1 => some r1)
set_option maxRecDepth 20000 in
set_option maxHeartbeats 4000000 in
theorem ct_X11_isDay (x0 : Int) (hx0 : inr x0) : Ct yX11_isDay cX11_isDay 1 (some .boolean) 1 (fun ad => [vi x0]) (pu (fun _ => fX11_isDay x0)) enI okB (fun _ => True) := by
  refine Ct.of (by decide) (fun ad => Nat.le_of_ble_eq_true rfl) ?_
  intro κ ad σ X C T hpre h
  have C : Cx κ RX11 cX11_isDay 1 (some .boolean) 1 := C
  have h := wpO_pu.mp h
  unfold fX11_isDay at h
  show Z κ (0, 0) (Qm κ ad σ enI okB X) 0 [(0, vi x0)] [] ad σ
  refine z_iload_n C 0 dX11_isDay_0 rfl ?_
  refine z_iconst C dX11_isDay_1 ?_
  refine z_sipush C dX11_isDay_2 (by decide) ?_
  refine z_cSp (st := []) T C (ct_X11_within x0 0 416 hx0 (by decide) (by decide)) lm_X11_83 ls_X11_within dX11_isDay_5 rfl rfl trivial (by decide) (Nat.le_of_ble_eq_true rfl) csOK_0 h (fun r1 hr2 h => ?_)
  show Z κ (0, 0) _ 8 _ [vi r1] ad σ
  have h := wpO_some.mp h
  exact z_breturn T C dX11_isDay_8 hr2 rfl h
noncomputable def fX5_serves (x0 : Nat) (x1 : Int) (x2 : Int) (x3 : Int) (σ : St) : Option Int :=
  if gI σ 600 x0 0 = x1 then (bnk (fX11_hasMember (gI σ 601 x0 0) x2) (fun r4 => if r4 = 0 then (some 0) else (bnk (fX11_within x3 (gI σ 602 x0 0) (gI σ 603 x0 0)) (fun r7 => if r7 = 0 then (some 0) else (if gI σ 604 x0 0 ≤ 0 then (some 0) else (some 1)))))) else (some 0)
set_option maxRecDepth 20000 in
set_option maxHeartbeats 4000000 in
theorem ct_X5_serves (x0 : Nat) (x1 : Int) (x2 : Int) (x3 : Int) (hx1 : inr x1) (hx2 : inr x2) (hx3 : inr x3) : Ct yX5_serves cX5_serves 4 (some .boolean) 1 (fun ad => [vo ad 5 (some x0), vi x1, vi x2, vi x3]) (pu (fX5_serves x0 x1 x2 x3)) enI okB (fun σ => x0 < gN σ 5) := by
  refine Ct.of (by decide) (fun ad => Nat.le_of_ble_eq_true rfl) ?_
  intro κ ad σ X C T hpre h
  have C : Cx κ RX5 cX5_serves 4 (some .boolean) 1 := C
  have h := wpO_pu.mp h
  have hx0 : x0 < gN σ 5 := hpre
  unfold fX5_serves at h
  show Z κ (0, 0) (Qm κ ad σ enI okB X) 0 [(0, vo ad 5 (some x0)), (1, vi x1), (2, vi x2), (3, vi x3)] [] ad σ
  refine z_rng (fun hI1 hJ2 => ?_)
  refine z_aload_n C 0 dX5_serves_0 rfl ?_
  refine z_gIv (v := gI σ 600 x0 0) C li_X5_7 (nN rfl hx0) rfl dX5_serves_1 ?_
  refine z_iload_n C 1 dX5_serves_4 rfl ?_
  refine z_icmp_ne C 45 (hI1 600 x0 _) hx1 dX5_serves_5 (by decide) (fun q3 => ?_) (fun q3 => ?_)
  · have h := (wpO_ite.mp h).2 q3
    refine z_iconst C dX5_serves_45 ?_
    have h := wpO_some.mp h
    exact z_breturn T C dX5_serves_46 (by decide) rfl h
  · have h := (wpO_ite.mp h).1 q3
    refine z_aload_n C 0 dX5_serves_8 rfl ?_
    refine z_gIv (v := gI σ 601 x0 0) C li_X5_13 (nN rfl hx0) rfl dX5_serves_9 ?_
    refine z_iload_n C 2 dX5_serves_12 rfl ?_
    refine z_cSp (st := []) T C (ct_X11_hasMember (gI σ 601 x0 0) x2 (hI1 601 x0 _) hx2) lm_X5_25 ls_X11_hasMember dX5_serves_13 rfl rfl trivial (by decide) (Nat.le_of_ble_eq_true rfl) csOK_0 h (fun r4 hr5 h => ?_)
    show Z κ (0, 0) _ 16 _ [vi r4] ad σ
    refine z_if_eq C 45 (inr_b hr5) dX5_serves_16 (by decide) (fun q6 => ?_) (fun q6 => ?_)
    · have h := (wpO_ite.mp h).1 q6
      refine z_iconst C dX5_serves_45 ?_
      have h := wpO_some.mp h
      exact z_breturn T C dX5_serves_46 (by decide) rfl h
    · have h := (wpO_ite.mp h).2 q6
      refine z_iload_n C 3 dX5_serves_19 rfl ?_
      refine z_aload_n C 0 dX5_serves_20 rfl ?_
      refine z_gIv (v := gI σ 602 x0 0) C li_X5_16 (nN rfl hx0) rfl dX5_serves_21 ?_
      refine z_aload_n C 0 dX5_serves_24 rfl ?_
      refine z_gIv (v := gI σ 603 x0 0) C li_X5_19 (nN rfl hx0) rfl dX5_serves_25 ?_
      refine z_cSp (st := []) T C (ct_X11_within x3 (gI σ 602 x0 0) (gI σ 603 x0 0) hx3 (hI1 602 x0 _) (hI1 603 x0 _)) lm_X5_31 ls_X11_within dX5_serves_28 rfl rfl trivial (by decide) (Nat.le_of_ble_eq_true rfl) csOK_0 h (fun r7 hr8 h => ?_)
      show Z κ (0, 0) _ 31 _ [vi r7] ad σ
      refine z_if_eq C 45 (inr_b hr8) dX5_serves_31 (by decide) (fun q9 => ?_) (fun q9 => ?_)
      · have h := (wpO_ite.mp h).1 q9
        refine z_iconst C dX5_serves_45 ?_
        have h := wpO_some.mp h
        exact z_breturn T C dX5_serves_46 (by decide) rfl h
      · have h := (wpO_ite.mp h).2 q9
        refine z_aload_n C 0 dX5_serves_34 rfl ?_
        refine z_gIv (v := gI σ 604 x0 0) C li_X5_22 (nN rfl hx0) rfl dX5_serves_35 ?_
        refine z_if_le C 45 (hI1 604 x0 _) dX5_serves_38 (by decide) (fun q10 => ?_) (fun q10 => ?_)
        · have h := (wpO_ite.mp h).1 q10
          refine z_iconst C dX5_serves_45 ?_
          have h := wpO_some.mp h
          exact z_breturn T C dX5_serves_46 (by decide) rfl h
        · have h := (wpO_ite.mp h).2 q10
          refine z_iconst C dX5_serves_41 ?_
          refine z_goto C 46 dX5_serves_42 (by decide) ?_
          have h := wpO_some.mp h
          exact z_breturn T C dX5_serves_46 (by decide) rfl h
noncomputable def fX11_firstRight_j42 (σ : St) : Option (Option Nat) :=
  some none
noncomputable def fX11_firstRight_j28 (x4 : Int) (σ : St) : Option (Option Nat) :=
  ck (0 ≤ x4 ∧ x4 < 8) (lt (gP σ 1213 0 x4.toNat) (fun r6 => some r6))
noncomputable def fX11_firstRight_l3 (x1 : Int) (x2 : Int) (x3 : Int) (σ : St) (x4 : Int) : Option (Int ⊕ (Int ⊕ Unit)) :=
  if gI σ 1214 0 0 ≤ x4 then (some (.inr (.inr (())))) else (ck (0 ≤ x4 ∧ x4 < 8) (lt (gP σ 1213 0 x4.toNat) (fun r12 => mop r12 (fun j14 => ck (j14 < gN σ 5) (bnk (fX5_serves j14 x1 x2 x3 σ) (fun r17 => if r17 = 0 then (ck (inr (x4 + 1)) (some (.inl (x4 + 1)))) else (some (.inr (.inl x4)))))) none)))
noncomputable def fX11_firstRight_j3 (x1 : Int) (x2 : Int) (x3 : Int) (x4 : Int) (σ : St) : Option (Option Nat) :=
  bnk (wh (fun s => fX11_firstRight_l3 x1 x2 x3 σ s) x4) (fun e => Sum.elim (fun a0 => fX11_firstRight_j28 a0 σ) (fun b0 => fX11_firstRight_j42 σ) e)
noncomputable def fX11_firstRight (x1 : Int) (x2 : Int) (x3 : Int) (σ : St) : Option (Option Nat) :=
  fX11_firstRight_j3 x1 x2 x3 0 σ
set_option maxRecDepth 20000 in
set_option maxHeartbeats 4000000 in
theorem ct_X11_firstRight (x1 : Int) (x2 : Int) (x3 : Int) (hx1 : inr x1) (hx2 : inr x2) (hx3 : inr x3) : Ct yX11_firstRight cX11_firstRight 5 (some (.object RX5)) 2 (fun ad => [vo ad 11 (some 0), vi x1, vi x2, vi x3]) (pu (fX11_firstRight x1 x2 x3)) (enR 5) okR (fun _ => True) := by
  refine Ct.of (by decide) (fun ad => Nat.le_of_ble_eq_true rfl) ?_
  intro κ ad σ X C T hpre h
  have C : Cx κ RX11 cX11_firstRight 5 (some (.object RX5)) 2 := C
  have h := wpO_pu.mp h
  unfold fX11_firstRight at h
  have J42 : wpO (fX11_firstRight_j42 σ) (fun r => X r σ) → Z κ (0, 0) (Qm κ ad σ (enR 5) okR X) 42 [] [] ad σ := by
    intro h
    unfold fX11_firstRight_j42 at h
    refine z_rng (fun hI1 hJ2 => ?_)
    refine z_null (K := 5) C dX11_firstRight_42 ?_
    have h := wpO_some.mp h
    exact z_areturn T C dX11_firstRight_43 rfl h
  have J28 : ∀ (x4 : Int), inr x4 → wpO (fX11_firstRight_j28 x4 σ) (fun r => X r σ) → Z κ (0, 0) (Qm κ ad σ (enR 5) okR X) 28 [(0, vo ad 11 (some 0)), (4, vi x4)] [] ad σ := by
    intro x4 hx4 h
    unfold fX11_firstRight_j28 at h
    refine z_rng (fun hI3 hJ4 => ?_)
    refine z_aload_n C 0 dX11_firstRight_28 rfl ?_
    refine z_gA T C li_X11_58 (sg_11 T) dX11_firstRight_29 ?_
    refine z_iload C 1 dX11_firstRight_32 rfl ?_
    obtain ⟨hb5, h⟩ := wpO_ck.mp h
    refine z_aald (K := 5) (t0 := 7) C ar_1213 (fun _ => rfl) (sg_1213 T) hx4 hb5 dX11_firstRight_34 (fun r6 hr7 => ?_)
    have h := lt_elim h r6 hr7
    have h := wpO_some.mp h
    exact z_areturn T C dX11_firstRight_35 rfl h
  have J3 : ∀ (x1 : Int) (x2 : Int) (x3 : Int) (x4 : Int), inr x1 → inr x2 → inr x3 → inr x4 → wpO (fX11_firstRight_j3 x1 x2 x3 x4 σ) (fun r => X r σ) → Z κ (0, 0) (Qm κ ad σ (enR 5) okR X) 3 [(0, vo ad 11 (some 0)), (1, vi x1), (2, vi x2), (3, vi x3), (4, vi x4)] [] ad σ := by
    intro x1 x2 x3 x4 hx1 hx2 hx3 hx4 h
    unfold fX11_firstRight_j3 at h
    have step : ∀ (P3 : Int → Prop) (Q3 : (Int ⊕ Unit) → Prop), (∀ (x4 : Int), P3 x4 → inr x4 → Z κ (0, 0) (Qm κ ad σ (enR 5) okR X) 3 [(0, vo ad 11 (some 0)), (1, vi x1), (2, vi x2), (3, vi x3), (4, vi x4)] [] ad σ) → (∀ (x4 : Int), Q3 (.inl x4) → inr x4 → Z κ (0, 0) (Qm κ ad σ (enR 5) okR X) 28 [(0, vo ad 11 (some 0)), (4, vi x4)] [] ad σ) → (Q3 (.inr (())) → Z κ (0, 0) (Qm κ ad σ (enR 5) okR X) 42 [] [] ad σ) → ∀ (x4 : Int), inr x4 → wpO (fX11_firstRight_l3 x1 x2 x3 σ x4) (onS P3 Q3) → Z κ (0, 0) (Qm κ ad σ (enR 5) okR X) 3 [(0, vo ad 11 (some 0)), (1, vi x1), (2, vi x2), (3, vi x3), (4, vi x4)] [] ad σ := by
      intro P3 Q3 hP3 hE3_28 hE3_42 x4 hx4 h
      unfold fX11_firstRight_l3 at h
      refine z_rng (fun hI8 hJ9 => ?_)
      refine z_iload C 4 dX11_firstRight_3 rfl ?_
      refine z_aload_n C 0 dX11_firstRight_5 rfl ?_
      refine z_gIv (v := gI σ 1214 0 0) C li_X11_298 (sg_11 T) rfl dX11_firstRight_6 ?_
      refine z_icmp_ge C 42 hx4 (hI8 1214 0 _) dX11_firstRight_9 (by decide) (fun q10 => ?_) (fun q10 => ?_)
      · have h := (wpO_ite.mp h).1 q10
        refine z_sub [] rfl ?_
        have h := wpO_some.mp h
        exact hE3_42 h
      · have h := (wpO_ite.mp h).2 q10
        refine z_aload_n C 0 dX11_firstRight_12 rfl ?_
        refine z_gA T C li_X11_58 (sg_11 T) dX11_firstRight_13 ?_
        refine z_iload C 4 dX11_firstRight_16 rfl ?_
        obtain ⟨hb11, h⟩ := wpO_ck.mp h
        refine z_aald (K := 5) (t0 := 7) C ar_1213 (fun _ => rfl) (sg_1213 T) hx4 hb11 dX11_firstRight_18 (fun r12 hr13 => ?_)
        have h := lt_elim h r12 hr13
        refine z_iload_n C 1 dX11_firstRight_19 rfl ?_
        refine z_iload_n C 2 dX11_firstRight_20 rfl ?_
        refine z_iload_n C 3 dX11_firstRight_21 rfl ?_
        obtain ⟨j14, hr15, h⟩ := mop_none h
        subst hr15
        obtain ⟨hj16, h⟩ := wpO_ck.mp h
        refine z_cVp (st := []) T C (ct_X5_serves j14 x1 x2 x3 hx1 hx2 hx3) lm_X11_398 lv_vX5_serves dX11_firstRight_22 [vi x1, vi x2, vi x3] rfl rfl rfl rfl rfl (nN rfl (toN rfl hj16)) (nNl rfl (toN rfl hj16)) (by decide) (Nat.le_of_ble_eq_true rfl) csOK_0 h (fun r17 hr18 h => ?_)
        show Z κ (0, 0) _ 25 _ [vi r17] ad σ
        refine z_if_eq C 36 (inr_b hr18) dX11_firstRight_25 (by decide) (fun q19 => ?_) (fun q19 => ?_)
        · have h := (wpO_ite.mp h).1 q19
          obtain ⟨hk20, h⟩ := wpO_ck.mp h
          refine z_iinc (lv2 := [(4, vi (x4 + 1)), (0, vo ad 11 (some 0)), (1, vi x1), (2, vi x2), (3, vi x3)]) C 4 dX11_firstRight_36 rfl (by decide) rfl ?_
          refine z_goto C 3 dX11_firstRight_39 (by decide) ?_
          refine z_sub [1, 2, 3, 4, 0] rfl ?_
          have h := wpO_some.mp h
          exact hP3 (x4 + 1) h hk20
        · have h := (wpO_ite.mp h).2 q19
          refine z_sub [0, 4] rfl ?_
          have h := wpO_some.mp h
          exact hE3_28 x4 h hx4
    exact wh_ind (P := fun s : Int => inr s → Z κ (0, 0) (Qm κ ad σ (enR 5) okR X) 3 [(0, vo ad 11 (some 0)), (1, vi x1), (2, vi x2), (3, vi x3), (4, vi s)] [] ad σ) (fun s hs g0 => step _ _ (fun _ hp => hp) (fun x4 hq hx4 => J28 x4 hx4 hq) (fun hq => J42 hq) s g0 hs) x4 (wpO_bnk.mp h) hx4
  show Z κ (0, 0) (Qm κ ad σ (enR 5) okR X) 0 [(0, vo ad 11 (some 0)), (1, vi x1), (2, vi x2), (3, vi x3)] [] ad σ
  refine z_rng (fun hI21 hJ22 => ?_)
  refine z_iconst C dX11_firstRight_0 ?_
  refine z_istore (lv2 := [(4, vi 0), (0, vo ad 11 (some 0)), (1, vi x1), (2, vi x2), (3, vi x3)]) C dX11_firstRight_1 (by decide) rfl ?_
  refine z_sub [1, 2, 3, 4, 0] rfl ?_
  exact J3 x1 x2 x3 0 hx1 hx2 hx3 (by decide) h
noncomputable def fX11_isLicensed (x1 : Int) (x2 : Int) (x3 : Int) (σ : St) : Option Int :=
  bnk (fX11_hasMember (gI σ 1212 0 0) x1) (fun r3 => if r3 = 0 then (some 1) else (bnk (fX11_firstRight x1 x2 x3 σ) (fun r6 => mop r6 (fun j8 => ck (j8 < gN σ 5) (some 1)) (some 0))))
set_option maxRecDepth 20000 in
set_option maxHeartbeats 4000000 in
theorem ct_X11_isLicensed (x1 : Int) (x2 : Int) (x3 : Int) (hx1 : inr x1) (hx2 : inr x2) (hx3 : inr x3) : Ct yX11_isLicensed cX11_isLicensed 4 (some .boolean) 3 (fun ad => [vo ad 11 (some 0), vi x1, vi x2, vi x3]) (pu (fX11_isLicensed x1 x2 x3)) enI okB (fun _ => True) := by
  refine Ct.of (by decide) (fun ad => Nat.le_of_ble_eq_true rfl) ?_
  intro κ ad σ X C T hpre h
  have C : Cx κ RX11 cX11_isLicensed 4 (some .boolean) 3 := C
  have h := wpO_pu.mp h
  unfold fX11_isLicensed at h
  show Z κ (0, 0) (Qm κ ad σ enI okB X) 0 [(0, vo ad 11 (some 0)), (1, vi x1), (2, vi x2), (3, vi x3)] [] ad σ
  refine z_rng (fun hI1 hJ2 => ?_)
  refine z_aload_n C 0 dX11_isLicensed_0 rfl ?_
  refine z_gIv (v := gI σ 1212 0 0) C li_X11_287 (sg_11 T) rfl dX11_isLicensed_1 ?_
  refine z_iload_n C 1 dX11_isLicensed_4 rfl ?_
  refine z_cSp (st := []) T C (ct_X11_hasMember (gI σ 1212 0 0) x1 (hI1 1212 0 _) hx1) lm_X11_290 ls_X11_hasMember dX11_isLicensed_5 rfl rfl trivial (by decide) (Nat.le_of_ble_eq_true rfl) csOK_0 h (fun r3 hr4 h => ?_)
  show Z κ (0, 0) _ 8 _ [vi r3] ad σ
  refine z_if_eq C 21 (inr_b hr4) dX11_isLicensed_8 (by decide) (fun q5 => ?_) (fun q5 => ?_)
  · have h := (wpO_ite.mp h).1 q5
    refine z_iconst C dX11_isLicensed_21 ?_
    refine z_goto C 26 dX11_isLicensed_22 (by decide) ?_
    have h := wpO_some.mp h
    exact z_breturn T C dX11_isLicensed_26 (by decide) rfl h
  · have h := (wpO_ite.mp h).2 q5
    refine z_aload_n C 0 dX11_isLicensed_11 rfl ?_
    refine z_iload_n C 1 dX11_isLicensed_12 rfl ?_
    refine z_iload_n C 2 dX11_isLicensed_13 rfl ?_
    refine z_iload_n C 3 dX11_isLicensed_14 rfl ?_
    refine z_cVp (st := []) T C (ct_X11_firstRight x1 x2 x3 hx1 hx2 hx3) lm_X11_401 lv_vX11_firstRight dX11_isLicensed_15 [vi x1, vi x2, vi x3] rfl rfl rfl rfl rfl (sg_11 T) trivial (by decide) (Nat.le_of_ble_eq_true rfl) csOK_0 h (fun r6 hr7 h => ?_)
    show Z κ (0, 0) _ 18 _ [vo ad 5 r6] ad σ
    refine z_ifnull C 25 dX11_isLicensed_18 (by decide) (fun hr9 => ?_) (fun j8 hr9 => ?_)
    · have h := (wpO_mop.mp h).2 hr9
      subst hr9
      refine z_iconst C dX11_isLicensed_25 ?_
      have h := wpO_some.mp h
      exact z_breturn T C dX11_isLicensed_26 (by decide) rfl h
    · have h := (wpO_mop.mp h).1 j8 hr9
      subst hr9
      obtain ⟨hj10, h⟩ := wpO_ck.mp h
      refine z_iconst C dX11_isLicensed_21 ?_
      refine z_goto C 26 dX11_isLicensed_22 (by decide) ?_
      have h := wpO_some.mp h
      exact z_breturn T C dX11_isLicensed_26 (by decide) rfl h
noncomputable def fX11_dayOf (x0 : Int) : Option Int :=
  some (idiv x0 24)
set_option maxRecDepth 20000 in
set_option maxHeartbeats 4000000 in
theorem ct_X11_dayOf (x0 : Int) (hx0 : inr x0) : Ct yX11_dayOf cX11_dayOf 1 (some .int) 0 (fun ad => [vi x0]) (pu (fun _ => fX11_dayOf x0)) enI okI (fun _ => True) := by
  refine Ct.of (by decide) (fun ad => Nat.le_of_ble_eq_true rfl) ?_
  intro κ ad σ X C T hpre h
  have C : Cx κ RX11 cX11_dayOf 1 (some .int) 0 := C
  have h := wpO_pu.mp h
  unfold fX11_dayOf at h
  show Z κ (0, 0) (Qm κ ad σ enI okI X) 0 [(0, vi x0)] [] ad σ
  refine z_iload_n C 0 dX11_dayOf_0 rfl ?_
  refine z_bipush C dX11_dayOf_1 (by decide) ?_
  refine z_idiv C (by decide) (by decide) dX11_dayOf_3 ?_
  have h := wpO_some.mp h
  exact z_ireturn T C dX11_dayOf_4 (inr_idiv _ _) rfl h
noncomputable def fX8_oldOnes_j45 (x2 : Int) (σ : St) : Option Int :=
  some x2
noncomputable def fX8_oldOnes_j39 (x0 : Nat) (x1 : Int) (x2 : Int) (x3 : Int) (σ : St) : Option ((Int × Int) ⊕ Int) :=
  ck (inr (x3 + 1)) (some (.inl ((x2, x3 + 1))))
noncomputable def fX8_oldOnes_l4 (x0 : Nat) (x1 : Int) (σ : St) (x2 : Int) (x3 : Int) : Option ((Int × Int) ⊕ Int) :=
  if gI σ 905 x0 0 ≤ x3 then (some (.inr x2)) else (bnk (fX11_dayOf (gI σ 902 x0 0)) (fun r9 => ck (0 ≤ x3 ∧ x3 < 6) (lt (gP σ 904 x0 x3.toNat) (fun r12 => mop r12 (fun j14 => ck (j14 < gN σ 7) (bnk (fX11_dayOf (gI σ 802 j14 0)) (fun r17 => ck (inr (r9 - r17)) (if r9 - r17 ≤ x1 then (fX8_oldOnes_j39 x0 x1 x2 x3 σ) else (ck (inr (x2 + 1)) (fX8_oldOnes_j39 x0 x1 (x2 + 1) x3 σ)))))) none))))
noncomputable def fX8_oldOnes_j4 (x0 : Nat) (x1 : Int) (x2 : Int) (x3 : Int) (σ : St) : Option Int :=
  bnk (wh (fun s => fX8_oldOnes_l4 x0 x1 σ s.1 s.2) ((x2, x3))) (fun e => fX8_oldOnes_j45 e σ)
noncomputable def fX8_oldOnes (x0 : Nat) (x1 : Int) (σ : St) : Option Int :=
  fX8_oldOnes_j4 x0 x1 0 0 σ
set_option maxRecDepth 20000 in
set_option maxHeartbeats 4000000 in
theorem ct_X8_oldOnes (x0 : Nat) (x1 : Int) (hx1 : inr x1) : Ct yX8_oldOnes cX8_oldOnes 4 (some .int) 1 (fun ad => [vo ad 8 (some x0), vi x1]) (pu (fX8_oldOnes x0 x1)) enI okI (fun σ => x0 < gN σ 8) := by
  refine Ct.of (by decide) (fun ad => Nat.le_of_ble_eq_true rfl) ?_
  intro κ ad σ X C T hpre h
  have C : Cx κ RX8 cX8_oldOnes 4 (some .int) 1 := C
  have h := wpO_pu.mp h
  have hx0 : x0 < gN σ 8 := hpre
  unfold fX8_oldOnes at h
  have J45 : ∀ (x2 : Int), inr x2 → wpO (fX8_oldOnes_j45 x2 σ) (fun r => X r σ) → Z κ (0, 0) (Qm κ ad σ enI okI X) 45 [(2, vi x2)] [] ad σ := by
    intro x2 hx2 h
    unfold fX8_oldOnes_j45 at h
    refine z_rng (fun hI1 hJ2 => ?_)
    refine z_iload_n C 0 dX8_oldOnes_45 rfl ?_
    have h := wpO_some.mp h
    exact z_ireturn T C dX8_oldOnes_46 hx2 rfl h
  have J4 : ∀ (x0 : Nat) (x1 : Int) (x2 : Int) (x3 : Int), x0 < gN σ 8 → inr x1 → inr x2 → inr x3 → wpO (fX8_oldOnes_j4 x0 x1 x2 x3 σ) (fun r => X r σ) → Z κ (0, 0) (Qm κ ad σ enI okI X) 4 [(0, vo ad 8 (some x0)), (1, vi x1), (2, vi x2), (3, vi x3)] [] ad σ := by
    intro x0 x1 x2 x3 hx0 hx1 hx2 hx3 h
    unfold fX8_oldOnes_j4 at h
    have step : ∀ (P4 : (Int × Int) → Prop) (Q4 : Int → Prop), (∀ (x2 : Int) (x3 : Int), P4 ((x2, x3)) → inr x2 → inr x3 → Z κ (0, 0) (Qm κ ad σ enI okI X) 4 [(0, vo ad 8 (some x0)), (1, vi x1), (2, vi x2), (3, vi x3)] [] ad σ) → (∀ (x2 : Int), Q4 (x2) → inr x2 → Z κ (0, 0) (Qm κ ad σ enI okI X) 45 [(2, vi x2)] [] ad σ) → ∀ (x2 : Int) (x3 : Int), inr x2 → inr x3 → wpO (fX8_oldOnes_l4 x0 x1 σ x2 x3) (onS P4 Q4) → Z κ (0, 0) (Qm κ ad σ enI okI X) 4 [(0, vo ad 8 (some x0)), (1, vi x1), (2, vi x2), (3, vi x3)] [] ad σ := by
      intro P4 Q4 hP4 hE4_45 x2 x3 hx2 hx3 h
      unfold fX8_oldOnes_l4 at h
      have J39 : ∀ (x2 : Int) (x3 : Int), inr x2 → inr x3 → wpO (fX8_oldOnes_j39 x0 x1 x2 x3 σ) (onS P4 Q4) → Z κ (0, 0) (Qm κ ad σ enI okI X) 39 [(0, vo ad 8 (some x0)), (1, vi x1), (2, vi x2), (3, vi x3)] [] ad σ := by
        intro x2 x3 hx2 hx3 h
        unfold fX8_oldOnes_j39 at h
        refine z_rng (fun hI3 hJ4 => ?_)
        obtain ⟨hk5, h⟩ := wpO_ck.mp h
        refine z_iinc (lv2 := [(3, vi (x3 + 1)), (0, vo ad 8 (some x0)), (1, vi x1), (2, vi x2)]) C 3 dX8_oldOnes_39 rfl (by decide) rfl ?_
        refine z_goto C 4 dX8_oldOnes_42 (by decide) ?_
        refine z_sub [1, 2, 3, 0] rfl ?_
        have h := wpO_some.mp h
        exact hP4 x2 (x3 + 1) h hx2 hk5
      refine z_rng (fun hI6 hJ7 => ?_)
      refine z_iload_n C 3 dX8_oldOnes_4 rfl ?_
      refine z_aload_n C 0 dX8_oldOnes_5 rfl ?_
      refine z_gIv (v := gI σ 905 x0 0) C li_X8_30 (nN rfl hx0) rfl dX8_oldOnes_6 ?_
      refine z_icmp_ge C 45 hx3 (hI6 905 x0 _) dX8_oldOnes_9 (by decide) (fun q8 => ?_) (fun q8 => ?_)
      · have h := (wpO_ite.mp h).1 q8
        refine z_sub [2] rfl ?_
        have h := wpO_some.mp h
        exact hE4_45 x2 h hx2
      · have h := (wpO_ite.mp h).2 q8
        refine z_aload_n C 0 dX8_oldOnes_12 rfl ?_
        refine z_gIv (v := gI σ 902 x0 0) C li_X8_24 (nN rfl hx0) rfl dX8_oldOnes_13 ?_
        refine z_cSp (st := []) T C (ct_X11_dayOf (gI σ 902 x0 0) (hI6 902 x0 _)) lm_X8_44 ls_X11_dayOf dX8_oldOnes_16 rfl rfl trivial (by decide) (Nat.le_of_ble_eq_true rfl) csOK_0 h (fun r9 hr10 h => ?_)
        show Z κ (0, 0) _ 19 _ [vi r9] ad σ
        refine z_aload_n C 0 dX8_oldOnes_19 rfl ?_
        refine z_gA T C li_X8_11 (nN rfl hx0) dX8_oldOnes_20 ?_
        refine z_iload_n C 3 dX8_oldOnes_23 rfl ?_
        obtain ⟨hb11, h⟩ := wpO_ck.mp h
        refine z_aald (K := 7) (t0 := 4) C ar_904 (fun _ => rfl) (nN9 T rfl hx0) hx3 hb11 dX8_oldOnes_24 (fun r12 hr13 => ?_)
        have h := lt_elim h r12 hr13
        obtain ⟨j14, hr15, h⟩ := mop_none h
        subst hr15
        obtain ⟨hj16, h⟩ := wpO_ck.mp h
        refine z_gIv (v := gI σ 802 j14 0) C li_X8_43 (nN rfl (toN rfl hj16)) rfl dX8_oldOnes_25 ?_
        refine z_cSp (st := [vi r9]) T C (ct_X11_dayOf (gI σ 802 j14 0) (hI6 802 j14 _)) lm_X8_44 ls_X11_dayOf dX8_oldOnes_28 rfl rfl trivial (by decide) (Nat.le_of_ble_eq_true rfl) csOK_0 h (fun r17 hr18 h => ?_)
        show Z κ (0, 0) _ 31 _ [vi r17, vi r9] ad σ
        obtain ⟨hk19, h⟩ := wpO_ck.mp h
        refine z_isub C dX8_oldOnes_31 ?_
        refine z_iload_n C 1 dX8_oldOnes_32 rfl ?_
        refine z_icmp_le C 39 hk19 hx1 dX8_oldOnes_33 (by decide) (fun q20 => ?_) (fun q20 => ?_)
        · have h := (wpO_ite.mp h).1 q20
          exact J39 x2 x3 hx2 hx3 h
        · have h := (wpO_ite.mp h).2 q20
          obtain ⟨hk21, h⟩ := wpO_ck.mp h
          refine z_iinc (lv2 := [(2, vi (x2 + 1)), (0, vo ad 8 (some x0)), (1, vi x1), (3, vi x3)]) C 2 dX8_oldOnes_36 rfl (by decide) rfl ?_
          refine z_sub [1, 2, 0, 3] rfl ?_
          exact J39 (x2 + 1) x3 hk21 hx3 h
    exact wh_ind (P := fun s : (Int × Int) => inr s.1 → inr s.2 → Z κ (0, 0) (Qm κ ad σ enI okI X) 4 [(0, vo ad 8 (some x0)), (1, vi x1), (2, vi s.1), (3, vi s.2)] [] ad σ) (fun s hs g0 g1 => step _ _ (fun _ _ hp => hp) (fun x2 hq hx2 => J45 x2 hx2 hq) s.1 s.2 g0 g1 hs) ((x2, x3)) (wpO_bnk.mp h) hx2 hx3
  show Z κ (0, 0) (Qm κ ad σ enI okI X) 0 [(0, vo ad 8 (some x0)), (1, vi x1)] [] ad σ
  refine z_rng (fun hI22 hJ23 => ?_)
  refine z_iconst C dX8_oldOnes_0 ?_
  refine z_istore_n (lv2 := [(2, vi 0), (0, vo ad 8 (some x0)), (1, vi x1)]) C dX8_oldOnes_1 (by decide) rfl ?_
  refine z_iconst C dX8_oldOnes_2 ?_
  refine z_istore_n (lv2 := [(3, vi 0), (2, vi 0), (0, vo ad 8 (some x0)), (1, vi x1)]) C dX8_oldOnes_3 (by decide) rfl ?_
  refine z_sub [2, 3, 1, 0] rfl ?_
  exact J4 x0 x1 0 0 hx0 hx1 (by decide) (by decide) h
noncomputable def fX1_canBe_j64 (x1 : Int) (x2 : Int) (s0 : Int) (σ : St) : Option Int :=
  if s0 = 0 then (some 0) else (ck (0 ≤ x1 ∧ x1 < 8) (bnk (fX11_hasMember (gI σ 200 0 x1.toNat) x2) (fun r5 => if r5 = 0 then (some 0) else (some 1))))
noncomputable def fX1_canBe_j59 (x1 : Int) (x2 : Int) (σ : St) : Option Int :=
  fX1_canBe_j64 x1 x2 1 σ
noncomputable def fX1_canBe (x1 : Int) (x2 : Int) (x3 : Int) (σ : St) : Option Int :=
  bnk (fX11_dayOf x3) (fun r12 => ck (0 ≤ x1 ∧ x1 < 8) (ck (0 ≤ x1 ∧ x1 < 8) (if gI σ 202 0 x1.toNat < gI σ 201 0 x1.toNat then (if gI σ 201 0 x1.toNat ≤ irem r12 365 then (fX1_canBe_j59 x1 x2 σ) else (if gI σ 202 0 x1.toNat < irem r12 365 then (fX1_canBe_j64 x1 x2 0 σ) else (fX1_canBe_j59 x1 x2 σ))) else (bnk (fX11_within (irem r12 365) (gI σ 201 0 x1.toNat) (gI σ 202 0 x1.toNat)) (fun r19 => fX1_canBe_j64 x1 x2 r19 σ)))))
set_option maxRecDepth 20000 in
set_option maxHeartbeats 4000000 in
theorem ct_X1_canBe (x1 : Int) (x2 : Int) (x3 : Int) (hx1 : inr x1) (hx2 : inr x2) (hx3 : inr x3) : Ct yX1_canBe cX1_canBe 8 (some .boolean) 1 (fun ad => [vo ad 1 (some 0), vi x1, vi x2, vi x3]) (pu (fX1_canBe x1 x2 x3)) enI okB (fun _ => True) := by
  refine Ct.of (by decide) (fun ad => Nat.le_of_ble_eq_true rfl) ?_
  intro κ ad σ X C T hpre h
  have C : Cx κ RX1 cX1_canBe 8 (some .boolean) 1 := C
  have h := wpO_pu.mp h
  unfold fX1_canBe at h
  have J64 : ∀ (x1 : Int) (x2 : Int) (s0 : Int), inr x1 → inr x2 → inr s0 → wpO (fX1_canBe_j64 x1 x2 s0 σ) (fun r => X r σ) → Z κ (0, 0) (Qm κ ad σ enI okB X) 64 [(0, vo ad 1 (some 0)), (1, vi x1), (2, vi x2)] [vi s0] ad σ := by
    intro x1 x2 s0 hx1 hx2 hs0 h
    unfold fX1_canBe_j64 at h
    refine z_rng (fun hI1 hJ2 => ?_)
    refine z_istore (lv2 := [(7, vi s0), (0, vo ad 1 (some 0)), (1, vi x1), (2, vi x2)]) C dX1_canBe_64 (by decide) rfl ?_
    refine z_iload C 0 dX1_canBe_66 rfl ?_
    refine z_if_eq C 88 hs0 dX1_canBe_68 (by decide) (fun q3 => ?_) (fun q3 => ?_)
    · have h := (wpO_ite.mp h).1 q3
      refine z_iconst C dX1_canBe_88 ?_
      have h := wpO_some.mp h
      exact z_breturn T C dX1_canBe_89 (by decide) rfl h
    · have h := (wpO_ite.mp h).2 q3
      refine z_aload_n C 1 dX1_canBe_71 rfl ?_
      refine z_gA T C li_X1_9 (sg_1 T) dX1_canBe_72 ?_
      refine z_iload_n C 2 dX1_canBe_75 rfl ?_
      obtain ⟨hb4, h⟩ := wpO_ck.mp h
      refine z_iav (v := gI σ 200 0 x1.toNat) C ar_200 (sg_200 T) hx1 hb4 rfl dX1_canBe_76 ?_
      refine z_iload_n C 3 dX1_canBe_77 rfl ?_
      refine z_cSp (st := []) T C (ct_X11_hasMember (gI σ 200 0 x1.toNat) x2 (hI1 200 0 _) hx2) lm_X1_29 ls_X11_hasMember dX1_canBe_78 rfl rfl trivial (by decide) (Nat.le_of_ble_eq_true rfl) csOK_0 h (fun r5 hr6 h => ?_)
      show Z κ (0, 0) _ 81 _ [vi r5] ad σ
      refine z_if_eq C 88 (inr_b hr6) dX1_canBe_81 (by decide) (fun q7 => ?_) (fun q7 => ?_)
      · have h := (wpO_ite.mp h).1 q7
        refine z_iconst C dX1_canBe_88 ?_
        have h := wpO_some.mp h
        exact z_breturn T C dX1_canBe_89 (by decide) rfl h
      · have h := (wpO_ite.mp h).2 q7
        refine z_iconst C dX1_canBe_84 ?_
        refine z_goto C 89 dX1_canBe_85 (by decide) ?_
        have h := wpO_some.mp h
        exact z_breturn T C dX1_canBe_89 (by decide) rfl h
  have J59 : ∀ (x1 : Int) (x2 : Int), inr x1 → inr x2 → wpO (fX1_canBe_j59 x1 x2 σ) (fun r => X r σ) → Z κ (0, 0) (Qm κ ad σ enI okB X) 59 [(0, vo ad 1 (some 0)), (1, vi x1), (2, vi x2)] [] ad σ := by
    intro x1 x2 hx1 hx2 h
    unfold fX1_canBe_j59 at h
    refine z_rng (fun hI8 hJ9 => ?_)
    refine z_iconst C dX1_canBe_59 ?_
    refine z_goto C 64 dX1_canBe_60 (by decide) ?_
    exact J64 x1 x2 1 hx1 hx2 (by decide) h
  show Z κ (0, 0) (Qm κ ad σ enI okB X) 0 [(0, vo ad 1 (some 0)), (1, vi x1), (2, vi x2), (3, vi x3)] [] ad σ
  refine z_rng (fun hI10 hJ11 => ?_)
  refine z_iload_n C 3 dX1_canBe_0 rfl ?_
  refine z_cSp (st := []) T C (ct_X11_dayOf x3 hx3) lm_X1_21 ls_X11_dayOf dX1_canBe_1 rfl rfl trivial (by decide) (Nat.le_of_ble_eq_true rfl) csOK_0 h (fun r12 hr13 h => ?_)
  show Z κ (0, 0) _ 4 _ [vi r12] ad σ
  refine z_sipush C dX1_canBe_4 (by decide) ?_
  refine z_irem C (by decide) (by decide) dX1_canBe_7 ?_
  refine z_istore (lv2 := [(4, vi (irem r12 365)), (0, vo ad 1 (some 0)), (1, vi x1), (2, vi x2), (3, vi x3)]) C dX1_canBe_8 (by decide) rfl ?_
  refine z_aload_n C 1 dX1_canBe_10 rfl ?_
  refine z_gA T C li_X1_15 (sg_1 T) dX1_canBe_11 ?_
  refine z_iload_n C 2 dX1_canBe_14 rfl ?_
  obtain ⟨hb14, h⟩ := wpO_ck.mp h
  refine z_iav (v := gI σ 201 0 x1.toNat) C ar_201 (sg_201 T) hx1 hb14 rfl dX1_canBe_15 ?_
  refine z_istore (lv2 := [(5, vi (gI σ 201 0 x1.toNat)), (4, vi (irem r12 365)), (0, vo ad 1 (some 0)), (1, vi x1), (2, vi x2), (3, vi x3)]) C dX1_canBe_16 (by decide) rfl ?_
  refine z_aload_n C 2 dX1_canBe_18 rfl ?_
  refine z_gA T C li_X1_18 (sg_1 T) dX1_canBe_19 ?_
  refine z_iload_n C 3 dX1_canBe_22 rfl ?_
  obtain ⟨hb15, h⟩ := wpO_ck.mp h
  refine z_iav (v := gI σ 202 0 x1.toNat) C ar_202 (sg_202 T) hx1 hb15 rfl dX1_canBe_23 ?_
  refine z_istore (lv2 := [(6, vi (gI σ 202 0 x1.toNat)), (5, vi (gI σ 201 0 x1.toNat)), (4, vi (irem r12 365)), (0, vo ad 1 (some 0)), (1, vi x1), (2, vi x2), (3, vi x3)]) C dX1_canBe_24 (by decide) rfl ?_
  refine z_iload C 1 dX1_canBe_26 rfl ?_
  refine z_iload C 0 dX1_canBe_28 rfl ?_
  refine z_icmp_gt C 45 (hI10 201 0 _) (hI10 202 0 _) dX1_canBe_30 (by decide) (fun q16 => ?_) (fun q16 => ?_)
  · have h := (wpO_ite.mp h).1 q16
    refine z_iload C 2 dX1_canBe_45 rfl ?_
    refine z_iload C 1 dX1_canBe_47 rfl ?_
    refine z_icmp_ge C 59 (inr_irem _ _) (hI10 201 0 _) dX1_canBe_49 (by decide) (fun q17 => ?_) (fun q17 => ?_)
    · have h := (wpO_ite.mp h).1 q17
      refine z_sub [3, 4, 5] rfl ?_
      exact J59 x1 x2 hx1 hx2 h
    · have h := (wpO_ite.mp h).2 q17
      refine z_iload C 2 dX1_canBe_52 rfl ?_
      refine z_iload C 0 dX1_canBe_54 rfl ?_
      refine z_icmp_gt C 63 (inr_irem _ _) (hI10 202 0 _) dX1_canBe_56 (by decide) (fun q18 => ?_) (fun q18 => ?_)
      · have h := (wpO_ite.mp h).1 q18
        refine z_iconst C dX1_canBe_63 ?_
        refine z_sub [3, 4, 5] rfl ?_
        exact J64 x1 x2 0 hx1 hx2 (by decide) h
      · have h := (wpO_ite.mp h).2 q18
        refine z_sub [3, 4, 5] rfl ?_
        exact J59 x1 x2 hx1 hx2 h
  · have h := (wpO_ite.mp h).2 q16
    refine z_iload C 2 dX1_canBe_33 rfl ?_
    refine z_iload C 1 dX1_canBe_35 rfl ?_
    refine z_iload C 0 dX1_canBe_37 rfl ?_
    refine z_cSp (st := []) T C (ct_X11_within (irem r12 365) (gI σ 201 0 x1.toNat) (gI σ 202 0 x1.toNat) (inr_irem _ _) (hI10 201 0 _) (hI10 202 0 _)) lm_X1_25 ls_X11_within dX1_canBe_39 rfl rfl trivial (by decide) (Nat.le_of_ble_eq_true rfl) csOK_0 h (fun r19 hr20 h => ?_)
    show Z κ (0, 0) _ 42 _ [vi r19] ad σ
    refine z_goto C 64 dX1_canBe_42 (by decide) ?_
    refine z_sub [3, 4, 5] rfl ?_
    exact J64 x1 x2 r19 hx1 hx2 (inr_b hr20) h
noncomputable def fX1_firstLie_j39 (σ : St) : Option Int :=
  some ((-9))
noncomputable def fX1_firstLie_j30 (x4 : Int) (σ : St) : Option Int :=
  some x4
noncomputable def fX1_firstLie_j33 (x1 : Int) (x2 : Int) (x3 : Int) (x4 : Int) (σ : St) : Option (Int ⊕ (Int ⊕ Unit)) :=
  ck (inr (x4 + 1)) (some (.inl (x4 + 1)))
noncomputable def fX1_firstLie_l3 (x1 : Int) (x2 : Int) (x3 : Int) (σ : St) (x4 : Int) : Option (Int ⊕ (Int ⊕ Unit)) :=
  if 8 ≤ x4 then (some (.inr (.inr (())))) else (bnk (fX11_hasMember x1 x4) (fun r11 => if r11 = 0 then (fX1_firstLie_j33 x1 x2 x3 x4 σ) else (bnk (fX1_canBe x4 x2 x3 σ) (fun r14 => if r14 = 0 then (some (.inr (.inl x4))) else (fX1_firstLie_j33 x1 x2 x3 x4 σ)))))
noncomputable def fX1_firstLie_j3 (x1 : Int) (x2 : Int) (x3 : Int) (x4 : Int) (σ : St) : Option Int :=
  bnk (wh (fun s => fX1_firstLie_l3 x1 x2 x3 σ s) x4) (fun e => Sum.elim (fun a0 => fX1_firstLie_j30 a0 σ) (fun b0 => fX1_firstLie_j39 σ) e)
noncomputable def fX1_firstLie (x1 : Int) (x2 : Int) (x3 : Int) (σ : St) : Option Int :=
  fX1_firstLie_j3 x1 x2 x3 0 σ
set_option maxRecDepth 20000 in
set_option maxHeartbeats 4000000 in
theorem ct_X1_firstLie (x1 : Int) (x2 : Int) (x3 : Int) (hx1 : inr x1) (hx2 : inr x2) (hx3 : inr x3) : Ct yX1_firstLie cX1_firstLie 5 (some .int) 2 (fun ad => [vo ad 1 (some 0), vi x1, vi x2, vi x3]) (pu (fX1_firstLie x1 x2 x3)) enI okI (fun _ => True) := by
  refine Ct.of (by decide) (fun ad => Nat.le_of_ble_eq_true rfl) ?_
  intro κ ad σ X C T hpre h
  have C : Cx κ RX1 cX1_firstLie 5 (some .int) 2 := C
  have h := wpO_pu.mp h
  unfold fX1_firstLie at h
  have J39 : wpO (fX1_firstLie_j39 σ) (fun r => X r σ) → Z κ (0, 0) (Qm κ ad σ enI okI X) 39 [] [] ad σ := by
    intro h
    unfold fX1_firstLie_j39 at h
    refine z_rng (fun hI1 hJ2 => ?_)
    refine z_bipush C dX1_firstLie_39 (by decide) ?_
    have h := wpO_some.mp h
    exact z_ireturn T C dX1_firstLie_41 (by decide) rfl h
  have J30 : ∀ (x4 : Int), inr x4 → wpO (fX1_firstLie_j30 x4 σ) (fun r => X r σ) → Z κ (0, 0) (Qm κ ad σ enI okI X) 30 [(4, vi x4)] [] ad σ := by
    intro x4 hx4 h
    unfold fX1_firstLie_j30 at h
    refine z_rng (fun hI3 hJ4 => ?_)
    refine z_iload C 0 dX1_firstLie_30 rfl ?_
    have h := wpO_some.mp h
    exact z_ireturn T C dX1_firstLie_32 hx4 rfl h
  have J3 : ∀ (x1 : Int) (x2 : Int) (x3 : Int) (x4 : Int), inr x1 → inr x2 → inr x3 → inr x4 → wpO (fX1_firstLie_j3 x1 x2 x3 x4 σ) (fun r => X r σ) → Z κ (0, 0) (Qm κ ad σ enI okI X) 3 [(0, vo ad 1 (some 0)), (1, vi x1), (2, vi x2), (3, vi x3), (4, vi x4)] [] ad σ := by
    intro x1 x2 x3 x4 hx1 hx2 hx3 hx4 h
    unfold fX1_firstLie_j3 at h
    have step : ∀ (P3 : Int → Prop) (Q3 : (Int ⊕ Unit) → Prop), (∀ (x4 : Int), P3 x4 → inr x4 → Z κ (0, 0) (Qm κ ad σ enI okI X) 3 [(0, vo ad 1 (some 0)), (1, vi x1), (2, vi x2), (3, vi x3), (4, vi x4)] [] ad σ) → (∀ (x4 : Int), Q3 (.inl x4) → inr x4 → Z κ (0, 0) (Qm κ ad σ enI okI X) 30 [(4, vi x4)] [] ad σ) → (Q3 (.inr (())) → Z κ (0, 0) (Qm κ ad σ enI okI X) 39 [] [] ad σ) → ∀ (x4 : Int), inr x4 → wpO (fX1_firstLie_l3 x1 x2 x3 σ x4) (onS P3 Q3) → Z κ (0, 0) (Qm κ ad σ enI okI X) 3 [(0, vo ad 1 (some 0)), (1, vi x1), (2, vi x2), (3, vi x3), (4, vi x4)] [] ad σ := by
      intro P3 Q3 hP3 hE3_30 hE3_39 x4 hx4 h
      unfold fX1_firstLie_l3 at h
      have J33 : ∀ (x4 : Int), inr x4 → wpO (fX1_firstLie_j33 x1 x2 x3 x4 σ) (onS P3 Q3) → Z κ (0, 0) (Qm κ ad σ enI okI X) 33 [(0, vo ad 1 (some 0)), (1, vi x1), (2, vi x2), (3, vi x3), (4, vi x4)] [] ad σ := by
        intro x4 hx4 h
        unfold fX1_firstLie_j33 at h
        refine z_rng (fun hI5 hJ6 => ?_)
        obtain ⟨hk7, h⟩ := wpO_ck.mp h
        refine z_iinc (lv2 := [(4, vi (x4 + 1)), (0, vo ad 1 (some 0)), (1, vi x1), (2, vi x2), (3, vi x3)]) C 4 dX1_firstLie_33 rfl (by decide) rfl ?_
        refine z_goto C 3 dX1_firstLie_36 (by decide) ?_
        refine z_sub [1, 2, 3, 4, 0] rfl ?_
        have h := wpO_some.mp h
        exact hP3 (x4 + 1) h hk7
      refine z_rng (fun hI8 hJ9 => ?_)
      refine z_iload C 4 dX1_firstLie_3 rfl ?_
      refine z_bipush C dX1_firstLie_5 (by decide) ?_
      refine z_icmp_ge C 39 hx4 (by decide) dX1_firstLie_7 (by decide) (fun q10 => ?_) (fun q10 => ?_)
      · have h := (wpO_ite.mp h).1 q10
        refine z_sub [] rfl ?_
        have h := wpO_some.mp h
        exact hE3_39 h
      · have h := (wpO_ite.mp h).2 q10
        refine z_iload_n C 1 dX1_firstLie_10 rfl ?_
        refine z_iload C 4 dX1_firstLie_11 rfl ?_
        refine z_cSp (st := []) T C (ct_X11_hasMember x1 x4 hx1 hx4) lm_X1_29 ls_X11_hasMember dX1_firstLie_13 rfl rfl trivial (by decide) (Nat.le_of_ble_eq_true rfl) csOK_0 h (fun r11 hr12 h => ?_)
        show Z κ (0, 0) _ 16 _ [vi r11] ad σ
        refine z_if_eq C 33 (inr_b hr12) dX1_firstLie_16 (by decide) (fun q13 => ?_) (fun q13 => ?_)
        · have h := (wpO_ite.mp h).1 q13
          exact J33 x4 hx4 h
        · have h := (wpO_ite.mp h).2 q13
          refine z_aload_n C 0 dX1_firstLie_19 rfl ?_
          refine z_iload C 4 dX1_firstLie_20 rfl ?_
          refine z_iload_n C 2 dX1_firstLie_22 rfl ?_
          refine z_iload_n C 3 dX1_firstLie_23 rfl ?_
          refine z_cVp (st := []) T C (ct_X1_canBe x4 x2 x3 hx4 hx2 hx3) lm_X1_33 lv_vX1_canBe dX1_firstLie_24 [vi x4, vi x2, vi x3] rfl rfl rfl rfl rfl (sg_1 T) trivial (by decide) (Nat.le_of_ble_eq_true rfl) csOK_0 h (fun r14 hr15 h => ?_)
          show Z κ (0, 0) _ 27 _ [vi r14] ad σ
          refine z_if_ne C 33 (inr_b hr15) dX1_firstLie_27 (by decide) (fun q16 => ?_) (fun q16 => ?_)
          · have h := (wpO_ite.mp h).2 q16
            exact J33 x4 hx4 h
          · have h := (wpO_ite.mp h).1 q16
            refine z_sub [4] rfl ?_
            have h := wpO_some.mp h
            exact hE3_30 x4 h hx4
    exact wh_ind (P := fun s : Int => inr s → Z κ (0, 0) (Qm κ ad σ enI okI X) 3 [(0, vo ad 1 (some 0)), (1, vi x1), (2, vi x2), (3, vi x3), (4, vi s)] [] ad σ) (fun s hs g0 => step _ _ (fun _ hp => hp) (fun x4 hq hx4 => J30 x4 hx4 hq) (fun hq => J39 hq) s g0 hs) x4 (wpO_bnk.mp h) hx4
  show Z κ (0, 0) (Qm κ ad σ enI okI X) 0 [(0, vo ad 1 (some 0)), (1, vi x1), (2, vi x2), (3, vi x3)] [] ad σ
  refine z_rng (fun hI17 hJ18 => ?_)
  refine z_iconst C dX1_firstLie_0 ?_
  refine z_istore (lv2 := [(4, vi 0), (0, vo ad 1 (some 0)), (1, vi x1), (2, vi x2), (3, vi x3)]) C dX1_firstLie_1 (by decide) rfl ?_
  refine z_sub [1, 2, 3, 4, 0] rfl ?_
  exact J3 x1 x2 x3 0 hx1 hx2 hx3 (by decide) h
