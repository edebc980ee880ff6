noncomputable def fX8_append (x0 : Nat) (x1 : Nat) (σ : St) : Option (Int × St) :=
  if gI σ 905 x0 0 < 6 then (ck (0 ≤ gI σ 905 x0 0 ∧ gI σ 905 x0 0 < 6) (ck (inr ((gI σ 905 x0 0) + 1)) (some ((gI σ 905 x0 0) + 1, sI (sP σ 904 x0 ((gI σ 905 x0 0).toNat) (some x1)) 905 x0 0 ((gI σ 905 x0 0) + 1))))) else (some ((-4), σ))
set_option maxRecDepth 20000 in
set_option maxHeartbeats 4000000 in
theorem ct_X8_append (x0 : Nat) (x1 : Nat) : Ct yX8_append cX8_append 2 (some .int) 0 (fun ad => [vo ad 8 (some x0), vo ad 7 (some x1)]) (fX8_append x0 x1) enI okI (fun σ => x0 < gN σ 8 ∧ x1 < gN σ 7) := by
  refine Ct.of (by decide) (fun ad => Nat.le_of_ble_eq_true rfl) ?_
  intro κ ad σ X C T hpre h
  have C : Cx κ RX8 cX8_append 2 (some .int) 0 := C
  obtain ⟨hx0, hx1⟩ := hpre
  unfold fX8_append at h
  show Z κ (0, 0) (Qm κ ad σ enI okI X) 0 [(0, vo ad 8 (some x0)), (1, vo ad 7 (some x1))] [] ad σ
  refine z_rng (fun hI1 hJ2 => ?_)
  refine z_aload_n C 0 dX8_append_0 rfl ?_
  refine z_gIv (v := gI σ 905 x0 0) C li_X8_30 (nN rfl hx0) rfl dX8_append_1 ?_
  refine z_bipush C dX8_append_4 (by decide) ?_
  refine z_icmp_lt C 12 (hI1 905 x0 _) (by decide) dX8_append_6 (by decide) (fun q3 => ?_) (fun q3 => ?_)
  · have h := (wpO_ite.mp h).1 q3
    refine z_aload_n C 0 dX8_append_12 rfl ?_
    refine z_gA T C li_X8_11 (nN rfl hx0) dX8_append_13 ?_
    refine z_aload_n C 0 dX8_append_16 rfl ?_
    refine z_gIv (v := gI σ 905 x0 0) C li_X8_30 (nN rfl hx0) rfl dX8_append_17 ?_
    refine z_aload_n C 1 dX8_append_20 rfl ?_
    obtain ⟨hb4, h⟩ := wpO_ck.mp h
    refine z_aastore (K := 7) (t0 := 4) C ar_904 (fun _ => rfl) ⟨_, _, rfl⟩ rfl (nN9 T rfl hx0) (hI1 905 x0 _) hb4 (fun _ q => by cases q; exact nNl rfl hx1) dX8_append_21 ?_
    refine z_aload_n C 0 dX8_append_22 rfl ?_
    refine z_dup C dX8_append_23 rfl ?_
    refine z_gIv (v := gI σ 905 x0 0) C li_X8_30 (nN rfl hx0) (gnP rfl) dX8_append_24 ?_
    refine z_iconst C dX8_append_27 ?_
    obtain ⟨hk5, h⟩ := wpO_ck.mp h
    refine z_iadd C dX8_append_28 ?_
    refine z_pI C lq_X8_30 (nN rfl hx0) hk5 dX8_append_29 ?_
    refine z_aload_n C 0 dX8_append_32 rfl ?_
    refine z_gIv (v := (gI σ 905 x0 0) + 1) C li_X8_30 (nN rfl hx0) gs dX8_append_33 ?_
    have h := wpO_some.mp h
    exact z_ireturn T C dX8_append_36 hk5 rfl h
  · have h := (wpO_ite.mp h).2 q3
    refine z_bipush C dX8_append_9 (by decide) ?_
    have h := wpO_some.mp h
    exact z_ireturn T C dX8_append_11 (by decide) rfl h
noncomputable def fX11_put (x1 : Int) (x2 : Int) (σ : St) : Option (Int × St) :=
  bnk (fX11_storyNumbered x1 σ) (fun r3 => bnk (fX11_shotNumbered x2 σ) (fun r5 => mop r3 (fun j7 => ck (j7 < gN σ 8) (mop r5 (fun j10 => ck (j10 < gN σ 7) (bnk (fX7_whereAt j10 (gI σ 1200 0 0) σ) (fun r13 => if r13 = 3 then (bnk (fX8_has j7 j10 σ) (fun r16 => if r16 = 0 then (bnd (fX8_append j7 j10 σ) (fun r19 σ21 => some (r19, σ21))) else (some ((-3), σ)))) else (some ((-3), σ))))) (some ((-1), σ)))) (some ((-1), σ))))
set_option maxRecDepth 20000 in
set_option maxHeartbeats 4000000 in
theorem ct_X11_put (x1 : Int) (x2 : Int) (hx1 : inr x1) (hx2 : inr x2) : Ct yX11_put cX11_put 5 (some .int) 2 (fun ad => [vo ad 11 (some 0), vi x1, vi x2]) (fX11_put x1 x2) enI okI (fun _ => True) := by
  refine Ct.of (by decide) (fun ad => Nat.le_of_ble_eq_true rfl) ?_
  intro κ ad σ X C T hpre h
  have C : Cx κ RX11 cX11_put 5 (some .int) 2 := C
  unfold fX11_put at h
  show Z κ (0, 0) (Qm κ ad σ enI okI X) 0 [(0, vo ad 11 (some 0)), (1, vi x1), (2, vi x2)] [] ad σ
  refine z_rng (fun hI1 hJ2 => ?_)
  refine z_aload_n C 0 dX11_put_0 rfl ?_
  refine z_iload_n C 1 dX11_put_1 rfl ?_
  refine z_cVp (st := []) T C (ct_X11_storyNumbered x1 hx1) lm_X11_205 lv_vX11_storyNumbered dX11_put_2 [vi x1] rfl rfl rfl rfl rfl (sg_11 T) trivial (by decide) (Nat.le_of_ble_eq_true rfl) csOK_0 h (fun r3 hr4 h => ?_)
  show Z κ (0, 0) _ 5 _ [vo ad 8 r3] ad σ
  refine z_astore_n (lv2 := [(3, vo ad 8 r3), (0, vo ad 11 (some 0)), (1, vi x1), (2, vi x2)]) C dX11_put_5 (by decide) rfl ?_
  refine z_aload_n C 1 dX11_put_6 rfl ?_
  refine z_iload_n C 3 dX11_put_7 rfl ?_
  refine z_cVp (st := []) T C (ct_X11_shotNumbered x2 hx2) lm_X11_144 lv_vX11_shotNumbered dX11_put_8 [vi x2] rfl rfl rfl rfl rfl (sg_11 T) trivial (by decide) (Nat.le_of_ble_eq_true rfl) csOK_0 h (fun r5 hr6 h => ?_)
  show Z κ (0, 0) _ 11 _ [vo ad 7 r5] ad σ
  refine z_astore (lv2 := [(4, vo ad 7 r5), (3, vo ad 8 r3), (0, vo ad 11 (some 0)), (1, vi x1), (2, vi x2)]) C dX11_put_11 (by decide) (by simp [vo_cat]) ?_
  refine z_aload_n C 1 dX11_put_13 rfl ?_
  refine z_ifnull C 22 dX11_put_14 (by decide) (fun hr8 => ?_) (fun j7 hr8 => ?_)
  · have h := (wpO_mop.mp h).2 hr8
    subst hr8
    refine z_iconst C dX11_put_22 ?_
    have h := wpO_some.mp h
    exact z_ireturn T C dX11_put_23 (by decide) rfl h
  · have h := (wpO_mop.mp h).1 j7 hr8
    subst hr8
    obtain ⟨hj9, h⟩ := wpO_ck.mp h
    refine z_aload C 0 dX11_put_17 rfl ?_
    refine z_ifnonnull C 24 dX11_put_19 (by decide) (fun j10 hr11 => ?_) (fun hr11 => ?_)
    · have h := (wpO_mop.mp h).1 j10 hr11
      subst hr11
      obtain ⟨hj12, h⟩ := wpO_ck.mp h
      refine z_aload C 0 dX11_put_24 rfl ?_
      refine z_aload_n C 2 dX11_put_26 rfl ?_
      refine z_gIv (v := gI σ 1200 0 0) C li_X11_87 (sg_11 T) rfl dX11_put_27 ?_
      refine z_cVp (st := []) T C (ct_X7_whereAt j10 (gI σ 1200 0 0) (hI1 1200 0 _)) lm_X11_166 lv_vX7_whereAt dX11_put_30 [vi (gI σ 1200 0 0)] rfl rfl rfl rfl rfl (nN rfl (toN rfl hj12)) (nNl rfl (toN rfl hj12)) (by decide) (Nat.le_of_ble_eq_true rfl) csOK_0 h (fun r13 hr14 h => ?_)
      show Z κ (0, 0) _ 33 _ [vi r13] ad σ
      refine z_iconst C dX11_put_33 ?_
      refine z_icmp_ne C 46 hr14 (by decide) dX11_put_34 (by decide) (fun q15 => ?_) (fun q15 => ?_)
      · have h := (wpO_ite.mp h).2 q15
        refine z_bipush C dX11_put_46 (by decide) ?_
        have h := wpO_some.mp h
        exact z_ireturn T C dX11_put_48 (by decide) rfl h
      · have h := (wpO_ite.mp h).1 q15
        refine z_aload_n C 1 dX11_put_37 rfl ?_
        refine z_aload C 0 dX11_put_38 rfl ?_
        refine z_cVp (st := []) T C (ct_X8_has j7 j10) lm_X11_209 lv_vX8_has dX11_put_40 [vo ad 7 (some j10)] rfl rfl rfl rfl rfl (nN rfl (toN rfl hj9)) ⟨nNl rfl (toN rfl hj9), nNl rfl (toN rfl hj12)⟩ (by decide) (Nat.le_of_ble_eq_true rfl) csOK_0 h (fun r16 hr17 h => ?_)
        show Z κ (0, 0) _ 43 _ [vi r16] ad σ
        refine z_if_eq C 49 (inr_b hr17) dX11_put_43 (by decide) (fun q18 => ?_) (fun q18 => ?_)
        · have h := (wpO_ite.mp h).1 q18
          refine z_aload_n C 1 dX11_put_49 rfl ?_
          refine z_aload C 0 dX11_put_50 rfl ?_
          refine z_cV (st := []) T C (ct_X8_append j7 j10) lm_X11_213 lv_vX8_append dX11_put_52 [vo ad 7 (some j10)] rfl rfl rfl rfl rfl (nN rfl (toN rfl hj9)) ⟨nNl rfl (toN rfl hj9), nNl rfl (toN rfl hj12)⟩ (by decide) (Nat.le_of_ble_eq_true rfl) csOK_0 h (fun r19 σ21 hr20 eN22 h => ?_)
          show Z κ (0, 0) _ 55 _ [vi r19] ad σ21
          refine z_rng (fun hI23 hJ24 => ?_)
          have h := wpO_some.mp h
          exact z_ireturn T C dX11_put_55 hr20 eN22 h
        · have h := (wpO_ite.mp h).2 q18
          refine z_bipush C dX11_put_46 (by decide) ?_
          have h := wpO_some.mp h
          exact z_ireturn T C dX11_put_48 (by decide) rfl h
    · have h := (wpO_mop.mp h).2 hr11
      subst hr11
      refine z_iconst C dX11_put_22 ?_
      have h := wpO_some.mp h
      exact z_ireturn T C dX11_put_23 (by decide) rfl h
noncomputable def fX11_rate (x1 : Int) (x2 : Int) (σ : St) : Option (Int × St) :=
  bnk (fX11_isKind x1) (fun r3 => if r3 = 0 then (some ((-2), σ)) else (bnk (fX11_within x2 0 99) (fun r6 => if r6 = 0 then (some ((-2), σ)) else (ck (0 ≤ x1 ∧ x1 < 3) (ck (0 ≤ x1 ∧ x1 < 3) (some (gI σ 1208 0 x1.toNat, sI σ 1208 0 x1.toNat x2)))))))
set_option maxRecDepth 20000 in
set_option maxHeartbeats 4000000 in
theorem ct_X11_rate (x1 : Int) (x2 : Int) (hx1 : inr x1) (hx2 : inr x2) : Ct yX11_rate cX11_rate 4 (some .int) 2 (fun ad => [vo ad 11 (some 0), vi x1, vi x2]) (fX11_rate x1 x2) enI okI (fun _ => True) := by
  refine Ct.of (by decide) (fun ad => Nat.le_of_ble_eq_true rfl) ?_
  intro κ ad σ X C T hpre h
  have C : Cx κ RX11 cX11_rate 4 (some .int) 2 := C
  unfold fX11_rate at h
  show Z κ (0, 0) (Qm κ ad σ enI okI X) 0 [(0, vo ad 11 (some 0)), (1, vi x1), (2, vi x2)] [] ad σ
  refine z_rng (fun hI1 hJ2 => ?_)
  refine z_iload_n C 1 dX11_rate_0 rfl ?_
  refine z_cSp (st := []) T C (ct_X11_isKind x1 hx1) lm_X11_128 ls_X11_isKind dX11_rate_1 rfl rfl trivial (by decide) (Nat.le_of_ble_eq_true rfl) csOK_0 h (fun r3 hr4 h => ?_)
  show Z κ (0, 0) _ 4 _ [vi r3] ad σ
  refine z_if_eq C 17 (inr_b hr4) dX11_rate_4 (by decide) (fun q5 => ?_) (fun q5 => ?_)
  · have h := (wpO_ite.mp h).1 q5
    refine z_bipush C dX11_rate_17 (by decide) ?_
    have h := wpO_some.mp h
    exact z_ireturn T C dX11_rate_19 (by decide) rfl h
  · have h := (wpO_ite.mp h).2 q5
    refine z_iload_n C 2 dX11_rate_7 rfl ?_
    refine z_iconst C dX11_rate_8 ?_
    refine z_bipush C dX11_rate_9 (by decide) ?_
    refine z_cSp (st := []) T C (ct_X11_within x2 0 99 hx2 (by decide) (by decide)) lm_X11_83 ls_X11_within dX11_rate_11 rfl rfl trivial (by decide) (Nat.le_of_ble_eq_true rfl) csOK_0 h (fun r6 hr7 h => ?_)
    show Z κ (0, 0) _ 14 _ [vi r6] ad σ
    refine z_if_ne C 20 (inr_b hr7) dX11_rate_14 (by decide) (fun q8 => ?_) (fun q8 => ?_)
    · have h := (wpO_ite.mp h).2 q8
      refine z_aload_n C 0 dX11_rate_20 rfl ?_
      refine z_gA T C li_X11_39 (sg_11 T) dX11_rate_21 ?_
      refine z_iload_n C 1 dX11_rate_24 rfl ?_
      obtain ⟨hb9, h⟩ := wpO_ck.mp h
      refine z_iav (v := gI σ 1208 0 x1.toNat) C ar_1208 (sg_1208 T) hx1 hb9 rfl dX11_rate_25 ?_
      refine z_istore_n (lv2 := [(3, vi (gI σ 1208 0 x1.toNat)), (0, vo ad 11 (some 0)), (1, vi x1), (2, vi x2)]) C dX11_rate_26 (by decide) rfl ?_
      refine z_aload_n C 1 dX11_rate_27 rfl ?_
      refine z_gA T C li_X11_39 (sg_11 T) dX11_rate_28 ?_
      refine z_iload_n C 2 dX11_rate_31 rfl ?_
      refine z_iload_n C 3 dX11_rate_32 rfl ?_
      obtain ⟨hb10, h⟩ := wpO_ck.mp h
      refine z_iastore C ar_1208 (sg_1208 T) hx1 hb10 hx2 dX11_rate_33 ?_
      refine z_iload_n C 0 dX11_rate_34 rfl ?_
      have h := wpO_some.mp h
      exact z_ireturn T C dX11_rate_35 (hI1 1208 0 _) rfl h
    · have h := (wpO_ite.mp h).1 q8
      refine z_bipush C dX11_rate_17 (by decide) ?_
      have h := wpO_some.mp h
      exact z_ireturn T C dX11_rate_19 (by decide) rfl h
noncomputable def fX4_greatestRowTo_j73 (x1 : Int) (x2 : Int) (x4 : Int) (σ : St) : Option Int :=
  ck (inr (7 - x2)) (bnk (fJ6_bitCount_0f7a4 x1) (fun r6 => ck (inr (8 - r6)) (ck (0 ≤ 8 - r6 ∧ 8 - r6 < 8) (ck (inr ((7 - x2) * (nines (8 - r6).toNat))) (if 0 ≤ x4 then (ck (inr (x4 + ((7 - x2) * (nines (8 - r6).toNat)))) (some (x4 + ((7 - x2) * (nines (8 - r6).toNat))))) else (some ((-1))))))))
noncomputable def fX4_greatestRowTo_j67 (x1 : Int) (x2 : Int) (x3 : Int) (x4 : Int) (x5 : Int) (σ : St) : Option ((Int × Int) ⊕ Int) :=
  ck (inr (x5 + 1)) (some (.inl ((x4, x5 + 1))))
noncomputable def fX4_greatestRowTo_l21 (x1 : Int) (x2 : Int) (x3 : Int) (σ : St) (x4 : Int) (x5 : Int) : Option ((Int × Int) ⊕ Int) :=
  if gI σ 504 0 0 ≤ x5 then (some (.inr x4)) else (ck (0 ≤ x2 ∧ x2 < 8) (bnk (fX11_hasMember (iand x3 (ixor (gI σ 502 0 x2.toNat) ((-1)))) x5) (fun r20 => if r20 = 0 then (fX4_greatestRowTo_j67 x1 x2 x3 x4 x5 σ) else (ck (inr (x3 * 8)) (ck (inr ((x3 * 8) + x5)) (ck (0 ≤ (x3 * 8) + x5 ∧ (x3 * 8) + x5 < 2048) (fX4_greatestRowTo_j67 x1 x2 x3 (imax x4 (gI σ 510 0 (((x3 * 8) + x5).toNat))) x5 σ)))))))
noncomputable def fX4_greatestRowTo_j21 (x1 : Int) (x2 : Int) (x3 : Int) (x4 : Int) (x5 : Int) (σ : St) : Option Int :=
  bnk (wh (fun s => fX4_greatestRowTo_l21 x1 x2 x3 σ s.1 s.2) ((x4, x5))) (fun e => fX4_greatestRowTo_j73 x1 x2 e σ)
noncomputable def fX4_greatestRowTo_j16 (x1 : Int) (x2 : Int) (x3 : Int) (s0 : Int) (σ : St) : Option Int :=
  fX4_greatestRowTo_j21 x1 x2 x3 s0 0 σ
noncomputable def fX4_greatestRowTo (x1 : Int) (x2 : Int) (σ : St) : Option Int :=
  bnk (fX11_withMember x1 x2 0) (fun r30 => if r30 = 0 then (fX4_greatestRowTo_j16 x1 x2 r30 0 σ) else (fX4_greatestRowTo_j16 x1 x2 r30 ((-1)) σ))
set_option maxRecDepth 20000 in
set_option maxHeartbeats 4000000 in
theorem ct_X4_greatestRowTo (x1 : Int) (x2 : Int) (hx1 : inr x1) (hx2 : inr x2) : Ct yX4_greatestRowTo cX4_greatestRowTo 6 (some .int) 1 (fun ad => [vo ad 4 (some 0), vi x1, vi x2]) (pu (fX4_greatestRowTo x1 x2)) enI okI (fun _ => True) := by
  refine Ct.of (by decide) (fun ad => Nat.le_of_ble_eq_true rfl) ?_
  intro κ ad σ X C T hpre h
  have C : Cx κ RX4 cX4_greatestRowTo 6 (some .int) 1 := C
  have h := wpO_pu.mp h
  unfold fX4_greatestRowTo at h
  have J73 : ∀ (x1 : Int) (x2 : Int) (x4 : Int), inr x1 → inr x2 → inr x4 → wpO (fX4_greatestRowTo_j73 x1 x2 x4 σ) (fun r => X r σ) → Z κ (0, 0) (Qm κ ad σ enI okI X) 73 [(1, vi x1), (2, vi x2), (4, vi x4)] [] ad σ := by
    intro x1 x2 x4 hx1 hx2 hx4 h
    unfold fX4_greatestRowTo_j73 at h
    refine z_rng (fun hI1 hJ2 => ?_)
    refine z_bipush C dX4_greatestRowTo_73 (by decide) ?_
    refine z_iload_n C 1 dX4_greatestRowTo_75 rfl ?_
    obtain ⟨hk3, h⟩ := wpO_ck.mp h
    refine z_isub C dX4_greatestRowTo_76 ?_
    refine z_nines C lz_X4_97 dX4_greatestRowTo_77 (fun t4 ht5 => ?_)
    refine z_bipush C dX4_greatestRowTo_80 (by decide) ?_
    refine z_iload_n C 0 dX4_greatestRowTo_82 rfl ?_
    refine z_cSp (st := [vi 8, .ref t4, vi (7 - x2)]) T C (ct_J6_bitCount_0f7a4 x1 hx1) lm_X4_100 ls_J6_bitCount_0f7a4 dX4_greatestRowTo_83 rfl rfl trivial (by decide) (Nat.le_of_ble_eq_true rfl) csOK_0 h (fun r6 hr7 h => ?_)
    show Z κ (0, 0) _ 86 _ [vi r6, vi 8, .ref t4, vi (7 - x2)] ad σ
    obtain ⟨hk8, h⟩ := wpO_ck.mp h
    refine z_isub C dX4_greatestRowTo_86 ?_
    obtain ⟨hb9, h⟩ := wpO_ck.mp h
    refine z_sald C ht5 hk8 hb9 dX4_greatestRowTo_87 ?_
    obtain ⟨hk10, h⟩ := wpO_ck.mp h
    refine z_imul C dX4_greatestRowTo_88 ?_
    refine z_istore (lv2 := [(5, vi ((7 - x2) * (nines (8 - r6).toNat))), (1, vi x1), (2, vi x2), (4, vi x4)]) C dX4_greatestRowTo_89 (by decide) rfl ?_
    refine z_iload C 3 dX4_greatestRowTo_91 rfl ?_
    refine z_if_ge C 100 hx4 dX4_greatestRowTo_93 (by decide) (fun q11 => ?_) (fun q11 => ?_)
    · have h := (wpO_ite.mp h).1 q11
      refine z_iload C 3 dX4_greatestRowTo_100 rfl ?_
      refine z_iload C 0 dX4_greatestRowTo_102 rfl ?_
      obtain ⟨hk12, h⟩ := wpO_ck.mp h
      refine z_iadd C dX4_greatestRowTo_104 ?_
      have h := wpO_some.mp h
      exact z_ireturn T C dX4_greatestRowTo_105 hk12 rfl h
    · have h := (wpO_ite.mp h).2 q11
      refine z_iconst C dX4_greatestRowTo_96 ?_
      refine z_goto C 105 dX4_greatestRowTo_97 (by decide) ?_
      have h := wpO_some.mp h
      exact z_ireturn T C dX4_greatestRowTo_105 (by decide) rfl h
  have J21 : ∀ (x1 : Int) (x2 : Int) (x3 : Int) (x4 : Int) (x5 : Int), inr x1 → inr x2 → inr x3 → inr x4 → inr x5 → wpO (fX4_greatestRowTo_j21 x1 x2 x3 x4 x5 σ) (fun r => X r σ) → Z κ (0, 0) (Qm κ ad σ enI okI X) 21 [(0, vo ad 4 (some 0)), (1, vi x1), (2, vi x2), (3, vi x3), (4, vi x4), (5, vi x5)] [] ad σ := by
    intro x1 x2 x3 x4 x5 hx1 hx2 hx3 hx4 hx5 h
    unfold fX4_greatestRowTo_j21 at h
    have step : ∀ (P21 : (Int × Int) → Prop) (Q21 : Int → Prop), (∀ (x4 : Int) (x5 : Int), P21 ((x4, x5)) → inr x4 → inr x5 → Z κ (0, 0) (Qm κ ad σ enI okI X) 21 [(0, vo ad 4 (some 0)), (1, vi x1), (2, vi x2), (3, vi x3), (4, vi x4), (5, vi x5)] [] ad σ) → (∀ (x4 : Int), Q21 (x4) → inr x4 → Z κ (0, 0) (Qm κ ad σ enI okI X) 73 [(1, vi x1), (2, vi x2), (4, vi x4)] [] ad σ) → ∀ (x4 : Int) (x5 : Int), inr x4 → inr x5 → wpO (fX4_greatestRowTo_l21 x1 x2 x3 σ x4 x5) (onS P21 Q21) → Z κ (0, 0) (Qm κ ad σ enI okI X) 21 [(0, vo ad 4 (some 0)), (1, vi x1), (2, vi x2), (3, vi x3), (4, vi x4), (5, vi x5)] [] ad σ := by
      intro P21 Q21 hP21 hE21_73 x4 x5 hx4 hx5 h
      unfold fX4_greatestRowTo_l21 at h
      have J67 : ∀ (x4 : Int) (x5 : Int), inr x4 → inr x5 → wpO (fX4_greatestRowTo_j67 x1 x2 x3 x4 x5 σ) (onS P21 Q21) → Z κ (0, 0) (Qm κ ad σ enI okI X) 67 [(0, vo ad 4 (some 0)), (1, vi x1), (2, vi x2), (3, vi x3), (4, vi x4), (5, vi x5)] [] ad σ := by
        intro x4 x5 hx4 hx5 h
        unfold fX4_greatestRowTo_j67 at h
        refine z_rng (fun hI13 hJ14 => ?_)
        obtain ⟨hk15, h⟩ := wpO_ck.mp h
        refine z_iinc (lv2 := [(5, vi (x5 + 1)), (0, vo ad 4 (some 0)), (1, vi x1), (2, vi x2), (3, vi x3), (4, vi x4)]) C 5 dX4_greatestRowTo_67 rfl (by decide) rfl ?_
        refine z_goto C 21 dX4_greatestRowTo_70 (by decide) ?_
        refine z_sub [1, 2, 3, 4, 5, 0] rfl ?_
        have h := wpO_some.mp h
        exact hP21 x4 (x5 + 1) h hx4 hk15
      refine z_rng (fun hI16 hJ17 => ?_)
      refine z_iload C 5 dX4_greatestRowTo_21 rfl ?_
      refine z_aload_n C 0 dX4_greatestRowTo_23 rfl ?_
      refine z_gIv (v := gI σ 504 0 0) C li_X4_43 (sg_4 T) rfl dX4_greatestRowTo_24 ?_
      refine z_icmp_ge C 73 hx5 (hI16 504 0 _) dX4_greatestRowTo_27 (by decide) (fun q18 => ?_) (fun q18 => ?_)
      · have h := (wpO_ite.mp h).1 q18
        refine z_sub [1, 2, 4] rfl ?_
        have h := wpO_some.mp h
        exact hE21_73 x4 h hx4
      · have h := (wpO_ite.mp h).2 q18
        refine z_iload_n C 3 dX4_greatestRowTo_30 rfl ?_
        refine z_aload_n C 0 dX4_greatestRowTo_31 rfl ?_
        refine z_gA T C li_X4_18 (sg_4 T) dX4_greatestRowTo_32 ?_
        refine z_iload_n C 2 dX4_greatestRowTo_35 rfl ?_
        obtain ⟨hb19, h⟩ := wpO_ck.mp h
        refine z_iav (v := gI σ 502 0 x2.toNat) C ar_502 (sg_502 T) hx2 hb19 rfl dX4_greatestRowTo_36 ?_
        refine z_iconst C dX4_greatestRowTo_37 ?_
        refine z_ixor C dX4_greatestRowTo_38 ?_
        refine z_iand C dX4_greatestRowTo_39 ?_
        refine z_iload C 5 dX4_greatestRowTo_40 rfl ?_
        refine z_cSp (st := []) T C (ct_X11_hasMember (iand x3 (ixor (gI σ 502 0 x2.toNat) ((-1)))) x5 (inr_iand _ _) hx5) lm_X4_31 ls_X11_hasMember dX4_greatestRowTo_42 rfl rfl trivial (by decide) (Nat.le_of_ble_eq_true rfl) csOK_0 h (fun r20 hr21 h => ?_)
        show Z κ (0, 0) _ 45 _ [vi r20] ad σ
        refine z_if_eq C 67 (inr_b hr21) dX4_greatestRowTo_45 (by decide) (fun q22 => ?_) (fun q22 => ?_)
        · have h := (wpO_ite.mp h).1 q22
          exact J67 x4 x5 hx4 hx5 h
        · have h := (wpO_ite.mp h).2 q22
          refine z_iload C 4 dX4_greatestRowTo_48 rfl ?_
          refine z_aload_n C 0 dX4_greatestRowTo_50 rfl ?_
          refine z_gA T C li_X4_28 (sg_4 T) dX4_greatestRowTo_51 ?_
          refine z_iload_n C 3 dX4_greatestRowTo_54 rfl ?_
          refine z_bipush C dX4_greatestRowTo_55 (by decide) ?_
          obtain ⟨hk23, h⟩ := wpO_ck.mp h
          refine z_imul C dX4_greatestRowTo_57 ?_
          refine z_iload C 5 dX4_greatestRowTo_58 rfl ?_
          obtain ⟨hk24, h⟩ := wpO_ck.mp h
          refine z_iadd C dX4_greatestRowTo_60 ?_
          obtain ⟨hb25, h⟩ := wpO_ck.mp h
          refine z_iav (v := gI σ 510 0 (((x3 * 8) + x5).toNat)) C ar_510 (sg_510 T) hk24 hb25 rfl dX4_greatestRowTo_61 ?_
          refine z_mmax (st := []) C lmm_X4_113 (lw_ug w_977 rfl) la_J9 ls_J9_max_7cf53 hx4 (hI16 510 0 _) (by decide) (Nat.le_of_ble_eq_true rfl) csOK_0 dX4_greatestRowTo_62 ?_
          refine z_istore (lv2 := [(4, vi (imax x4 (gI σ 510 0 (((x3 * 8) + x5).toNat)))), (0, vo ad 4 (some 0)), (1, vi x1), (2, vi x2), (3, vi x3), (5, vi x5)]) C dX4_greatestRowTo_65 (by decide) rfl ?_
          refine z_sub [1, 2, 3, 4, 0, 5] rfl ?_
          exact J67 (imax x4 (gI σ 510 0 (((x3 * 8) + x5).toNat))) x5 (inr_imax hx4 (hI16 510 0 _)) hx5 h
    exact wh_ind (P := fun s : (Int × Int) => inr s.1 → inr s.2 → Z κ (0, 0) (Qm κ ad σ enI okI X) 21 [(0, vo ad 4 (some 0)), (1, vi x1), (2, vi x2), (3, vi x3), (4, vi s.1), (5, vi s.2)] [] ad σ) (fun s hs g0 g1 => step _ _ (fun _ _ hp => hp) (fun x4 hq hx4 => J73 x1 x2 x4 hx1 hx2 hx4 hq) s.1 s.2 g0 g1 hs) ((x4, x5)) (wpO_bnk.mp h) hx4 hx5
  have J16 : ∀ (x1 : Int) (x2 : Int) (x3 : Int) (s0 : Int), inr x1 → inr x2 → inr x3 → inr s0 → wpO (fX4_greatestRowTo_j16 x1 x2 x3 s0 σ) (fun r => X r σ) → Z κ (0, 0) (Qm κ ad σ enI okI X) 16 [(0, vo ad 4 (some 0)), (1, vi x1), (2, vi x2), (3, vi x3)] [vi s0] ad σ := by
    intro x1 x2 x3 s0 hx1 hx2 hx3 hs0 h
    unfold fX4_greatestRowTo_j16 at h
    refine z_rng (fun hI26 hJ27 => ?_)
    refine z_istore (lv2 := [(4, vi s0), (0, vo ad 4 (some 0)), (1, vi x1), (2, vi x2), (3, vi x3)]) C dX4_greatestRowTo_16 (by decide) rfl ?_
    refine z_iconst C dX4_greatestRowTo_18 ?_
    refine z_istore (lv2 := [(5, vi 0), (4, vi s0), (0, vo ad 4 (some 0)), (1, vi x1), (2, vi x2), (3, vi x3)]) C dX4_greatestRowTo_19 (by decide) rfl ?_
    refine z_sub [2, 3, 4, 5, 1, 0] rfl ?_
    exact J21 x1 x2 x3 s0 0 hx1 hx2 hx3 hs0 (by decide) h
  show Z κ (0, 0) (Qm κ ad σ enI okI X) 0 [(0, vo ad 4 (some 0)), (1, vi x1), (2, vi x2)] [] ad σ
  refine z_rng (fun hI28 hJ29 => ?_)
  refine z_iload_n C 1 dX4_greatestRowTo_0 rfl ?_
  refine z_iload_n C 2 dX4_greatestRowTo_1 rfl ?_
  refine z_iconst C dX4_greatestRowTo_2 ?_
  refine z_cSp (st := []) T C (ct_X11_withMember x1 x2 0 hx1 hx2 (by decide)) lm_X4_35 ls_X11_withMember dX4_greatestRowTo_3 rfl rfl trivial (by decide) (Nat.le_of_ble_eq_true rfl) csOK_0 h (fun r30 hr31 h => ?_)
  show Z κ (0, 0) _ 6 _ [vi r30] ad σ
  refine z_istore_n (lv2 := [(3, vi r30), (0, vo ad 4 (some 0)), (1, vi x1), (2, vi x2)]) C dX4_greatestRowTo_6 (by decide) rfl ?_
  refine z_iload_n C 0 dX4_greatestRowTo_7 rfl ?_
  refine z_if_ne C 15 hr31 dX4_greatestRowTo_8 (by decide) (fun q32 => ?_) (fun q32 => ?_)
  · have h := (wpO_ite.mp h).2 q32
    refine z_iconst C dX4_greatestRowTo_15 ?_
    refine z_sub [1, 2, 3, 0] rfl ?_
    exact J16 x1 x2 r30 ((-1)) hx1 hx2 hr31 (by decide) h
  · have h := (wpO_ite.mp h).1 q32
    refine z_iconst C dX4_greatestRowTo_11 ?_
    refine z_goto C 16 dX4_greatestRowTo_12 (by decide) ?_
    refine z_sub [1, 2, 3, 0] rfl ?_
    exact J16 x1 x2 r30 0 hx1 hx2 hr31 (by decide) h
noncomputable def fX4_greatestRow_j54 (x2 : Int) (σ1 : St) : Option (Int × St) :=
  some (x2, σ1)
noncomputable def fX4_greatestRow_j48 (x1 : Int) (x2 : Int) (x3 : Int) (σ1 : St) : Option ((Int × Int × St) ⊕ (Int × St)) :=
  ck (inr (x3 + 1)) (some (.inl ((x2, x3 + 1, σ1))))
noncomputable def fX4_greatestRow_l4 (x1 : Int) (x2 : Int) (x3 : Int) (σ1 : St) : Option ((Int × Int × St) ⊕ (Int × St)) :=
  if gI σ1 504 0 0 ≤ x3 then (some (.inr ((x2, σ1)))) else (bnk (fX11_hasMember x1 x3) (fun r9 => if r9 = 0 then (fX4_greatestRow_j48 x1 x2 x3 σ1) else (bnk (fX4_greatestRowTo x1 x3 σ1) (fun r12 => ck (inr (x1 * 8)) (ck (inr ((x1 * 8) + x3)) (ck (0 ≤ (x1 * 8) + x3 ∧ (x1 * 8) + x3 < 2048) (fX4_greatestRow_j48 x1 (imax x2 r12) x3 (sI σ1 510 0 (((x1 * 8) + x3).toNat) r12))))))))
noncomputable def fX4_greatestRow_j4 (x1 : Int) (x2 : Int) (x3 : Int) (σ1 : St) : Option (Int × St) :=
  bnk (wh (fun s => fX4_greatestRow_l4 x1 s.1 s.2.1 s.2.2) ((x2, x3, σ1))) (fun e => fX4_greatestRow_j54 e.1 e.2)
noncomputable def fX4_greatestRow (x1 : Int) (σ : St) : Option (Int × St) :=
  fX4_greatestRow_j4 x1 ((-1)) 0 σ
set_option maxRecDepth 20000 in
set_option maxHeartbeats 4000000 in
theorem ct_X4_greatestRow (x1 : Int) (hx1 : inr x1) : Ct yX4_greatestRow cX4_greatestRow 5 (some .int) 2 (fun ad => [vo ad 4 (some 0), vi x1]) (fX4_greatestRow x1) enI okI (fun _ => True) := by
  refine Ct.of (by decide) (fun ad => Nat.le_of_ble_eq_true rfl) ?_
  intro κ ad σ X C T hpre h
  have C : Cx κ RX4 cX4_greatestRow 5 (some .int) 2 := C
  unfold fX4_greatestRow at h
  have J54 : ∀ (x2 : Int) (σ1 : St), inr x2 → σ1.2.2.2 = σ.2.2.2 → wpO (fX4_greatestRow_j54 x2 σ1) (fun q => X q.1 q.2) → Z κ (0, 0) (Qm κ ad σ enI okI X) 54 [(2, vi x2)] [] ad σ1 := by
    intro x2 σ1 hx2 eN1 h
    unfold fX4_greatestRow_j54 at h
    refine z_rng (fun hI1 hJ2 => ?_)
    refine z_iload_n C 0 dX4_greatestRow_54 rfl ?_
    have h := wpO_some.mp h
    exact z_ireturn T C dX4_greatestRow_55 hx2 eN1 h
  have J4 : ∀ (x1 : Int) (x2 : Int) (x3 : Int) (σ1 : St), inr x1 → inr x2 → inr x3 → σ1.2.2.2 = σ.2.2.2 → wpO (fX4_greatestRow_j4 x1 x2 x3 σ1) (fun q => X q.1 q.2) → Z κ (0, 0) (Qm κ ad σ enI okI X) 4 [(0, vo ad 4 (some 0)), (1, vi x1), (2, vi x2), (3, vi x3)] [] ad σ1 := by
    intro x1 x2 x3 σ1 hx1 hx2 hx3 eN1 h
    unfold fX4_greatestRow_j4 at h
    have step : ∀ (P4 : (Int × Int × St) → Prop) (Q4 : (Int × St) → Prop), (∀ (x2 : Int) (x3 : Int) (σ1 : St), P4 ((x2, x3, σ1)) → inr x2 → inr x3 → σ1.2.2.2 = σ.2.2.2 → Z κ (0, 0) (Qm κ ad σ enI okI X) 4 [(0, vo ad 4 (some 0)), (1, vi x1), (2, vi x2), (3, vi x3)] [] ad σ1) → (∀ (x2 : Int) (σ1 : St), Q4 ((x2, σ1)) → inr x2 → σ1.2.2.2 = σ.2.2.2 → Z κ (0, 0) (Qm κ ad σ enI okI X) 54 [(2, vi x2)] [] ad σ1) → ∀ (x2 : Int) (x3 : Int) (σ1 : St), inr x2 → inr x3 → σ1.2.2.2 = σ.2.2.2 → wpO (fX4_greatestRow_l4 x1 x2 x3 σ1) (onS P4 Q4) → Z κ (0, 0) (Qm κ ad σ enI okI X) 4 [(0, vo ad 4 (some 0)), (1, vi x1), (2, vi x2), (3, vi x3)] [] ad σ1 := by
      intro P4 Q4 hP4 hE4_54 x2 x3 σ1 hx2 hx3 eN1 h
      unfold fX4_greatestRow_l4 at h
      have J48 : ∀ (x2 : Int) (x3 : Int) (σ1 : St), inr x2 → inr x3 → σ1.2.2.2 = σ.2.2.2 → wpO (fX4_greatestRow_j48 x1 x2 x3 σ1) (onS P4 Q4) → Z κ (0, 0) (Qm κ ad σ enI okI X) 48 [(0, vo ad 4 (some 0)), (1, vi x1), (2, vi x2), (3, vi x3)] [] ad σ1 := by
        intro x2 x3 σ1 hx2 hx3 eN1 h
        unfold fX4_greatestRow_j48 at h
        refine z_rng (fun hI3 hJ4 => ?_)
        obtain ⟨hk5, h⟩ := wpO_ck.mp h
        refine z_iinc (lv2 := [(3, vi (x3 + 1)), (0, vo ad 4 (some 0)), (1, vi x1), (2, vi x2)]) C 3 dX4_greatestRow_48 rfl (by decide) rfl ?_
        refine z_goto C 4 dX4_greatestRow_51 (by decide) ?_
        refine z_sub [1, 2, 3, 0] rfl ?_
        have h := wpO_some.mp h
        exact hP4 x2 (x3 + 1) σ1 h hx2 hk5 eN1
      refine z_rng (fun hI6 hJ7 => ?_)
      refine z_iload_n C 3 dX4_greatestRow_4 rfl ?_
      refine z_aload_n C 0 dX4_greatestRow_5 rfl ?_
      refine z_gIv (v := gI σ1 504 0 0) C li_X4_43 (sg_4 T) rfl dX4_greatestRow_6 ?_
      refine z_icmp_ge C 54 hx3 (hI6 504 0 _) dX4_greatestRow_9 (by decide) (fun q8 => ?_) (fun q8 => ?_)
      · have h := (wpO_ite.mp h).1 q8
        refine z_sub [2] rfl ?_
        have h := wpO_some.mp h
        exact hE4_54 x2 σ1 h hx2 eN1
      · have h := (wpO_ite.mp h).2 q8
        refine z_iload_n C 1 dX4_greatestRow_12 rfl ?_
        refine z_iload_n C 3 dX4_greatestRow_13 rfl ?_
        refine z_cSp (st := []) T C (ct_X11_hasMember x1 x3 hx1 hx3) lm_X4_31 ls_X11_hasMember dX4_greatestRow_14 rfl rfl trivial (by decide) (Nat.le_of_ble_eq_true rfl) csOK_0 h (fun r9 hr10 h => ?_)
        show Z κ (0, 0) _ 17 _ [vi r9] ad σ1
        refine z_if_eq C 48 (inr_b hr10) dX4_greatestRow_17 (by decide) (fun q11 => ?_) (fun q11 => ?_)
        · have h := (wpO_ite.mp h).1 q11
          exact J48 x2 x3 σ1 hx2 hx3 eN1 h
        · have h := (wpO_ite.mp h).2 q11
          refine z_aload_n C 0 dX4_greatestRow_20 rfl ?_
          refine z_iload_n C 1 dX4_greatestRow_21 rfl ?_
          refine z_iload_n C 3 dX4_greatestRow_22 rfl ?_
          refine z_cVp (st := []) T C (ct_X4_greatestRowTo x1 x3 hx1 hx3) lm_X4_109 lv_vX4_greatestRowTo dX4_greatestRow_23 [vi x1, vi x3] rfl rfl rfl rfl rfl (sg_4 T) trivial (by decide) (Nat.le_of_ble_eq_true rfl) csOK_0 h (fun r12 hr13 h => ?_)
          show Z κ (0, 0) _ 26 _ [vi r12] ad σ1
          refine z_istore (lv2 := [(4, vi r12), (0, vo ad 4 (some 0)), (1, vi x1), (2, vi x2), (3, vi x3)]) C dX4_greatestRow_26 (by decide) rfl ?_
          refine z_aload_n C 1 dX4_greatestRow_28 rfl ?_
          refine z_gA T C li_X4_28 (sg_4 T) dX4_greatestRow_29 ?_
          refine z_iload_n C 2 dX4_greatestRow_32 rfl ?_
          refine z_bipush C dX4_greatestRow_33 (by decide) ?_
          obtain ⟨hk14, h⟩ := wpO_ck.mp h
          refine z_imul C dX4_greatestRow_35 ?_
          refine z_iload_n C 4 dX4_greatestRow_36 rfl ?_
          obtain ⟨hk15, h⟩ := wpO_ck.mp h
          refine z_iadd C dX4_greatestRow_37 ?_
          refine z_iload C 0 dX4_greatestRow_38 rfl ?_
          obtain ⟨hb16, h⟩ := wpO_ck.mp h
          refine z_iastore C ar_510 (sg_510 T) hk15 hb16 hr13 dX4_greatestRow_40 ?_
          refine z_iload_n C 3 dX4_greatestRow_41 rfl ?_
          refine z_iload C 0 dX4_greatestRow_42 rfl ?_
          refine z_mmax (st := []) C lmm_X4_113 (lw_ug w_977 rfl) la_J9 ls_J9_max_7cf53 hx2 hr13 (by decide) (Nat.le_of_ble_eq_true rfl) csOK_0 dX4_greatestRow_44 ?_
          refine z_istore_n (lv2 := [(2, vi (imax x2 r12)), (4, vi r12), (0, vo ad 4 (some 0)), (1, vi x1), (3, vi x3)]) C dX4_greatestRow_47 (by decide) rfl ?_
          refine z_sub [2, 3, 0, 4] rfl ?_
          exact J48 (imax x2 r12) x3 (sI σ1 510 0 (((x1 * 8) + x3).toNat) r12) (inr_imax hx2 hr13) hx3 eN1 h
    exact wh_ind (P := fun s : (Int × Int × St) => inr s.1 → inr s.2.1 → s.2.2.2.2.2 = σ.2.2.2 → Z κ (0, 0) (Qm κ ad σ enI okI X) 4 [(0, vo ad 4 (some 0)), (1, vi x1), (2, vi s.1), (3, vi s.2.1)] [] ad s.2.2) (fun s hs g0 g1 g2 => step _ _ (fun _ _ _ hp => hp) (fun x2 σ1 hq hx2 eN1 => J54 x2 σ1 hx2 eN1 hq) s.1 s.2.1 s.2.2 g0 g1 g2 hs) ((x2, x3, σ1)) (wpO_bnk.mp h) hx2 hx3 eN1
  show Z κ (0, 0) (Qm κ ad σ enI okI X) 0 [(0, vo ad 4 (some 0)), (1, vi x1)] [] ad σ
  refine z_rng (fun hI17 hJ18 => ?_)
  refine z_iconst C dX4_greatestRow_0 ?_
  refine z_istore_n (lv2 := [(2, vi ((-1))), (0, vo ad 4 (some 0)), (1, vi x1)]) C dX4_greatestRow_1 (by decide) rfl ?_
  refine z_iconst C dX4_greatestRow_2 ?_
  refine z_istore_n (lv2 := [(3, vi 0), (2, vi ((-1))), (0, vo ad 4 (some 0)), (1, vi x1)]) C dX4_greatestRow_3 (by decide) rfl ?_
  refine z_sub [2, 3, 1, 0] rfl ?_
  exact J4 x1 ((-1)) 0 σ hx1 (by decide) (by decide) rfl h
noncomputable def fX4_offer_j24 (x1 : Int) (x2 : Int) (σ1 : St) : Option (Unit × St) :=
  some ((), sI (sI σ1 511 0 0 x1) 512 0 0 x2)
noncomputable def fX4_offer (x1 : Int) (x2 : Int) (σ : St) : Option (Unit × St) :=
  if gI σ 511 0 0 < x1 then (fX4_offer_j24 x1 x2 σ) else (if x1 = gI σ 511 0 0 then (if x2 ≤ gI σ 512 0 0 then (some ((), σ)) else (fX4_offer_j24 x1 x2 σ)) else (some ((), σ)))
set_option maxRecDepth 20000 in
set_option maxHeartbeats 4000000 in
theorem ct_X4_offer (x1 : Int) (x2 : Int) (hx1 : inr x1) (hx2 : inr x2) : Ct yX4_offer cX4_offer 3 none 0 (fun ad => [vo ad 4 (some 0), vi x1, vi x2]) (fX4_offer x1 x2) enV okV (fun _ => True) := by
  refine Ct.of (by decide) (fun ad => Nat.le_of_ble_eq_true rfl) ?_
  intro κ ad σ X C T hpre h
  have C : Cx κ RX4 cX4_offer 3 none 0 := C
  unfold fX4_offer at h
  have J24 : ∀ (x1 : Int) (x2 : Int) (σ1 : St), inr x1 → inr x2 → σ1.2.2.2 = σ.2.2.2 → wpO (fX4_offer_j24 x1 x2 σ1) (fun q => X q.1 q.2) → Z κ (0, 0) (Qm κ ad σ enV okV X) 24 [(0, vo ad 4 (some 0)), (1, vi x1), (2, vi x2)] [] ad σ1 := by
    intro x1 x2 σ1 hx1 hx2 eN1 h
    unfold fX4_offer_j24 at h
    refine z_rng (fun hI1 hJ2 => ?_)
    refine z_aload_n C 0 dX4_offer_24 rfl ?_
    refine z_iload_n C 1 dX4_offer_25 rfl ?_
    refine z_pI C lq_X4_87 (sg_4 T) hx1 dX4_offer_26 ?_
    refine z_aload_n C 0 dX4_offer_29 rfl ?_
    refine z_iload_n C 2 dX4_offer_30 rfl ?_
    refine z_pI C lq_X4_90 (sg_4 T) hx2 dX4_offer_31 ?_
    have h := wpO_some.mp h
    exact z_return T C dX4_offer_34 eN1 h
  show Z κ (0, 0) (Qm κ ad σ enV okV X) 0 [(0, vo ad 4 (some 0)), (1, vi x1), (2, vi x2)] [] ad σ
  refine z_rng (fun hI3 hJ4 => ?_)
  refine z_iload_n C 1 dX4_offer_0 rfl ?_
  refine z_aload_n C 0 dX4_offer_1 rfl ?_
  refine z_gIv (v := gI σ 511 0 0) C li_X4_87 (sg_4 T) rfl dX4_offer_2 ?_
  refine z_icmp_gt C 24 hx1 (hI3 511 0 _) dX4_offer_5 (by decide) (fun q5 => ?_) (fun q5 => ?_)
  · have h := (wpO_ite.mp h).1 q5
    exact J24 x1 x2 σ hx1 hx2 rfl h
  · have h := (wpO_ite.mp h).2 q5
    refine z_iload_n C 1 dX4_offer_8 rfl ?_
    refine z_aload_n C 0 dX4_offer_9 rfl ?_
    refine z_gIv (v := gI σ 511 0 0) C li_X4_87 (sg_4 T) rfl dX4_offer_10 ?_
    refine z_icmp_ne C 34 hx1 (hI3 511 0 _) dX4_offer_13 (by decide) (fun q6 => ?_) (fun q6 => ?_)
    · have h := (wpO_ite.mp h).2 q6
      have h := wpO_some.mp h
      exact z_return T C dX4_offer_34 rfl h
    · have h := (wpO_ite.mp h).1 q6
      refine z_iload_n C 2 dX4_offer_16 rfl ?_
      refine z_aload_n C 0 dX4_offer_17 rfl ?_
      refine z_gIv (v := gI σ 512 0 0) C li_X4_90 (sg_4 T) rfl dX4_offer_18 ?_
      refine z_icmp_le C 34 hx2 (hI3 512 0 _) dX4_offer_21 (by decide) (fun q7 => ?_) (fun q7 => ?_)
      · have h := (wpO_ite.mp h).1 q7
        have h := wpO_some.mp h
        exact z_return T C dX4_offer_34 rfl h
      · have h := (wpO_ite.mp h).2 q7
        exact J24 x1 x2 σ hx1 hx2 rfl h
noncomputable def fX4_search_j104 (σ1 : St) : Option (Unit × St) :=
  some ((), σ1)
noncomputable def fX4_search_j98 (x1 : Int) (x2 : Int) (σ1 : St) : Option ((Int × St) ⊕ St) :=
  ck (inr (x2 + 1)) (some (.inl ((x2 + 1, σ1))))
noncomputable def fX4_search_l23 (x1 : Int) (x2 : Int) (σ1 : St) : Option ((Int × St) ⊕ St) :=
  if ishl 1 (gI σ1 504 0 0) ≤ x2 then (some (.inr σ1)) else (if iand x2 (ixor x1 ((-1))) = 0 then (bnd (fX4_greatestRow x2 σ1) (fun r10 σ12 => if r10 < 0 then (fX4_search_j98 x1 x2 σ12) else (if iand (gI σ12 507 0 0) (ixor x2 ((-1))) = 0 then (bnk (fX4_hasLength x2 σ12) (fun r19 => if r19 = 0 then (fX4_search_j98 x1 x2 σ12) else (bnk (fX4_sumOver x2 509 8 σ12) (fun r22 => bnk (fJ6_bitCount_0f7a4 x2) (fun r26 => ck (inr (8 - r26)) (ck (0 ≤ 8 - r26 ∧ 8 - r26 < 8) (ck (inr (r10 + (nines (8 - r26).toNat))) (ck (inr ((r10 + (nines (8 - r26).toNat)) - 1)) (bnd (fX4_offer r22 ((r10 + (nines (8 - r26).toNat)) - 1) σ12) (fun _ σ34 => fX4_search_j98 x1 x2 σ34)))))))))) else (fX4_search_j98 x1 x2 σ12)))) else (fX4_search_j98 x1 x2 σ1))
noncomputable def fX4_search_j23 (x1 : Int) (x2 : Int) (σ1 : St) : Option (Unit × St) :=
  bnk (wh (fun s => fX4_search_l23 x1 s.1 s.2) ((x2, σ1))) (fun e => fX4_search_j104 e)
noncomputable def fX4_search (σ : St) : Option (Unit × St) :=
  fX4_search_j23 (iand (gI σ 505 0 0) (gI σ 506 0 0)) 1 (sI (sI σ 511 0 0 ((-9))) 512 0 0 ((-1)))
set_option maxRecDepth 20000 in
set_option maxHeartbeats 4000000 in
theorem ct_X4_search  : Ct yX4_search cX4_search 4 none 3 (fun ad => [vo ad 4 (some 0)]) fX4_search enV okV (fun _ => True) := by
  refine Ct.of (by decide) (fun ad => Nat.le_of_ble_eq_true rfl) ?_
  intro κ ad σ X C T hpre h
  have C : Cx κ RX4 cX4_search 4 none 3 := C
  unfold fX4_search at h
  have J104 : ∀ (σ1 : St), σ1.2.2.2 = σ.2.2.2 → wpO (fX4_search_j104 σ1) (fun q => X q.1 q.2) → Z κ (0, 0) (Qm κ ad σ enV okV X) 104 [] [] ad σ1 := by
    intro σ1 eN1 h
    unfold fX4_search_j104 at h
    refine z_rng (fun hI1 hJ2 => ?_)
    have h := wpO_some.mp h
    exact z_return T C dX4_search_104 eN1 h
  have J23 : ∀ (x1 : Int) (x2 : Int) (σ1 : St), inr x1 → inr x2 → σ1.2.2.2 = σ.2.2.2 → wpO (fX4_search_j23 x1 x2 σ1) (fun q => X q.1 q.2) → Z κ (0, 0) (Qm κ ad σ enV okV X) 23 [(0, vo ad 4 (some 0)), (1, vi x1), (2, vi x2)] [] ad σ1 := by
    intro x1 x2 σ1 hx1 hx2 eN1 h
    unfold fX4_search_j23 at h
    have step : ∀ (P23 : (Int × St) → Prop) (Q23 : St → Prop), (∀ (x2 : Int) (σ1 : St), P23 ((x2, σ1)) → inr x2 → σ1.2.2.2 = σ.2.2.2 → Z κ (0, 0) (Qm κ ad σ enV okV X) 23 [(0, vo ad 4 (some 0)), (1, vi x1), (2, vi x2)] [] ad σ1) → (∀ (σ1 : St), Q23 (σ1) → σ1.2.2.2 = σ.2.2.2 → Z κ (0, 0) (Qm κ ad σ enV okV X) 104 [] [] ad σ1) → ∀ (x2 : Int) (σ1 : St), inr x2 → σ1.2.2.2 = σ.2.2.2 → wpO (fX4_search_l23 x1 x2 σ1) (onS P23 Q23) → Z κ (0, 0) (Qm κ ad σ enV okV X) 23 [(0, vo ad 4 (some 0)), (1, vi x1), (2, vi x2)] [] ad σ1 := by
      intro P23 Q23 hP23 hE23_104 x2 σ1 hx2 eN1 h
      unfold fX4_search_l23 at h
      have J98 : ∀ (x2 : Int) (σ1 : St), inr x2 → σ1.2.2.2 = σ.2.2.2 → wpO (fX4_search_j98 x1 x2 σ1) (onS P23 Q23) → Z κ (0, 0) (Qm κ ad σ enV okV X) 98 [(0, vo ad 4 (some 0)), (1, vi x1), (2, vi x2)] [] ad σ1 := by
        intro x2 σ1 hx2 eN1 h
        unfold fX4_search_j98 at h
        refine z_rng (fun hI3 hJ4 => ?_)
        obtain ⟨hk5, h⟩ := wpO_ck.mp h
        refine z_iinc (lv2 := [(2, vi (x2 + 1)), (0, vo ad 4 (some 0)), (1, vi x1)]) C 2 dX4_search_98 rfl (by decide) rfl ?_
        refine z_goto C 23 dX4_search_101 (by decide) ?_
        refine z_sub [1, 2, 0] rfl ?_
        have h := wpO_some.mp h
        exact hP23 (x2 + 1) σ1 h hk5 eN1
      refine z_rng (fun hI6 hJ7 => ?_)
      refine z_iload_n C 2 dX4_search_23 rfl ?_
      refine z_iconst C dX4_search_24 ?_
      refine z_aload_n C 0 dX4_search_25 rfl ?_
      refine z_gIv (v := gI σ1 504 0 0) C li_X4_43 (sg_4 T) rfl dX4_search_26 ?_
      refine z_ishl C dX4_search_29 ?_
      refine z_icmp_ge C 104 hx2 (inr_ishl _ _) dX4_search_30 (by decide) (fun q8 => ?_) (fun q8 => ?_)
      · have h := (wpO_ite.mp h).1 q8
        refine z_sub [] rfl ?_
        have h := wpO_some.mp h
        exact hE23_104 σ1 h eN1
      · have h := (wpO_ite.mp h).2 q8
        refine z_iload_n C 2 dX4_search_33 rfl ?_
        refine z_iload_n C 1 dX4_search_34 rfl ?_
        refine z_iconst C dX4_search_35 ?_
        refine z_ixor C dX4_search_36 ?_
        refine z_iand C dX4_search_37 ?_
        refine z_if_ne C 98 (inr_iand _ _) dX4_search_38 (by decide) (fun q9 => ?_) (fun q9 => ?_)
        · have h := (wpO_ite.mp h).2 q9
          exact J98 x2 σ1 hx2 eN1 h
        · have h := (wpO_ite.mp h).1 q9
          refine z_aload_n C 0 dX4_search_41 rfl ?_
          refine z_iload_n C 2 dX4_search_42 rfl ?_
          refine z_cV (st := []) T C (ct_X4_greatestRow x2 hx2) lm_X4_93 lv_vX4_greatestRow dX4_search_43 [vi x2] rfl rfl rfl rfl rfl (sg_4 T) trivial (by decide) (Nat.le_of_ble_eq_true rfl) csOK_0 h (fun r10 σ12 hr11 eN13 h => ?_)
          have eN14 := eN13.trans eN1
          show Z κ (0, 0) _ 46 _ [vi r10] ad σ12
          refine z_rng (fun hI15 hJ16 => ?_)
          refine z_istore_n (lv2 := [(3, vi r10), (0, vo ad 4 (some 0)), (1, vi x1), (2, vi x2)]) C dX4_search_46 (by decide) rfl ?_
          refine z_iload_n C 0 dX4_search_47 rfl ?_
          refine z_if_lt C 98 hr11 dX4_search_48 (by decide) (fun q17 => ?_) (fun q17 => ?_)
          · have h := (wpO_ite.mp h).1 q17
            refine z_sub [1, 2, 3] rfl ?_
            exact J98 x2 σ12 hx2 eN14 h
          · have h := (wpO_ite.mp h).2 q17
            refine z_aload_n C 1 dX4_search_51 rfl ?_
            refine z_gIv (v := gI σ12 507 0 0) C li_X4_52 (sg_4 T) rfl dX4_search_52 ?_
            refine z_iload_n C 3 dX4_search_55 rfl ?_
            refine z_iconst C dX4_search_56 ?_
            refine z_ixor C dX4_search_57 ?_
            refine z_iand C dX4_search_58 ?_
            refine z_if_ne C 98 (inr_iand _ _) dX4_search_59 (by decide) (fun q18 => ?_) (fun q18 => ?_)
            · have h := (wpO_ite.mp h).2 q18
              refine z_sub [1, 2, 3] rfl ?_
              exact J98 x2 σ12 hx2 eN14 h
            · have h := (wpO_ite.mp h).1 q18
              refine z_aload_n C 1 dX4_search_62 rfl ?_
              refine z_iload_n C 3 dX4_search_63 rfl ?_
              refine z_cVp (st := []) T C (ct_X4_hasLength x2 hx2) lm_X4_83 lv_vX4_hasLength dX4_search_64 [vi x2] rfl rfl rfl rfl rfl (sg_4 T) trivial (by decide) (Nat.le_of_ble_eq_true rfl) csOK_0 h (fun r19 hr20 h => ?_)
              show Z κ (0, 0) _ 67 _ [vi r19] ad σ12
              refine z_if_eq C 98 (inr_b hr20) dX4_search_67 (by decide) (fun q21 => ?_) (fun q21 => ?_)
              · have h := (wpO_ite.mp h).1 q21
                refine z_sub [1, 2, 3] rfl ?_
                exact J98 x2 σ12 hx2 eN14 h
              · have h := (wpO_ite.mp h).2 q21
                refine z_aload_n C 1 dX4_search_70 rfl ?_
                refine z_aload_n C 1 dX4_search_71 rfl ?_
                refine z_iload_n C 3 dX4_search_72 rfl ?_
                refine z_aload_n C 1 dX4_search_73 rfl ?_
                refine z_gA T C li_X4_25 (sg_4 T) dX4_search_74 ?_
                refine z_cVp (st := [vo ad 4 (some 0)]) T C (ct_X4_sumOver x2 509 8 hx2 ar_509 (fun T => sg_509 T) (by decide)) lm_X4_73 lv_vX4_sumOver dX4_search_77 [vi x2, vo ad 509 (some 0)] rfl rfl rfl rfl rfl (sg_4 T) trivial (by decide) (Nat.le_of_ble_eq_true rfl) csOK_0 h (fun r22 hr23 h => ?_)
                show Z κ (0, 0) _ 80 _ [vi r22, vo ad 4 (some 0)] ad σ12
                refine z_iload_n C 0 dX4_search_80 rfl ?_
                refine z_nines C lz_X4_97 dX4_search_81 (fun t24 ht25 => ?_)
                refine z_bipush C dX4_search_84 (by decide) ?_
                refine z_iload_n C 3 dX4_search_86 rfl ?_
                refine z_cSp (st := [vi 8, .ref t24, vi r10, vi r22, vo ad 4 (some 0)]) T C (ct_J6_bitCount_0f7a4 x2 hx2) lm_X4_100 ls_J6_bitCount_0f7a4 dX4_search_87 rfl rfl trivial (by decide) (Nat.le_of_ble_eq_true rfl) csOK_0 h (fun r26 hr27 h => ?_)
                show Z κ (0, 0) _ 90 _ [vi r26, vi 8, .ref t24, vi r10, vi r22, vo ad 4 (some 0)] ad σ12
                obtain ⟨hk28, h⟩ := wpO_ck.mp h
                refine z_isub C dX4_search_90 ?_
                obtain ⟨hb29, h⟩ := wpO_ck.mp h
                refine z_sald C ht25 hk28 hb29 dX4_search_91 ?_
                obtain ⟨hk30, h⟩ := wpO_ck.mp h
                refine z_iadd C dX4_search_92 ?_
                refine z_iconst C dX4_search_93 ?_
                obtain ⟨hk31, h⟩ := wpO_ck.mp h
                refine z_isub C dX4_search_94 ?_
                refine z_cV (st := []) T C (ct_X4_offer r22 ((r10 + (nines (8 - r26).toNat)) - 1) hr23 hk31) lm_X4_105 lv_vX4_offer dX4_search_95 [vi r22, vi ((r10 + (nines (8 - r26).toNat)) - 1)] rfl rfl rfl rfl rfl (sg_4 T) trivial (by decide) (Nat.le_of_ble_eq_true rfl) csOK_0 h (fun r32 σ34 hr33 eN35 h => ?_)
                have eN36 := eN35.trans eN14
                show Z κ (0, 0) _ 98 _ [] ad σ34
                refine z_rng (fun hI37 hJ38 => ?_)
                refine z_sub [1, 2, 3] rfl ?_
                exact J98 x2 σ34 hx2 eN36 h
    exact wh_ind (P := fun s : (Int × St) => inr s.1 → s.2.2.2.2 = σ.2.2.2 → Z κ (0, 0) (Qm κ ad σ enV okV X) 23 [(0, vo ad 4 (some 0)), (1, vi x1), (2, vi s.1)] [] ad s.2) (fun s hs g0 g1 => step _ _ (fun _ _ hp => hp) (fun σ1 hq eN1 => J104 σ1 eN1 hq) s.1 s.2 g0 g1 hs) ((x2, σ1)) (wpO_bnk.mp h) hx2 eN1
  show Z κ (0, 0) (Qm κ ad σ enV okV X) 0 [(0, vo ad 4 (some 0))] [] ad σ
  refine z_rng (fun hI39 hJ40 => ?_)
  refine z_aload_n C 0 dX4_search_0 rfl ?_
  refine z_bipush C dX4_search_1 (by decide) ?_
  refine z_pI C lq_X4_87 (sg_4 T) (by decide) dX4_search_3 ?_
  refine z_aload_n C 0 dX4_search_6 rfl ?_
  refine z_iconst C dX4_search_7 ?_
  refine z_pI C lq_X4_90 (sg_4 T) (by decide) dX4_search_8 ?_
  refine z_aload_n C 0 dX4_search_11 rfl ?_
  refine z_gIv (v := gI σ 505 0 0) C li_X4_46 (sg_4 T) (gn (by decide) (gn (by decide) rfl)) dX4_search_12 ?_
  refine z_aload_n C 0 dX4_search_15 rfl ?_
  refine z_gIv (v := gI σ 506 0 0) C li_X4_49 (sg_4 T) (gn (by decide) (gn (by decide) rfl)) dX4_search_16 ?_
  refine z_iand C dX4_search_19 ?_
  refine z_istore_n (lv2 := [(1, vi (iand (gI σ 505 0 0) (gI σ 506 0 0))), (0, vo ad 4 (some 0))]) C dX4_search_20 (by decide) rfl ?_
  refine z_iconst C dX4_search_21 ?_
  refine z_istore_n (lv2 := [(2, vi 1), (1, vi (iand (gI σ 505 0 0) (gI σ 506 0 0))), (0, vo ad 4 (some 0))]) C dX4_search_22 (by decide) rfl ?_
  refine z_sub [2, 1, 0] rfl ?_
  exact J23 (iand (gI σ 505 0 0) (gI σ 506 0 0)) 1 (sI (sI σ 511 0 0 ((-9))) 512 0 0 ((-1))) (inr_iand _ _) (by decide) rfl h
noncomputable def fX11_reel (x1 : Int) (x2 : Int) (σ : St) : Option (Int × St) :=
  bnk (fX11_refuseLandDay x1 x2) (fun r3 => if r3 = 0 then (bnd (fX11_listStories x1 x2 σ) (fun _ σ8 => bnd (fX4_search σ8) (fun _ σ14 => some (gI σ14 511 0 0, σ14)))) else (some (r3, σ)))
set_option maxRecDepth 20000 in
set_option maxHeartbeats 4000000 in
theorem ct_X11_reel (x1 : Int) (x2 : Int) (hx1 : inr x1) (hx2 : inr x2) : Ct yX11_reel cX11_reel 4 (some .int) 6 (fun ad => [vo ad 11 (some 0), vi x1, vi x2]) (fX11_reel x1 x2) enI okI (fun _ => True) := by
  refine Ct.of (by decide) (fun ad => Nat.le_of_ble_eq_true rfl) ?_
  intro κ ad σ X C T hpre h
  have C : Cx κ RX11 cX11_reel 4 (some .int) 6 := C
  unfold fX11_reel at h
  show Z κ (0, 0) (Qm κ ad σ enI okI X) 0 [(0, vo ad 11 (some 0)), (1, vi x1), (2, vi x2)] [] ad σ
  refine z_rng (fun hI1 hJ2 => ?_)
  refine z_iload_n C 1 dX11_reel_0 rfl ?_
  refine z_iload_n C 2 dX11_reel_1 rfl ?_
  refine z_cSp (st := []) T C (ct_X11_refuseLandDay x1 x2 hx1 hx2) lm_X11_321 ls_X11_refuseLandDay dX11_reel_2 rfl rfl trivial (by decide) (Nat.le_of_ble_eq_true rfl) csOK_0 h (fun r3 hr4 h => ?_)
  show Z κ (0, 0) _ 5 _ [vi r3] ad σ
  refine z_istore_n (lv2 := [(3, vi r3), (0, vo ad 11 (some 0)), (1, vi x1), (2, vi x2)]) C dX11_reel_5 (by decide) rfl ?_
  refine z_iload_n C 0 dX11_reel_6 rfl ?_
  refine z_if_eq C 12 hr4 dX11_reel_7 (by decide) (fun q5 => ?_) (fun q5 => ?_)
  · have h := (wpO_ite.mp h).1 q5
    refine z_aload_n C 1 dX11_reel_12 rfl ?_
    refine z_iload_n C 2 dX11_reel_13 rfl ?_
    refine z_iload_n C 3 dX11_reel_14 rfl ?_
    refine z_cV (st := []) T C (ct_X11_listStories x1 x2 hx1 hx2) lm_X11_325 lv_vX11_listStories dX11_reel_15 [vi x1, vi x2] rfl rfl rfl rfl rfl (sg_11 T) trivial (by decide) (Nat.le_of_ble_eq_true rfl) csOK_0 h (fun r6 σ8 hr7 eN9 h => ?_)
    show Z κ (0, 0) _ 18 _ [] ad σ8
    refine z_rng (fun hI10 hJ11 => ?_)
    refine z_aload_n C 1 dX11_reel_18 rfl ?_
    refine z_gR T C li_X11_65 (sg_11 T) dX11_reel_19 ?_
    refine z_cV (st := []) T C ct_X4_search lm_X11_329 lv_vX4_search dX11_reel_22 [] rfl rfl rfl rfl rfl (sg_4 T) trivial (by decide) (Nat.le_of_ble_eq_true rfl) csOK_0 h (fun r12 σ14 hr13 eN15 h => ?_)
    have eN16 := eN15.trans eN9
    show Z κ (0, 0) _ 25 _ [] ad σ14
    refine z_rng (fun hI17 hJ18 => ?_)
    refine z_aload_n C 1 dX11_reel_25 rfl ?_
    refine z_gR T C li_X11_65 (sg_11 T) dX11_reel_26 ?_
    refine z_gIv (v := gI σ14 511 0 0) C li_X11_332 (sg_4 T) rfl dX11_reel_29 ?_
    have h := wpO_some.mp h
    exact z_ireturn T C dX11_reel_32 (hI17 511 0 _) eN16 h
  · have h := (wpO_ite.mp h).2 q5
    refine z_iload_n C 0 dX11_reel_10 rfl ?_
    have h := wpO_some.mp h
    exact z_ireturn T C dX11_reel_11 hr4 rfl h
noncomputable def fX4_bestStory_j44 (x2 : Int) (σ : St) : Option Int :=
  if irem x2 9 = 8 then (some ((-9))) else (ck (inr (7 - (irem x2 9))) (some (7 - (irem x2 9))))
noncomputable def fX4_bestStory_l28 (x1 : Int) (σ : St) (x2 : Int) (x3 : Int) : Option ((Int × Int) ⊕ Int) :=
  if x3 ≤ x1 then (some (.inr x2)) else (ck (inr (x3 + (-1))) (some (.inl ((idiv x2 9, x3 + (-1))))))
noncomputable def fX4_bestStory_j28 (x1 : Int) (x2 : Int) (x3 : Int) (σ : St) : Option Int :=
  bnk (wh (fun s => fX4_bestStory_l28 x1 σ s.1 s.2) ((x2, x3))) (fun e => fX4_bestStory_j44 e σ)
noncomputable def fX4_bestStory (x1 : Int) (σ : St) : Option Int :=
  if gI σ 512 0 0 < 0 then (some ((-9))) else (bnk (fX11_within x1 0 7) (fun r12 => if r12 = 0 then (some ((-9))) else (fX4_bestStory_j28 x1 (gI σ 512 0 0) 7 σ)))
set_option maxRecDepth 20000 in
set_option maxHeartbeats 4000000 in
theorem ct_X4_bestStory (x1 : Int) (hx1 : inr x1) : Ct yX4_bestStory cX4_bestStory 4 (some .int) 1 (fun ad => [vo ad 4 (some 0), vi x1]) (pu (fX4_bestStory x1)) enI okI (fun _ => True) := by
  refine Ct.of (by decide) (fun ad => Nat.le_of_ble_eq_true rfl) ?_
  intro κ ad σ X C T hpre h
  have C : Cx κ RX4 cX4_bestStory 4 (some .int) 1 := C
  have h := wpO_pu.mp h
  unfold fX4_bestStory at h
  have J44 : ∀ (x2 : Int), inr x2 → wpO (fX4_bestStory_j44 x2 σ) (fun r => X r σ) → Z κ (0, 0) (Qm κ ad σ enI okI X) 44 [(2, vi x2)] [] ad σ := by
    intro x2 hx2 h
    unfold fX4_bestStory_j44 at h
    refine z_rng (fun hI1 hJ2 => ?_)
    refine z_iload_n C 0 dX4_bestStory_44 rfl ?_
    refine z_bipush C dX4_bestStory_45 (by decide) ?_
    refine z_irem C (by decide) (by decide) dX4_bestStory_47 ?_
    refine z_istore_n (lv2 := [(3, vi (irem x2 9)), (2, vi x2)]) C dX4_bestStory_48 (by decide) rfl ?_
    refine z_iload_n C 0 dX4_bestStory_49 rfl ?_
    refine z_bipush C dX4_bestStory_50 (by decide) ?_
    refine z_icmp_ne C 60 (inr_irem _ _) (by decide) dX4_bestStory_52 (by decide) (fun q3 => ?_) (fun q3 => ?_)
    · have h := (wpO_ite.mp h).2 q3
      refine z_bipush C dX4_bestStory_60 (by decide) ?_
      refine z_iload_n C 0 dX4_bestStory_62 rfl ?_
      obtain ⟨hk4, h⟩ := wpO_ck.mp h
      refine z_isub C dX4_bestStory_63 ?_
      have h := wpO_some.mp h
      exact z_ireturn T C dX4_bestStory_64 hk4 rfl h
    · have h := (wpO_ite.mp h).1 q3
      refine z_bipush C dX4_bestStory_55 (by decide) ?_
      refine z_goto C 64 dX4_bestStory_57 (by decide) ?_
      have h := wpO_some.mp h
      exact z_ireturn T C dX4_bestStory_64 (by decide) rfl h
  have J28 : ∀ (x1 : Int) (x2 : Int) (x3 : Int), inr x1 → inr x2 → inr x3 → wpO (fX4_bestStory_j28 x1 x2 x3 σ) (fun r => X r σ) → Z κ (0, 0) (Qm κ ad σ enI okI X) 28 [(1, vi x1), (2, vi x2), (3, vi x3)] [] ad σ := by
    intro x1 x2 x3 hx1 hx2 hx3 h
    unfold fX4_bestStory_j28 at h
    have step : ∀ (P28 : (Int × Int) → Prop) (Q28 : Int → Prop), (∀ (x2 : Int) (x3 : Int), P28 ((x2, x3)) → inr x2 → inr x3 → Z κ (0, 0) (Qm κ ad σ enI okI X) 28 [(1, vi x1), (2, vi x2), (3, vi x3)] [] ad σ) → (∀ (x2 : Int), Q28 (x2) → inr x2 → Z κ (0, 0) (Qm κ ad σ enI okI X) 44 [(2, vi x2)] [] ad σ) → ∀ (x2 : Int) (x3 : Int), inr x2 → inr x3 → wpO (fX4_bestStory_l28 x1 σ x2 x3) (onS P28 Q28) → Z κ (0, 0) (Qm κ ad σ enI okI X) 28 [(1, vi x1), (2, vi x2), (3, vi x3)] [] ad σ := by
      intro P28 Q28 hP28 hE28_44 x2 x3 hx2 hx3 h
      unfold fX4_bestStory_l28 at h
      refine z_rng (fun hI5 hJ6 => ?_)
      refine z_iload_n C 2 dX4_bestStory_28 rfl ?_
      refine z_iload_n C 0 dX4_bestStory_29 rfl ?_
      refine z_icmp_le C 44 hx3 hx1 dX4_bestStory_30 (by decide) (fun q7 => ?_) (fun q7 => ?_)
      · have h := (wpO_ite.mp h).1 q7
        refine z_sub [1] rfl ?_
        have h := wpO_some.mp h
        exact hE28_44 x2 h hx2
      · have h := (wpO_ite.mp h).2 q7
        refine z_iload_n C 1 dX4_bestStory_33 rfl ?_
        refine z_bipush C dX4_bestStory_34 (by decide) ?_
        refine z_idiv C (by decide) (by decide) dX4_bestStory_36 ?_
        refine z_istore_n (lv2 := [(2, vi (idiv x2 9)), (1, vi x1), (3, vi x3)]) C dX4_bestStory_37 (by decide) rfl ?_
        obtain ⟨hk8, h⟩ := wpO_ck.mp h
        refine z_iinc (lv2 := [(3, vi (x3 + (-1))), (2, vi (idiv x2 9)), (1, vi x1)]) C 2 dX4_bestStory_38 rfl (by decide) rfl ?_
        refine z_goto C 28 dX4_bestStory_41 (by decide) ?_
        refine z_sub [2, 1, 0] rfl ?_
        have h := wpO_some.mp h
        exact hP28 (idiv x2 9) (x3 + (-1)) h (inr_idiv _ _) hk8
    exact wh_ind (P := fun s : (Int × Int) => inr s.1 → inr s.2 → Z κ (0, 0) (Qm κ ad σ enI okI X) 28 [(1, vi x1), (2, vi s.1), (3, vi s.2)] [] ad σ) (fun s hs g0 g1 => step _ _ (fun _ _ hp => hp) (fun x2 hq hx2 => J44 x2 hx2 hq) s.1 s.2 g0 g1 hs) ((x2, x3)) (wpO_bnk.mp h) hx2 hx3
  show Z κ (0, 0) (Qm κ ad σ enI okI X) 0 [(0, vo ad 4 (some 0)), (1, vi x1)] [] ad σ
  refine z_rng (fun hI9 hJ10 => ?_)
  refine z_aload_n C 0 dX4_bestStory_0 rfl ?_
  refine z_gIv (v := gI σ 512 0 0) C li_X4_90 (sg_4 T) rfl dX4_bestStory_1 ?_
  refine z_if_lt C 17 (hI9 512 0 _) dX4_bestStory_4 (by decide) (fun q11 => ?_) (fun q11 => ?_)
  · have h := (wpO_ite.mp h).1 q11
    refine z_bipush C dX4_bestStory_17 (by decide) ?_
    have h := wpO_some.mp h
    exact z_ireturn T C dX4_bestStory_19 (by decide) rfl h
  · have h := (wpO_ite.mp h).2 q11
    refine z_iload_n C 1 dX4_bestStory_7 rfl ?_
    refine z_iconst C dX4_bestStory_8 ?_
    refine z_bipush C dX4_bestStory_9 (by decide) ?_
    refine z_cSp (st := []) T C (ct_X11_within x1 0 7 hx1 (by decide) (by decide)) lm_X4_77 ls_X11_within dX4_bestStory_11 rfl rfl trivial (by decide) (Nat.le_of_ble_eq_true rfl) csOK_0 h (fun r12 hr13 h => ?_)
    show Z κ (0, 0) _ 14 _ [vi r12] ad σ
    refine z_if_ne C 20 (inr_b hr13) dX4_bestStory_14 (by decide) (fun q14 => ?_) (fun q14 => ?_)
    · have h := (wpO_ite.mp h).2 q14
      refine z_aload_n C 0 dX4_bestStory_20 rfl ?_
      refine z_gIv (v := gI σ 512 0 0) C li_X4_90 (sg_4 T) rfl dX4_bestStory_21 ?_
      refine z_istore_n (lv2 := [(2, vi (gI σ 512 0 0)), (0, vo ad 4 (some 0)), (1, vi x1)]) C dX4_bestStory_24 (by decide) rfl ?_
      refine z_bipush C dX4_bestStory_25 (by decide) ?_
      refine z_istore_n (lv2 := [(3, vi 7), (2, vi (gI σ 512 0 0)), (0, vo ad 4 (some 0)), (1, vi x1)]) C dX4_bestStory_27 (by decide) rfl ?_
      refine z_sub [3, 1, 0] rfl ?_
      exact J28 x1 (gI σ 512 0 0) 7 hx1 (hI9 512 0 _) (by decide) h
    · have h := (wpO_ite.mp h).1 q14
      refine z_bipush C dX4_bestStory_17 (by decide) ?_
      have h := wpO_some.mp h
      exact z_ireturn T C dX4_bestStory_19 (by decide) rfl h
noncomputable def fX11_reelAt (x1 : Int) (x2 : Int) (x3 : Int) (σ : St) : Option (Int × St) :=
  bnk (fX11_refuseLandDay x1 x2) (fun r3 => if r3 = 0 then (bnd (fX11_listStories x1 x2 σ) (fun _ σ8 => bnd (fX4_search σ8) (fun _ σ14 => bnk (fX4_bestStory x3 σ14) (fun r19 => some (r19, σ14))))) else (some (r3, σ)))
set_option maxRecDepth 20000 in
set_option maxHeartbeats 4000000 in
theorem ct_X11_reelAt (x1 : Int) (x2 : Int) (x3 : Int) (hx1 : inr x1) (hx2 : inr x2) (hx3 : inr x3) : Ct yX11_reelAt cX11_reelAt 5 (some .int) 6 (fun ad => [vo ad 11 (some 0), vi x1, vi x2, vi x3]) (fX11_reelAt x1 x2 x3) enI okI (fun _ => True) := by
  refine Ct.of (by decide) (fun ad => Nat.le_of_ble_eq_true rfl) ?_
  intro κ ad σ X C T hpre h
  have C : Cx κ RX11 cX11_reelAt 5 (some .int) 6 := C
  unfold fX11_reelAt at h
  show Z κ (0, 0) (Qm κ ad σ enI okI X) 0 [(0, vo ad 11 (some 0)), (1, vi x1), (2, vi x2), (3, vi x3)] [] ad σ
  refine z_rng (fun hI1 hJ2 => ?_)
  refine z_iload_n C 1 dX11_reelAt_0 rfl ?_
  refine z_iload_n C 2 dX11_reelAt_1 rfl ?_
  refine z_cSp (st := []) T C (ct_X11_refuseLandDay x1 x2 hx1 hx2) lm_X11_321 ls_X11_refuseLandDay dX11_reelAt_2 rfl rfl trivial (by decide) (Nat.le_of_ble_eq_true rfl) csOK_0 h (fun r3 hr4 h => ?_)
  show Z κ (0, 0) _ 5 _ [vi r3] ad σ
  refine z_istore (lv2 := [(4, vi r3), (0, vo ad 11 (some 0)), (1, vi x1), (2, vi x2), (3, vi x3)]) C dX11_reelAt_5 (by decide) rfl ?_
  refine z_iload C 0 dX11_reelAt_7 rfl ?_
  refine z_if_eq C 15 hr4 dX11_reelAt_9 (by decide) (fun q5 => ?_) (fun q5 => ?_)
  · have h := (wpO_ite.mp h).1 q5
    refine z_aload_n C 1 dX11_reelAt_15 rfl ?_
    refine z_iload_n C 2 dX11_reelAt_16 rfl ?_
    refine z_iload_n C 3 dX11_reelAt_17 rfl ?_
    refine z_cV (st := []) T C (ct_X11_listStories x1 x2 hx1 hx2) lm_X11_325 lv_vX11_listStories dX11_reelAt_18 [vi x1, vi x2] rfl rfl rfl rfl rfl (sg_11 T) trivial (by decide) (Nat.le_of_ble_eq_true rfl) csOK_0 h (fun r6 σ8 hr7 eN9 h => ?_)
    show Z κ (0, 0) _ 21 _ [] ad σ8
    refine z_rng (fun hI10 hJ11 => ?_)
    refine z_aload_n C 1 dX11_reelAt_21 rfl ?_
    refine z_gR T C li_X11_65 (sg_11 T) dX11_reelAt_22 ?_
    refine z_cV (st := []) T C ct_X4_search lm_X11_329 lv_vX4_search dX11_reelAt_25 [] rfl rfl rfl rfl rfl (sg_4 T) trivial (by decide) (Nat.le_of_ble_eq_true rfl) csOK_0 h (fun r12 σ14 hr13 eN15 h => ?_)
    have eN16 := eN15.trans eN9
    show Z κ (0, 0) _ 28 _ [] ad σ14
    refine z_rng (fun hI17 hJ18 => ?_)
    refine z_aload_n C 1 dX11_reelAt_28 rfl ?_
    refine z_gR T C li_X11_65 (sg_11 T) dX11_reelAt_29 ?_
    refine z_iload_n C 4 dX11_reelAt_32 rfl ?_
    refine z_cVp (st := []) T C (ct_X4_bestStory x3 hx3) lm_X11_335 lv_vX4_bestStory dX11_reelAt_33 [vi x3] rfl rfl rfl rfl rfl (sg_4 T) trivial (by decide) (Nat.le_of_ble_eq_true rfl) csOK_0 h (fun r19 hr20 h => ?_)
    show Z κ (0, 0) _ 36 _ [vi r19] ad σ14
    have h := wpO_some.mp h
    exact z_ireturn T C dX11_reelAt_36 hr20 eN16 h
  · have h := (wpO_ite.mp h).2 q5
    refine z_iload C 0 dX11_reelAt_12 rfl ?_
    have h := wpO_some.mp h
    exact z_ireturn T C dX11_reelAt_14 hr4 rfl h
noncomputable def fX11_reserve (x1 : Int) (x2 : Int) (σ : St) : Option (Int × St) :=
  bnk (fX11_isSubject x1) (fun r3 => if r3 = 0 then (some ((-2), σ)) else (bnk (fX11_hasMember (gI σ 1212 0 0) x1) (fun r6 => bnk (fX11_withMember (gI σ 1212 0 0) x1 x2) (fun r8 => bnk (fX11_asNumber r6) (fun r10 => some (r10, sI σ 1212 0 0 r8))))))
set_option maxRecDepth 20000 in
set_option maxHeartbeats 4000000 in
theorem ct_X11_reserve (x1 : Int) (x2 : Int) (hx1 : inr x1) (hx2 : x2 = 0 ∨ x2 = 1) : Ct yX11_reserve cX11_reserve 4 (some .int) 2 (fun ad => [vo ad 11 (some 0), vi x1, vi x2]) (fX11_reserve x1 x2) enI okI (fun _ => True) := by
  refine Ct.of (by decide) (fun ad => Nat.le_of_ble_eq_true rfl) ?_
  intro κ ad σ X C T hpre h
  have C : Cx κ RX11 cX11_reserve 4 (some .int) 2 := C
  unfold fX11_reserve at h
  show Z κ (0, 0) (Qm κ ad σ enI okI X) 0 [(0, vo ad 11 (some 0)), (1, vi x1), (2, vi x2)] [] ad σ
  refine z_rng (fun hI1 hJ2 => ?_)
  refine z_iload_n C 1 dX11_reserve_0 rfl ?_
  refine z_cSp (st := []) T C (ct_X11_isSubject x1 hx1) lm_X11_122 ls_X11_isSubject dX11_reserve_1 rfl rfl trivial (by decide) (Nat.le_of_ble_eq_true rfl) csOK_0 h (fun r3 hr4 h => ?_)
  show Z κ (0, 0) _ 4 _ [vi r3] ad σ
  refine z_if_ne C 10 (inr_b hr4) dX11_reserve_4 (by decide) (fun q5 => ?_) (fun q5 => ?_)
  · have h := (wpO_ite.mp h).2 q5
    refine z_aload_n C 0 dX11_reserve_10 rfl ?_
    refine z_gIv (v := gI σ 1212 0 0) C li_X11_287 (sg_11 T) rfl dX11_reserve_11 ?_
    refine z_iload_n C 1 dX11_reserve_14 rfl ?_
    refine z_cSp (st := []) T C (ct_X11_hasMember (gI σ 1212 0 0) x1 (hI1 1212 0 _) hx1) lm_X11_290 ls_X11_hasMember dX11_reserve_15 rfl rfl trivial (by decide) (Nat.le_of_ble_eq_true rfl) csOK_0 h (fun r6 hr7 h => ?_)
    show Z κ (0, 0) _ 18 _ [vi r6] ad σ
    refine z_istore_n (lv2 := [(3, vi r6), (0, vo ad 11 (some 0)), (1, vi x1), (2, vi x2)]) C dX11_reserve_18 (by decide) rfl ?_
    refine z_aload_n C 1 dX11_reserve_19 rfl ?_
    refine z_aload_n C 1 dX11_reserve_20 rfl ?_
    refine z_gIv (v := gI σ 1212 0 0) C li_X11_287 (sg_11 T) rfl dX11_reserve_21 ?_
    refine z_iload_n C 2 dX11_reserve_24 rfl ?_
    refine z_iload_n C 3 dX11_reserve_25 rfl ?_
    refine z_cSp (st := [vo ad 11 (some 0)]) T C (ct_X11_withMember (gI σ 1212 0 0) x1 x2 (hI1 1212 0 _) hx1 hx2) lm_X11_294 ls_X11_withMember dX11_reserve_26 rfl rfl trivial (by decide) (Nat.le_of_ble_eq_true rfl) csOK_0 h (fun r8 hr9 h => ?_)
    show Z κ (0, 0) _ 29 _ [vi r8, vo ad 11 (some 0)] ad σ
    refine z_pI C lq_X11_287 (sg_11 T) hr9 dX11_reserve_29 ?_
    refine z_iload_n C 0 dX11_reserve_32 rfl ?_
    refine z_cSp (st := []) T C (ct_X11_asNumber r6 hr7) lm_X11_223 ls_X11_asNumber dX11_reserve_33 rfl rfl trivial (by decide) (Nat.le_of_ble_eq_true rfl) csOK_0 h (fun r10 hr11 h => ?_)
    show Z κ (0, 0) _ 36 _ [vi r10] ad (sI σ 1212 0 0 r8)
    have h := wpO_some.mp h
    exact z_ireturn T C dX11_reserve_36 hr11 rfl h
  · have h := (wpO_ite.mp h).1 q5
    refine z_bipush C dX11_reserve_7 (by decide) ?_
    have h := wpO_some.mp h
    exact z_ireturn T C dX11_reserve_9 (by decide) rfl h
noncomputable def fX11_rival (x1 : Int) (x2 : Int) (σ : St) : Option (Int × St) :=
  bnk (fX11_isSubject x1) (fun r3 => if r3 = 0 then (some ((-2), σ)) else (bnk (fX11_hasMember (gI σ 503 0 0) x1) (fun r6 => bnk (fX11_withMember (gI σ 503 0 0) x1 x2) (fun r8 => bnk (fX11_asNumber r6) (fun r10 => some (r10, sI σ 503 0 0 r8))))))
set_option maxRecDepth 20000 in
set_option maxHeartbeats 4000000 in
theorem ct_X11_rival (x1 : Int) (x2 : Int) (hx1 : inr x1) (hx2 : x2 = 0 ∨ x2 = 1) : Ct yX11_rival cX11_rival 4 (some .int) 2 (fun ad => [vo ad 11 (some 0), vi x1, vi x2]) (fX11_rival x1 x2) enI okI (fun _ => True) := by
  refine Ct.of (by decide) (fun ad => Nat.le_of_ble_eq_true rfl) ?_
  intro κ ad σ X C T hpre h
  have C : Cx κ RX11 cX11_rival 4 (some .int) 2 := C
  unfold fX11_rival at h
  show Z κ (0, 0) (Qm κ ad σ enI okI X) 0 [(0, vo ad 11 (some 0)), (1, vi x1), (2, vi x2)] [] ad σ
  refine z_rng (fun hI1 hJ2 => ?_)
  refine z_iload_n C 1 dX11_rival_0 rfl ?_
  refine z_cSp (st := []) T C (ct_X11_isSubject x1 hx1) lm_X11_122 ls_X11_isSubject dX11_rival_1 rfl rfl trivial (by decide) (Nat.le_of_ble_eq_true rfl) csOK_0 h (fun r3 hr4 h => ?_)
  show Z κ (0, 0) _ 4 _ [vi r3] ad σ
  refine z_if_ne C 10 (inr_b hr4) dX11_rival_4 (by decide) (fun q5 => ?_) (fun q5 => ?_)
  · have h := (wpO_ite.mp h).2 q5
    refine z_aload_n C 0 dX11_rival_10 rfl ?_
    refine z_gR T C li_X11_65 (sg_11 T) dX11_rival_11 ?_
    refine z_gIv (v := gI σ 503 0 0) C li_X11_318 (sg_4 T) rfl dX11_rival_14 ?_
    refine z_iload_n C 1 dX11_rival_17 rfl ?_
    refine z_cSp (st := []) T C (ct_X11_hasMember (gI σ 503 0 0) x1 (hI1 503 0 _) hx1) lm_X11_290 ls_X11_hasMember dX11_rival_18 rfl rfl trivial (by decide) (Nat.le_of_ble_eq_true rfl) csOK_0 h (fun r6 hr7 h => ?_)
    show Z κ (0, 0) _ 21 _ [vi r6] ad σ
    refine z_istore_n (lv2 := [(3, vi r6), (0, vo ad 11 (some 0)), (1, vi x1), (2, vi x2)]) C dX11_rival_21 (by decide) rfl ?_
    refine z_aload_n C 1 dX11_rival_22 rfl ?_
    refine z_gR T C li_X11_65 (sg_11 T) dX11_rival_23 ?_
    refine z_aload_n C 1 dX11_rival_26 rfl ?_
    refine z_gR T C li_X11_65 (sg_11 T) dX11_rival_27 ?_
    refine z_gIv (v := gI σ 503 0 0) C li_X11_318 (sg_4 T) rfl dX11_rival_30 ?_
    refine z_iload_n C 2 dX11_rival_33 rfl ?_
    refine z_iload_n C 3 dX11_rival_34 rfl ?_
    refine z_cSp (st := [vo ad 4 (some 0)]) T C (ct_X11_withMember (gI σ 503 0 0) x1 x2 (hI1 503 0 _) hx1 hx2) lm_X11_294 ls_X11_withMember dX11_rival_35 rfl rfl trivial (by decide) (Nat.le_of_ble_eq_true rfl) csOK_0 h (fun r8 hr9 h => ?_)
    show Z κ (0, 0) _ 38 _ [vi r8, vo ad 4 (some 0)] ad σ
    refine z_pI C lq_X11_318 (sg_4 T) hr9 dX11_rival_38 ?_
    refine z_iload_n C 0 dX11_rival_41 rfl ?_
    refine z_cSp (st := []) T C (ct_X11_asNumber r6 hr7) lm_X11_223 ls_X11_asNumber dX11_rival_42 rfl rfl trivial (by decide) (Nat.le_of_ble_eq_true rfl) csOK_0 h (fun r10 hr11 h => ?_)
    show Z κ (0, 0) _ 45 _ [vi r10] ad (sI σ 503 0 0 r8)
    have h := wpO_some.mp h
    exact z_ireturn T C dX11_rival_45 hr11 rfl h
  · have h := (wpO_ite.mp h).1 q5
    refine z_bipush C dX11_rival_7 (by decide) ?_
    have h := wpO_some.mp h
    exact z_ireturn T C dX11_rival_9 (by decide) rfl h
noncomputable def fX2_openIn_j86 (x2 : Int) (σ1 : St) : Option (Int × St) :=
  some (x2, σ1)
noncomputable def fX2_openIn_l4 (x1 : Int) (x2 : Int) (x3 : Int) (σ1 : St) : Option ((Int × Int × St) ⊕ (Int × St)) :=
  if gI σ1 300 0 0 ≤ x3 then (some (.inr ((x2, σ1)))) else (ck (0 ≤ x3 ∧ x3 < 8) (ck (0 ≤ x1 ∧ x1 < 9) (ck (inr ((gI σ1 303 0 x3.toNat) * (gI σ1 304 0 x1.toNat))) (ck (inq ((idiv ((gI σ1 303 0 x3.toNat) * (gI σ1 304 0 x1.toNat)) 100) * 100000000)) (ck (inr (9 - x1)) (ck (inr (7 - x3)) (ck (0 ≤ 7 - x3 ∧ 7 - x3 < 8) (ck (inr ((9 - x1) * (tens (7 - x3).toNat))) (ck (inq (((idiv ((gI σ1 303 0 x3.toNat) * (gI σ1 304 0 x1.toNat)) 100) * 100000000) + ((9 - x1) * (tens (7 - x3).toNat)))) (ck (0 ≤ x3 ∧ x3 < 8) (ck (0 ≤ x3 ∧ x3 < 8) (ck (0 ≤ x3 ∧ x3 < 8) (bnk (fX11_within x1 (gI σ1 301 0 x3.toNat) (gI σ1 302 0 x3.toNat)) (fun r20 => bnk (fX11_withMember x2 x3 r20) (fun r22 => ck (inr (x3 + 1)) (some (.inl ((r22, x3 + 1, sJ σ1 306 0 x3.toNat (((idiv ((gI σ1 303 0 x3.toNat) * (gI σ1 304 0 x1.toNat)) 100) * 100000000) + ((9 - x1) * (tens (7 - x3).toNat))))))))))))))))))))))
noncomputable def fX2_openIn_j4 (x1 : Int) (x2 : Int) (x3 : Int) (σ1 : St) : Option (Int × St) :=
  bnk (wh (fun s => fX2_openIn_l4 x1 s.1 s.2.1 s.2.2) ((x2, x3, σ1))) (fun e => fX2_openIn_j86 e.1 e.2)
noncomputable def fX2_openIn (x1 : Int) (σ : St) : Option (Int × St) :=
  fX2_openIn_j4 x1 0 0 σ
set_option maxRecDepth 20000 in
set_option maxHeartbeats 4000000 in
theorem ct_X2_openIn (x1 : Int) (hx1 : inr x1) : Ct yX2_openIn cX2_openIn 6 (some .int) 1 (fun ad => [vo ad 2 (some 0), vi x1]) (fX2_openIn x1) enI okI (fun _ => True) := by
  refine Ct.of (by decide) (fun ad => Nat.le_of_ble_eq_true rfl) ?_
  intro κ ad σ X C T hpre h
  have C : Cx κ RX2 cX2_openIn 6 (some .int) 1 := C
  unfold fX2_openIn at h
  have J86 : ∀ (x2 : Int) (σ1 : St), inr x2 → σ1.2.2.2 = σ.2.2.2 → wpO (fX2_openIn_j86 x2 σ1) (fun q => X q.1 q.2) → Z κ (0, 0) (Qm κ ad σ enI okI X) 86 [(2, vi x2)] [] ad σ1 := by
    intro x2 σ1 hx2 eN1 h
    unfold fX2_openIn_j86 at h
    refine z_rng (fun hI1 hJ2 => ?_)
    refine z_iload_n C 0 dX2_openIn_86 rfl ?_
    have h := wpO_some.mp h
    exact z_ireturn T C dX2_openIn_87 hx2 eN1 h
  have J4 : ∀ (x1 : Int) (x2 : Int) (x3 : Int) (σ1 : St), inr x1 → inr x2 → inr x3 → σ1.2.2.2 = σ.2.2.2 → wpO (fX2_openIn_j4 x1 x2 x3 σ1) (fun q => X q.1 q.2) → Z κ (0, 0) (Qm κ ad σ enI okI X) 4 [(0, vo ad 2 (some 0)), (1, vi x1), (2, vi x2), (3, vi x3)] [] ad σ1 := by
    intro x1 x2 x3 σ1 hx1 hx2 hx3 eN1 h
    unfold fX2_openIn_j4 at h
    have step : ∀ (P4 : (Int × Int × St) → Prop) (Q4 : (Int × St) → Prop), (∀ (x2 : Int) (x3 : Int) (σ1 : St), P4 ((x2, x3, σ1)) → inr x2 → inr x3 → σ1.2.2.2 = σ.2.2.2 → Z κ (0, 0) (Qm κ ad σ enI okI X) 4 [(0, vo ad 2 (some 0)), (1, vi x1), (2, vi x2), (3, vi x3)] [] ad σ1) → (∀ (x2 : Int) (σ1 : St), Q4 ((x2, σ1)) → inr x2 → σ1.2.2.2 = σ.2.2.2 → Z κ (0, 0) (Qm κ ad σ enI okI X) 86 [(2, vi x2)] [] ad σ1) → ∀ (x2 : Int) (x3 : Int) (σ1 : St), inr x2 → inr x3 → σ1.2.2.2 = σ.2.2.2 → wpO (fX2_openIn_l4 x1 x2 x3 σ1) (onS P4 Q4) → Z κ (0, 0) (Qm κ ad σ enI okI X) 4 [(0, vo ad 2 (some 0)), (1, vi x1), (2, vi x2), (3, vi x3)] [] ad σ1 := by
      intro P4 Q4 hP4 hE4_86 x2 x3 σ1 hx2 hx3 eN1 h
      unfold fX2_openIn_l4 at h
      refine z_rng (fun hI3 hJ4 => ?_)
      refine z_iload_n C 3 dX2_openIn_4 rfl ?_
      refine z_aload_n C 0 dX2_openIn_5 rfl ?_
      refine z_gIv (v := gI σ1 300 0 0) C li_X2_35 (sg_2 T) rfl dX2_openIn_6 ?_
      refine z_icmp_ge C 86 hx3 (hI3 300 0 _) dX2_openIn_9 (by decide) (fun q5 => ?_) (fun q5 => ?_)
      · have h := (wpO_ite.mp h).1 q5
        refine z_sub [2] rfl ?_
        have h := wpO_some.mp h
        exact hE4_86 x2 σ1 h hx2 eN1
      · have h := (wpO_ite.mp h).2 q5
        refine z_aload_n C 0 dX2_openIn_12 rfl ?_
        refine z_gA T C li_X2_18 (sg_2 T) dX2_openIn_13 ?_
        refine z_iload_n C 3 dX2_openIn_16 rfl ?_
        obtain ⟨hb6, h⟩ := wpO_ck.mp h
        refine z_iav (v := gI σ1 303 0 x3.toNat) C ar_303 (sg_303 T) hx3 hb6 rfl dX2_openIn_17 ?_
        refine z_aload_n C 0 dX2_openIn_18 rfl ?_
        refine z_gA T C li_X2_21 (sg_2 T) dX2_openIn_19 ?_
        refine z_iload_n C 1 dX2_openIn_22 rfl ?_
        obtain ⟨hb7, h⟩ := wpO_ck.mp h
        refine z_iav (v := gI σ1 304 0 x1.toNat) C ar_304 (sg_304 T) hx1 hb7 rfl dX2_openIn_23 ?_
        obtain ⟨hk8, h⟩ := wpO_ck.mp h
        refine z_imul C dX2_openIn_24 ?_
        refine z_bipush C dX2_openIn_25 (by decide) ?_
        refine z_idiv C (by decide) (by decide) dX2_openIn_27 ?_
        refine z_i2l C (inr_idiv _ _) dX2_openIn_28 ?_
        refine z_lstore (lv2 := [(4, vj (idiv ((gI σ1 303 0 x3.toNat) * (gI σ1 304 0 x1.toNat)) 100)), (0, vo ad 2 (some 0)), (1, vi x1), (2, vi x2), (3, vi x3)]) C dX2_openIn_29 (by decide) rfl ?_
        refine z_aload_n C 1 dX2_openIn_31 rfl ?_
        refine z_gA T C li_X2_28 (sg_2 T) dX2_openIn_32 ?_
        refine z_iload_n C 4 dX2_openIn_35 rfl ?_
        refine z_lload C 0 dX2_openIn_36 rfl ?_
        refine z_ldc2_w C lc_X2_46 dX2_openIn_38 ?_
        obtain ⟨hk9, h⟩ := wpO_ck.mp h
        refine z_lmul C dX2_openIn_41 ?_
        refine z_bipush C dX2_openIn_42 (by decide) ?_
        refine z_iload_n C 2 dX2_openIn_44 rfl ?_
        obtain ⟨hk10, h⟩ := wpO_ck.mp h
        refine z_isub C dX2_openIn_45 ?_
        refine z_tens C lz_X2_78 dX2_openIn_46 (fun t11 ht12 => ?_)
        refine z_bipush C dX2_openIn_49 (by decide) ?_
        refine z_iload_n C 4 dX2_openIn_51 rfl ?_
        obtain ⟨hk13, h⟩ := wpO_ck.mp h
        refine z_isub C dX2_openIn_52 ?_
        obtain ⟨hb14, h⟩ := wpO_ck.mp h
        refine z_sald C ht12 hk13 hb14 dX2_openIn_53 ?_
        obtain ⟨hk15, h⟩ := wpO_ck.mp h
        refine z_imul C dX2_openIn_54 ?_
        refine z_i2l C hk15 dX2_openIn_55 ?_
        obtain ⟨hk16, h⟩ := wpO_ck.mp h
        refine z_ladd C dX2_openIn_56 ?_
        obtain ⟨hb17, h⟩ := wpO_ck.mp h
        refine z_lastore C ar_306 (sg_306 T) hx3 hb17 hk16 dX2_openIn_57 ?_
        refine z_iload_n C 3 dX2_openIn_58 rfl ?_
        refine z_iload_n C 4 dX2_openIn_59 rfl ?_
        refine z_iload_n C 2 dX2_openIn_60 rfl ?_
        refine z_aload_n C 1 dX2_openIn_61 rfl ?_
        refine z_gA T C li_X2_9 (sg_2 T) dX2_openIn_62 ?_
        refine z_iload_n C 4 dX2_openIn_65 rfl ?_
        obtain ⟨hb18, h⟩ := wpO_ck.mp h
        refine z_iav (v := gI σ1 301 0 x3.toNat) C ar_301 (sg_301 T) hx3 hb18 (gnJ rfl) dX2_openIn_66 ?_
        refine z_aload_n C 1 dX2_openIn_67 rfl ?_
        refine z_gA T C li_X2_15 (sg_2 T) dX2_openIn_68 ?_
        refine z_iload_n C 4 dX2_openIn_71 rfl ?_
        obtain ⟨hb19, h⟩ := wpO_ck.mp h
        refine z_iav (v := gI σ1 302 0 x3.toNat) C ar_302 (sg_302 T) hx3 hb19 (gnJ rfl) dX2_openIn_72 ?_
        refine z_cSp (st := [vi x3, vi x2]) T C (ct_X11_within x1 (gI σ1 301 0 x3.toNat) (gI σ1 302 0 x3.toNat) hx1 (hI3 301 0 _) (hI3 302 0 _)) lm_X2_81 ls_X11_within dX2_openIn_73 rfl rfl trivial (by decide) (Nat.le_of_ble_eq_true rfl) csOK_0 h (fun r20 hr21 h => ?_)
        show Z κ (0, 0) _ 76 _ [vi r20, vi x3, vi x2] ad (sJ σ1 306 0 x3.toNat (((idiv ((gI σ1 303 0 x3.toNat) * (gI σ1 304 0 x1.toNat)) 100) * 100000000) + ((9 - x1) * (tens (7 - x3).toNat))))
        refine z_cSp (st := []) T C (ct_X11_withMember x2 x3 r20 hx2 hx3 hr21) lm_X2_85 ls_X11_withMember dX2_openIn_76 rfl rfl trivial (by decide) (Nat.le_of_ble_eq_true rfl) csOK_0 h (fun r22 hr23 h => ?_)
        show Z κ (0, 0) _ 79 _ [vi r22] ad (sJ σ1 306 0 x3.toNat (((idiv ((gI σ1 303 0 x3.toNat) * (gI σ1 304 0 x1.toNat)) 100) * 100000000) + ((9 - x1) * (tens (7 - x3).toNat))))
        refine z_istore_n (lv2 := [(2, vi r22), (4, vj (idiv ((gI σ1 303 0 x3.toNat) * (gI σ1 304 0 x1.toNat)) 100)), (0, vo ad 2 (some 0)), (1, vi x1), (3, vi x3)]) C dX2_openIn_79 (by decide) rfl ?_
        obtain ⟨hk24, h⟩ := wpO_ck.mp h
        refine z_iinc (lv2 := [(3, vi (x3 + 1)), (2, vi r22), (4, vj (idiv ((gI σ1 303 0 x3.toNat) * (gI σ1 304 0 x1.toNat)) 100)), (0, vo ad 2 (some 0)), (1, vi x1)]) C 4 dX2_openIn_80 rfl (by decide) rfl ?_
        refine z_goto C 4 dX2_openIn_83 (by decide) ?_
        refine z_sub [3, 4, 1, 0] rfl ?_
        have h := wpO_some.mp h
        exact hP4 r22 (x3 + 1) (sJ σ1 306 0 x3.toNat (((idiv ((gI σ1 303 0 x3.toNat) * (gI σ1 304 0 x1.toNat)) 100) * 100000000) + ((9 - x1) * (tens (7 - x3).toNat)))) h hr23 hk24 eN1
    exact wh_ind (P := fun s : (Int × Int × St) => inr s.1 → inr s.2.1 → s.2.2.2.2.2 = σ.2.2.2 → Z κ (0, 0) (Qm κ ad σ enI okI X) 4 [(0, vo ad 2 (some 0)), (1, vi x1), (2, vi s.1), (3, vi s.2.1)] [] ad s.2.2) (fun s hs g0 g1 g2 => step _ _ (fun _ _ _ hp => hp) (fun x2 σ1 hq hx2 eN1 => J86 x2 σ1 hx2 eN1 hq) s.1 s.2.1 s.2.2 g0 g1 g2 hs) ((x2, x3, σ1)) (wpO_bnk.mp h) hx2 hx3 eN1
  show Z κ (0, 0) (Qm κ ad σ enI okI X) 0 [(0, vo ad 2 (some 0)), (1, vi x1)] [] ad σ
  refine z_rng (fun hI25 hJ26 => ?_)
  refine z_iconst C dX2_openIn_0 ?_
  refine z_istore_n (lv2 := [(2, vi 0), (0, vo ad 2 (some 0)), (1, vi x1)]) C dX2_openIn_1 (by decide) rfl ?_
  refine z_iconst C dX2_openIn_2 ?_
  refine z_istore_n (lv2 := [(3, vi 0), (2, vi 0), (0, vo ad 2 (some 0)), (1, vi x1)]) C dX2_openIn_3 (by decide) rfl ?_
  refine z_sub [2, 3, 1, 0] rfl ?_
  exact J4 x1 0 0 σ hx1 (by decide) (by decide) rfl h
noncomputable def fX2_addPrint_j77 (σ1 : St) : Option (Unit × St) :=
  some ((), σ1)
noncomputable def fX2_addPrint_j71 (x1 : Int) (x2 : Int) (σ1 : St) : Option ((Int × St) ⊕ St) :=
  ck (inr (x2 + (-1))) (some (.inl ((x2 + (-1), σ1))))
noncomputable def fX2_addPrint_j65 (x1 : Int) (x2 : Int) (x3 : Int) (σ1 : St) : Option ((Int × St) ⊕ St) :=
  ck (inr (x3 + 1)) (some (.inl ((x3 + 1, σ1))))
noncomputable def fX2_addPrint_l15 (x1 : Int) (x2 : Int) (x3 : Int) (σ1 : St) : Option ((Int × St) ⊕ St) :=
  if gI σ1 300 0 0 ≤ x3 then (some (.inr σ1)) else (bnk (fX11_hasMember (iand x2 x1) x3) (fun r12 => if r12 = 0 then (fX2_addPrint_j65 x1 x2 x3 σ1) else (ck (0 ≤ x2 ∧ x2 < 256) (ck (0 ≤ ixor x2 (ishl 1 x3) ∧ ixor x2 (ishl 1 x3) < 256) (ck (0 ≤ x3 ∧ x3 < 8) (ck (inq ((gJ σ1 307 0 ((ixor x2 (ishl 1 x3)).toNat)) + (gJ σ1 306 0 x3.toNat))) (ck (0 ≤ x2 ∧ x2 < 256) (fX2_addPrint_j65 x1 x2 x3 (sJ σ1 307 0 x2.toNat (jmax (gJ σ1 307 0 x2.toNat) ((gJ σ1 307 0 ((ixor x2 (ishl 1 x3)).toNat)) + (gJ σ1 306 0 x3.toNat))))))))))))
noncomputable def fX2_addPrint_j15 (x1 : Int) (x2 : Int) (x3 : Int) (σ1 : St) : Option ((Int × St) ⊕ St) :=
  bnk (wh (fun s => fX2_addPrint_l15 x1 x2 s.1 s.2) ((x3, σ1))) (fun e => fX2_addPrint_j71 x1 x2 e)
noncomputable def fX2_addPrint_l9 (x1 : Int) (x2 : Int) (σ1 : St) : Option ((Int × St) ⊕ St) :=
  if x2 ≤ 0 then (some (.inr σ1)) else (fX2_addPrint_j15 x1 x2 0 σ1)
noncomputable def fX2_addPrint_j9 (x1 : Int) (x2 : Int) (σ1 : St) : Option (Unit × St) :=
  bnk (wh (fun s => fX2_addPrint_l9 x1 s.1 s.2) ((x2, σ1))) (fun e => fX2_addPrint_j77 e)
noncomputable def fX2_addPrint (x1 : Int) (σ : St) : Option (Unit × St) :=
  ck (inr ((ishl 1 (gI σ 300 0 0)) - 1)) (fX2_addPrint_j9 x1 ((ishl 1 (gI σ 300 0 0)) - 1) σ)
set_option maxRecDepth 20000 in
set_option maxHeartbeats 4000000 in
theorem ct_X2_addPrint (x1 : Int) (hx1 : inr x1) : Ct yX2_addPrint cX2_addPrint 4 none 1 (fun ad => [vo ad 2 (some 0), vi x1]) (fX2_addPrint x1) enV okV (fun _ => True) := by
  refine Ct.of (by decide) (fun ad => Nat.le_of_ble_eq_true rfl) ?_
  intro κ ad σ X C T hpre h
  have C : Cx κ RX2 cX2_addPrint 4 none 1 := C
  unfold fX2_addPrint at h
  have J77 : ∀ (σ1 : St), σ1.2.2.2 = σ.2.2.2 → wpO (fX2_addPrint_j77 σ1) (fun q => X q.1 q.2) → Z κ (0, 0) (Qm κ ad σ enV okV X) 77 [] [] ad σ1 := by
    intro σ1 eN1 h
    unfold fX2_addPrint_j77 at h
    refine z_rng (fun hI1 hJ2 => ?_)
    have h := wpO_some.mp h
    exact z_return T C dX2_addPrint_77 eN1 h
  have J9 : ∀ (x1 : Int) (x2 : Int) (σ1 : St), inr x1 → inr x2 → σ1.2.2.2 = σ.2.2.2 → wpO (fX2_addPrint_j9 x1 x2 σ1) (fun q => X q.1 q.2) → Z κ (0, 0) (Qm κ ad σ enV okV X) 9 [(0, vo ad 2 (some 0)), (1, vi x1), (2, vi x2)] [] ad σ1 := by
    intro x1 x2 σ1 hx1 hx2 eN1 h
    unfold fX2_addPrint_j9 at h
    have step : ∀ (P9 : (Int × St) → Prop) (Q9 : St → Prop), (∀ (x2 : Int) (σ1 : St), P9 ((x2, σ1)) → inr x2 → σ1.2.2.2 = σ.2.2.2 → Z κ (0, 0) (Qm κ ad σ enV okV X) 9 [(0, vo ad 2 (some 0)), (1, vi x1), (2, vi x2)] [] ad σ1) → (∀ (σ1 : St), Q9 (σ1) → σ1.2.2.2 = σ.2.2.2 → Z κ (0, 0) (Qm κ ad σ enV okV X) 77 [] [] ad σ1) → ∀ (x2 : Int) (σ1 : St), inr x2 → σ1.2.2.2 = σ.2.2.2 → wpO (fX2_addPrint_l9 x1 x2 σ1) (onS P9 Q9) → Z κ (0, 0) (Qm κ ad σ enV okV X) 9 [(0, vo ad 2 (some 0)), (1, vi x1), (2, vi x2)] [] ad σ1 := by
      intro P9 Q9 hP9 hE9_77 x2 σ1 hx2 eN1 h
      unfold fX2_addPrint_l9 at h
      have J71 : ∀ (x2 : Int) (σ1 : St), inr x2 → σ1.2.2.2 = σ.2.2.2 → wpO (fX2_addPrint_j71 x1 x2 σ1) (onS P9 Q9) → Z κ (0, 0) (Qm κ ad σ enV okV X) 71 [(0, vo ad 2 (some 0)), (1, vi x1), (2, vi x2)] [] ad σ1 := by
        intro x2 σ1 hx2 eN1 h
        unfold fX2_addPrint_j71 at h
        refine z_rng (fun hI3 hJ4 => ?_)
        obtain ⟨hk5, h⟩ := wpO_ck.mp h
        refine z_iinc (lv2 := [(2, vi (x2 + (-1))), (0, vo ad 2 (some 0)), (1, vi x1)]) C 2 dX2_addPrint_71 rfl (by decide) rfl ?_
        refine z_goto C 9 dX2_addPrint_74 (by decide) ?_
        refine z_sub [1, 2, 0] rfl ?_
        have h := wpO_some.mp h
        exact hP9 (x2 + (-1)) σ1 h hk5 eN1
      have J15 : ∀ (x2 : Int) (x3 : Int) (σ1 : St), inr x2 → inr x3 → σ1.2.2.2 = σ.2.2.2 → wpO (fX2_addPrint_j15 x1 x2 x3 σ1) (onS P9 Q9) → Z κ (0, 0) (Qm κ ad σ enV okV X) 15 [(0, vo ad 2 (some 0)), (1, vi x1), (2, vi x2), (3, vi x3)] [] ad σ1 := by
        intro x2 x3 σ1 hx2 hx3 eN1 h
        unfold fX2_addPrint_j15 at h
        have step : ∀ (P15 : (Int × St) → Prop) (Q15 : St → Prop), (∀ (x3 : Int) (σ1 : St), P15 ((x3, σ1)) → inr x3 → σ1.2.2.2 = σ.2.2.2 → Z κ (0, 0) (Qm κ ad σ enV okV X) 15 [(0, vo ad 2 (some 0)), (1, vi x1), (2, vi x2), (3, vi x3)] [] ad σ1) → (∀ (σ1 : St), Q15 (σ1) → σ1.2.2.2 = σ.2.2.2 → Z κ (0, 0) (Qm κ ad σ enV okV X) 71 [(0, vo ad 2 (some 0)), (1, vi x1), (2, vi x2)] [] ad σ1) → ∀ (x3 : Int) (σ1 : St), inr x3 → σ1.2.2.2 = σ.2.2.2 → wpO (fX2_addPrint_l15 x1 x2 x3 σ1) (onS P15 Q15) → Z κ (0, 0) (Qm κ ad σ enV okV X) 15 [(0, vo ad 2 (some 0)), (1, vi x1), (2, vi x2), (3, vi x3)] [] ad σ1 := by
          intro P15 Q15 hP15 hE15_71 x3 σ1 hx3 eN1 h
          unfold fX2_addPrint_l15 at h
          have J65 : ∀ (x3 : Int) (σ1 : St), inr x3 → σ1.2.2.2 = σ.2.2.2 → wpO (fX2_addPrint_j65 x1 x2 x3 σ1) (onS P15 Q15) → Z κ (0, 0) (Qm κ ad σ enV okV X) 65 [(0, vo ad 2 (some 0)), (1, vi x1), (2, vi x2), (3, vi x3)] [] ad σ1 := by
            intro x3 σ1 hx3 eN1 h
            unfold fX2_addPrint_j65 at h
            refine z_rng (fun hI6 hJ7 => ?_)
            obtain ⟨hk8, h⟩ := wpO_ck.mp h
            refine z_iinc (lv2 := [(3, vi (x3 + 1)), (0, vo ad 2 (some 0)), (1, vi x1), (2, vi x2)]) C 3 dX2_addPrint_65 rfl (by decide) rfl ?_
            refine z_goto C 15 dX2_addPrint_68 (by decide) ?_
            refine z_sub [1, 2, 3, 0] rfl ?_
            have h := wpO_some.mp h
            exact hP15 (x3 + 1) σ1 h hk8 eN1
          refine z_rng (fun hI9 hJ10 => ?_)
          refine z_iload_n C 3 dX2_addPrint_15 rfl ?_
          refine z_aload_n C 0 dX2_addPrint_16 rfl ?_
          refine z_gIv (v := gI σ1 300 0 0) C li_X2_35 (sg_2 T) rfl dX2_addPrint_17 ?_
          refine z_icmp_ge C 71 hx3 (hI9 300 0 _) dX2_addPrint_20 (by decide) (fun q11 => ?_) (fun q11 => ?_)
          · have h := (wpO_ite.mp h).1 q11
            refine z_sub [0, 1, 2] rfl ?_
            have h := wpO_some.mp h
            exact hE15_71 σ1 h eN1
          · have h := (wpO_ite.mp h).2 q11
            refine z_iload_n C 2 dX2_addPrint_23 rfl ?_
            refine z_iload_n C 1 dX2_addPrint_24 rfl ?_
            refine z_iand C dX2_addPrint_25 ?_
            refine z_iload_n C 3 dX2_addPrint_26 rfl ?_
            refine z_cSp (st := []) T C (ct_X11_hasMember (iand x2 x1) x3 (inr_iand _ _) hx3) lm_X2_89 ls_X11_hasMember dX2_addPrint_27 rfl rfl trivial (by decide) (Nat.le_of_ble_eq_true rfl) csOK_0 h (fun r12 hr13 h => ?_)
            show Z κ (0, 0) _ 30 _ [vi r12] ad σ1
            refine z_if_eq C 65 (inr_b hr13) dX2_addPrint_30 (by decide) (fun q14 => ?_) (fun q14 => ?_)
            · have h := (wpO_ite.mp h).1 q14
              exact J65 x3 σ1 hx3 eN1 h
            · have h := (wpO_ite.mp h).2 q14
              refine z_aload_n C 0 dX2_addPrint_33 rfl ?_
              refine z_gA T C li_X2_32 (sg_2 T) dX2_addPrint_34 ?_
              refine z_iload_n C 2 dX2_addPrint_37 rfl ?_
              refine z_aload_n C 0 dX2_addPrint_38 rfl ?_
              refine z_gA T C li_X2_32 (sg_2 T) dX2_addPrint_39 ?_
              refine z_iload_n C 2 dX2_addPrint_42 rfl ?_
              obtain ⟨hb15, h⟩ := wpO_ck.mp h
              refine z_lav (v := gJ σ1 307 0 x2.toNat) C ar_307 (sg_307 T) hx2 hb15 rfl dX2_addPrint_43 ?_
              refine z_aload_n C 0 dX2_addPrint_44 rfl ?_
              refine z_gA T C li_X2_32 (sg_2 T) dX2_addPrint_45 ?_
              refine z_iload_n C 2 dX2_addPrint_48 rfl ?_
              refine z_iconst C dX2_addPrint_49 ?_
              refine z_iload_n C 3 dX2_addPrint_50 rfl ?_
              refine z_ishl C dX2_addPrint_51 ?_
              refine z_ixor C dX2_addPrint_52 ?_
              obtain ⟨hb16, h⟩ := wpO_ck.mp h
              refine z_lav (v := gJ σ1 307 0 ((ixor x2 (ishl 1 x3)).toNat)) C ar_307 (sg_307 T) (inr_ixor _ _) hb16 rfl dX2_addPrint_53 ?_
              refine z_aload_n C 0 dX2_addPrint_54 rfl ?_
              refine z_gA T C li_X2_28 (sg_2 T) dX2_addPrint_55 ?_
              refine z_iload_n C 3 dX2_addPrint_58 rfl ?_
              obtain ⟨hb17, h⟩ := wpO_ck.mp h
              refine z_lav (v := gJ σ1 306 0 x3.toNat) C ar_306 (sg_306 T) hx3 hb17 rfl dX2_addPrint_59 ?_
              obtain ⟨hk18, h⟩ := wpO_ck.mp h
              refine z_ladd C dX2_addPrint_60 ?_
              refine z_jmax (st := [vi x2, vo ad 307 (some 0)]) C lmm_X2_93 (lw_ug w_1156 rfl) la_J9 ls_J9_max_f86c9 (hJ10 307 0 _) hk18 (by decide) (Nat.le_of_ble_eq_true rfl) csOK_0 dX2_addPrint_61 ?_
              obtain ⟨hb19, h⟩ := wpO_ck.mp h
              refine z_lastore C ar_307 (sg_307 T) hx2 hb19 (inq_jmax (hJ10 307 0 _) hk18) dX2_addPrint_64 ?_
              exact J65 x3 (sJ σ1 307 0 x2.toNat (jmax (gJ σ1 307 0 x2.toNat) ((gJ σ1 307 0 ((ixor x2 (ishl 1 x3)).toNat)) + (gJ σ1 306 0 x3.toNat)))) hx3 eN1 h
        exact wh_ind (P := fun s : (Int × St) => inr s.1 → s.2.2.2.2 = σ.2.2.2 → Z κ (0, 0) (Qm κ ad σ enV okV X) 15 [(0, vo ad 2 (some 0)), (1, vi x1), (2, vi x2), (3, vi s.1)] [] ad s.2) (fun s hs g0 g1 => step _ _ (fun _ _ hp => hp) (fun σ1 hq eN1 => J71 x2 σ1 hx2 eN1 hq) s.1 s.2 g0 g1 hs) ((x3, σ1)) (wpO_bnk.mp h) hx3 eN1
      refine z_rng (fun hI20 hJ21 => ?_)
      refine z_iload_n C 2 dX2_addPrint_9 rfl ?_
      refine z_if_le C 77 hx2 dX2_addPrint_10 (by decide) (fun q22 => ?_) (fun q22 => ?_)
      · have h := (wpO_ite.mp h).1 q22
        refine z_sub [] rfl ?_
        have h := wpO_some.mp h
        exact hE9_77 σ1 h eN1
      · have h := (wpO_ite.mp h).2 q22
        refine z_iconst C dX2_addPrint_13 ?_
        refine z_istore_n (lv2 := [(3, vi 0), (0, vo ad 2 (some 0)), (1, vi x1), (2, vi x2)]) C dX2_addPrint_14 (by decide) rfl ?_
        refine z_sub [1, 2, 3, 0] rfl ?_
        exact J15 x2 0 σ1 hx2 (by decide) eN1 h
    exact wh_ind (P := fun s : (Int × St) => inr s.1 → s.2.2.2.2 = σ.2.2.2 → Z κ (0, 0) (Qm κ ad σ enV okV X) 9 [(0, vo ad 2 (some 0)), (1, vi x1), (2, vi s.1)] [] ad s.2) (fun s hs g0 g1 => step _ _ (fun _ _ hp => hp) (fun σ1 hq eN1 => J77 σ1 eN1 hq) s.1 s.2 g0 g1 hs) ((x2, σ1)) (wpO_bnk.mp h) hx2 eN1
  show Z κ (0, 0) (Qm κ ad σ enV okV X) 0 [(0, vo ad 2 (some 0)), (1, vi x1)] [] ad σ
  refine z_rng (fun hI23 hJ24 => ?_)
  refine z_iconst C dX2_addPrint_0 ?_
  refine z_aload_n C 0 dX2_addPrint_1 rfl ?_
  refine z_gIv (v := gI σ 300 0 0) C li_X2_35 (sg_2 T) rfl dX2_addPrint_2 ?_
  refine z_ishl C dX2_addPrint_5 ?_
  refine z_iconst C dX2_addPrint_6 ?_
  obtain ⟨hk25, h⟩ := wpO_ck.mp h
  refine z_isub C dX2_addPrint_7 ?_
  refine z_istore_n (lv2 := [(2, vi ((ishl 1 (gI σ 300 0 0)) - 1)), (0, vo ad 2 (some 0)), (1, vi x1)]) C dX2_addPrint_8 (by decide) rfl ?_
  refine z_sub [1, 2, 0] rfl ?_
  exact J9 x1 ((ishl 1 (gI σ 300 0 0)) - 1) σ hx1 hk25 rfl h
noncomputable def fX2_search_j60 (σ1 : St) : Option (Unit × St) :=
  some ((), σ1)
noncomputable def fX2_search_j54 (x1 : Int) (σ1 : St) : Option ((Int × St) ⊕ St) :=
  ck (inr (x1 + 1)) (some (.inl ((x1 + 1, σ1))))
noncomputable def fX2_search_l37 (x1 : Int) (x2 : Int) (x3 : Int) (x4 : Int) (σ1 : St) : Option ((Int × St) ⊕ St) :=
  if x3 ≤ x4 then (some (.inr σ1)) else (bnd (fX2_addPrint x2 σ1) (fun _ σ11 => ck (inr (x4 + 1)) (some (.inl ((x4 + 1, σ11))))))
noncomputable def fX2_search_j37 (x1 : Int) (x2 : Int) (x3 : Int) (x4 : Int) (σ1 : St) : Option ((Int × St) ⊕ St) :=
  bnk (wh (fun s => fX2_search_l37 x1 x2 x3 s.1 s.2) ((x4, σ1))) (fun e => fX2_search_j54 x1 e)
noncomputable def fX2_search_l10 (x1 : Int) (σ1 : St) : Option ((Int × St) ⊕ St) :=
  if 9 ≤ x1 then (some (.inr σ1)) else (bnd (fX2_openIn x1 σ1) (fun r20 σ22 => bnk (fJ6_bitCount_0f7a4 r20) (fun r27 => fX2_search_j37 x1 r20 (imin (gI σ22 305 0 0) r27) 0 σ22)))
noncomputable def fX2_search_j10 (x1 : Int) (σ1 : St) : Option (Unit × St) :=
  bnk (wh (fun s => fX2_search_l10 s.1 s.2) ((x1, σ1))) (fun e => fX2_search_j60 e)
noncomputable def fX2_search (σ : St) : Option (Unit × St) :=
  bnd (fJ7_fill_d0a16 307 256 0 σ) (fun _ σ33 => fX2_search_j10 0 σ33)
set_option maxRecDepth 20000 in
set_option maxHeartbeats 4000000 in
theorem ct_X2_search  : Ct yX2_search cX2_search 5 none 2 (fun ad => [vo ad 2 (some 0)]) fX2_search enV okV (fun _ => True) := by
  refine Ct.of (by decide) (fun ad => Nat.le_of_ble_eq_true rfl) ?_
  intro κ ad σ X C T hpre h
  have C : Cx κ RX2 cX2_search 5 none 2 := C
  unfold fX2_search at h
  have J60 : ∀ (σ1 : St), σ1.2.2.2 = σ.2.2.2 → wpO (fX2_search_j60 σ1) (fun q => X q.1 q.2) → Z κ (0, 0) (Qm κ ad σ enV okV X) 60 [] [] ad σ1 := by
    intro σ1 eN1 h
    unfold fX2_search_j60 at h
    refine z_rng (fun hI1 hJ2 => ?_)
    have h := wpO_some.mp h
    exact z_return T C dX2_search_60 eN1 h
  have J10 : ∀ (x1 : Int) (σ1 : St), inr x1 → σ1.2.2.2 = σ.2.2.2 → wpO (fX2_search_j10 x1 σ1) (fun q => X q.1 q.2) → Z κ (0, 0) (Qm κ ad σ enV okV X) 10 [(0, vo ad 2 (some 0)), (1, vi x1)] [] ad σ1 := by
    intro x1 σ1 hx1 eN1 h
    unfold fX2_search_j10 at h
    have step : ∀ (P10 : (Int × St) → Prop) (Q10 : St → Prop), (∀ (x1 : Int) (σ1 : St), P10 ((x1, σ1)) → inr x1 → σ1.2.2.2 = σ.2.2.2 → Z κ (0, 0) (Qm κ ad σ enV okV X) 10 [(0, vo ad 2 (some 0)), (1, vi x1)] [] ad σ1) → (∀ (σ1 : St), Q10 (σ1) → σ1.2.2.2 = σ.2.2.2 → Z κ (0, 0) (Qm κ ad σ enV okV X) 60 [] [] ad σ1) → ∀ (x1 : Int) (σ1 : St), inr x1 → σ1.2.2.2 = σ.2.2.2 → wpO (fX2_search_l10 x1 σ1) (onS P10 Q10) → Z κ (0, 0) (Qm κ ad σ enV okV X) 10 [(0, vo ad 2 (some 0)), (1, vi x1)] [] ad σ1 := by
      intro P10 Q10 hP10 hE10_60 x1 σ1 hx1 eN1 h
      unfold fX2_search_l10 at h
      have J54 : ∀ (x1 : Int) (σ1 : St), inr x1 → σ1.2.2.2 = σ.2.2.2 → wpO (fX2_search_j54 x1 σ1) (onS P10 Q10) → Z κ (0, 0) (Qm κ ad σ enV okV X) 54 [(0, vo ad 2 (some 0)), (1, vi x1)] [] ad σ1 := by
        intro x1 σ1 hx1 eN1 h
        unfold fX2_search_j54 at h
        refine z_rng (fun hI3 hJ4 => ?_)
        obtain ⟨hk5, h⟩ := wpO_ck.mp h
        refine z_iinc (lv2 := [(1, vi (x1 + 1)), (0, vo ad 2 (some 0))]) C 1 dX2_search_54 rfl (by decide) rfl ?_
        refine z_goto C 10 dX2_search_57 (by decide) ?_
        refine z_sub [1, 0] rfl ?_
        have h := wpO_some.mp h
        exact hP10 (x1 + 1) σ1 h hk5 eN1
      have J37 : ∀ (x1 : Int) (x2 : Int) (x3 : Int) (x4 : Int) (σ1 : St), inr x1 → inr x2 → inr x3 → inr x4 → σ1.2.2.2 = σ.2.2.2 → wpO (fX2_search_j37 x1 x2 x3 x4 σ1) (onS P10 Q10) → Z κ (0, 0) (Qm κ ad σ enV okV X) 37 [(0, vo ad 2 (some 0)), (1, vi x1), (2, vi x2), (3, vi x3), (4, vi x4)] [] ad σ1 := by
        intro x1 x2 x3 x4 σ1 hx1 hx2 hx3 hx4 eN1 h
        unfold fX2_search_j37 at h
        have step : ∀ (P37 : (Int × St) → Prop) (Q37 : St → Prop), (∀ (x4 : Int) (σ1 : St), P37 ((x4, σ1)) → inr x4 → σ1.2.2.2 = σ.2.2.2 → Z κ (0, 0) (Qm κ ad σ enV okV X) 37 [(0, vo ad 2 (some 0)), (1, vi x1), (2, vi x2), (3, vi x3), (4, vi x4)] [] ad σ1) → (∀ (σ1 : St), Q37 (σ1) → σ1.2.2.2 = σ.2.2.2 → Z κ (0, 0) (Qm κ ad σ enV okV X) 54 [(0, vo ad 2 (some 0)), (1, vi x1)] [] ad σ1) → ∀ (x4 : Int) (σ1 : St), inr x4 → σ1.2.2.2 = σ.2.2.2 → wpO (fX2_search_l37 x1 x2 x3 x4 σ1) (onS P37 Q37) → Z κ (0, 0) (Qm κ ad σ enV okV X) 37 [(0, vo ad 2 (some 0)), (1, vi x1), (2, vi x2), (3, vi x3), (4, vi x4)] [] ad σ1 := by
          intro P37 Q37 hP37 hE37_54 x4 σ1 hx4 eN1 h
          unfold fX2_search_l37 at h
          refine z_rng (fun hI6 hJ7 => ?_)
          refine z_iload C 4 dX2_search_37 rfl ?_
          refine z_iload_n C 3 dX2_search_39 rfl ?_
          refine z_icmp_ge C 54 hx4 hx3 dX2_search_40 (by decide) (fun q8 => ?_) (fun q8 => ?_)
          · have h := (wpO_ite.mp h).1 q8
            refine z_sub [0, 1] rfl ?_
            have h := wpO_some.mp h
            exact hE37_54 σ1 h eN1
          · have h := (wpO_ite.mp h).2 q8
            refine z_aload_n C 0 dX2_search_43 rfl ?_
            refine z_iload_n C 2 dX2_search_44 rfl ?_
            refine z_cV (st := []) T C (ct_X2_addPrint x2 hx2) lm_X2_74 lv_vX2_addPrint dX2_search_45 [vi x2] rfl rfl rfl rfl rfl (sg_2 T) trivial (by decide) (Nat.le_of_ble_eq_true rfl) csOK_0 h (fun r9 σ11 hr10 eN12 h => ?_)
            have eN13 := eN12.trans eN1
            show Z κ (0, 0) _ 48 _ [] ad σ11
            refine z_rng (fun hI14 hJ15 => ?_)
            obtain ⟨hk16, h⟩ := wpO_ck.mp h
            refine z_iinc (lv2 := [(4, vi (x4 + 1)), (0, vo ad 2 (some 0)), (1, vi x1), (2, vi x2), (3, vi x3)]) C 4 dX2_search_48 rfl (by decide) rfl ?_
            refine z_goto C 37 dX2_search_51 (by decide) ?_
            refine z_sub [1, 2, 3, 4, 0] rfl ?_
            have h := wpO_some.mp h
            exact hP37 (x4 + 1) σ11 h hk16 eN13
        exact wh_ind (P := fun s : (Int × St) => inr s.1 → s.2.2.2.2 = σ.2.2.2 → Z κ (0, 0) (Qm κ ad σ enV okV X) 37 [(0, vo ad 2 (some 0)), (1, vi x1), (2, vi x2), (3, vi x3), (4, vi s.1)] [] ad s.2) (fun s hs g0 g1 => step _ _ (fun _ _ hp => hp) (fun σ1 hq eN1 => J54 x1 σ1 hx1 eN1 hq) s.1 s.2 g0 g1 hs) ((x4, σ1)) (wpO_bnk.mp h) hx4 eN1
      refine z_rng (fun hI17 hJ18 => ?_)
      refine z_iload_n C 1 dX2_search_10 rfl ?_
      refine z_bipush C dX2_search_11 (by decide) ?_
      refine z_icmp_ge C 60 hx1 (by decide) dX2_search_13 (by decide) (fun q19 => ?_) (fun q19 => ?_)
      · have h := (wpO_ite.mp h).1 q19
        refine z_sub [] rfl ?_
        have h := wpO_some.mp h
        exact hE10_60 σ1 h eN1
      · have h := (wpO_ite.mp h).2 q19
        refine z_aload_n C 0 dX2_search_16 rfl ?_
        refine z_iload_n C 1 dX2_search_17 rfl ?_
        refine z_cV (st := []) T C (ct_X2_openIn x1 hx1) lm_X2_59 lv_vX2_openIn dX2_search_18 [vi x1] rfl rfl rfl rfl rfl (sg_2 T) trivial (by decide) (Nat.le_of_ble_eq_true rfl) csOK_0 h (fun r20 σ22 hr21 eN23 h => ?_)
        have eN24 := eN23.trans eN1
        show Z κ (0, 0) _ 21 _ [vi r20] ad σ22
        refine z_rng (fun hI25 hJ26 => ?_)
        refine z_istore_n (lv2 := [(2, vi r20), (0, vo ad 2 (some 0)), (1, vi x1)]) C dX2_search_21 (by decide) rfl ?_
        refine z_aload_n C 1 dX2_search_22 rfl ?_
        refine z_gIv (v := gI σ22 305 0 0) C li_X2_24 (sg_2 T) rfl dX2_search_23 ?_
        refine z_iload_n C 0 dX2_search_26 rfl ?_
        refine z_cSp (st := [vi (gI σ22 305 0 0)]) T C (ct_J6_bitCount_0f7a4 r20 hr21) lm_X2_63 ls_J6_bitCount_0f7a4 dX2_search_27 rfl rfl trivial (by decide) (Nat.le_of_ble_eq_true rfl) csOK_0 h (fun r27 hr28 h => ?_)
        show Z κ (0, 0) _ 30 _ [vi r27, vi (gI σ22 305 0 0)] ad σ22
        refine z_mmin (st := []) C lmm_X2_68 (lw_ug w_1148 rfl) la_J9 ls_J9_min_7cf53 (hI25 305 0 _) hr28 (by decide) (Nat.le_of_ble_eq_true rfl) csOK_0 dX2_search_30 ?_
        refine z_istore_n (lv2 := [(3, vi (imin (gI σ22 305 0 0) r27)), (2, vi r20), (0, vo ad 2 (some 0)), (1, vi x1)]) C dX2_search_33 (by decide) rfl ?_
        refine z_iconst C dX2_search_34 ?_
        refine z_istore (lv2 := [(4, vi 0), (3, vi (imin (gI σ22 305 0 0) r27)), (2, vi r20), (0, vo ad 2 (some 0)), (1, vi x1)]) C dX2_search_35 (by decide) rfl ?_
        refine z_sub [3, 4, 2, 1, 0] rfl ?_
        exact J37 x1 r20 (imin (gI σ22 305 0 0) r27) 0 σ22 hx1 hr21 (inr_imin (hI25 305 0 _) hr28) (by decide) eN24 h
    exact wh_ind (P := fun s : (Int × St) => inr s.1 → s.2.2.2.2 = σ.2.2.2 → Z κ (0, 0) (Qm κ ad σ enV okV X) 10 [(0, vo ad 2 (some 0)), (1, vi s.1)] [] ad s.2) (fun s hs g0 g1 => step _ _ (fun _ _ hp => hp) (fun σ1 hq eN1 => J60 σ1 eN1 hq) s.1 s.2 g0 g1 hs) ((x1, σ1)) (wpO_bnk.mp h) hx1 eN1
  show Z κ (0, 0) (Qm κ ad σ enV okV X) 0 [(0, vo ad 2 (some 0))] [] ad σ
  refine z_rng (fun hI29 hJ30 => ?_)
  refine z_aload_n C 0 dX2_search_0 rfl ?_
  refine z_gA T C li_X2_32 (sg_2 T) dX2_search_1 ?_
  refine z_lconst (z := 0) C dX2_search_4 (by decide) ?_
  refine z_cS (st := []) T C (ct_J7_fill_d0a16 307 256 0 ar_307 (fun T => sg_307 T) (by decide) (by decide)) lm_X2_53 ls_J7_fill_d0a16 dX2_search_5 rfl rfl trivial (by decide) (Nat.le_of_ble_eq_true rfl) csOK_0 h (fun r31 σ33 hr32 eN34 h => ?_)
  show Z κ (0, 0) _ 8 _ [] ad σ33
  refine z_rng (fun hI35 hJ36 => ?_)
  refine z_iconst C dX2_search_8 ?_
  refine z_istore_n (lv2 := [(1, vi 0), (0, vo ad 2 (some 0))]) C dX2_search_9 (by decide) rfl ?_
  refine z_sub [1, 0] rfl ?_
  exact J10 0 σ33 (by decide) eN34 h
noncomputable def fX2_bestRun_j16 (σ1 : St) : Option (Int × St) :=
  ck (inr ((ishl 1 (gI σ1 300 0 0)) - 1)) (ck (0 ≤ (ishl 1 (gI σ1 300 0 0)) - 1 ∧ (ishl 1 (gI σ1 300 0 0)) - 1 < 256) (some (gJ σ1 307 0 (((ishl 1 (gI σ1 300 0 0)) - 1).toNat), σ1)))
noncomputable def fX2_bestRun (σ : St) : Option (Int × St) :=
  if gI σ 308 0 0 = 0 then (bnd (fX2_search σ) (fun _ σ10 => fX2_bestRun_j16 (sI σ10 308 0 0 1))) else (fX2_bestRun_j16 σ)
set_option maxRecDepth 20000 in
set_option maxHeartbeats 4000000 in
theorem ct_X2_bestRun  : Ct yX2_bestRun cX2_bestRun 1 (some .long) 3 (fun ad => [vo ad 2 (some 0)]) fX2_bestRun enJ okL (fun _ => True) := by
  refine Ct.of (by decide) (fun ad => Nat.le_of_ble_eq_true rfl) ?_
  intro κ ad σ X C T hpre h
  have C : Cx κ RX2 cX2_bestRun 1 (some .long) 3 := C
  unfold fX2_bestRun at h
  have J16 : ∀ (σ1 : St), σ1.2.2.2 = σ.2.2.2 → wpO (fX2_bestRun_j16 σ1) (fun q => X q.1 q.2) → Z κ (0, 0) (Qm κ ad σ enJ okL X) 16 [(0, vo ad 2 (some 0))] [] ad σ1 := by
    intro σ1 eN1 h
    unfold fX2_bestRun_j16 at h
    refine z_rng (fun hI1 hJ2 => ?_)
    refine z_aload_n C 0 dX2_bestRun_16 rfl ?_
    refine z_gA T C li_X2_32 (sg_2 T) dX2_bestRun_17 ?_
    refine z_iconst C dX2_bestRun_20 ?_
    refine z_aload_n C 0 dX2_bestRun_21 rfl ?_
    refine z_gIv (v := gI σ1 300 0 0) C li_X2_35 (sg_2 T) rfl dX2_bestRun_22 ?_
    refine z_ishl C dX2_bestRun_25 ?_
    refine z_iconst C dX2_bestRun_26 ?_
    obtain ⟨hk3, h⟩ := wpO_ck.mp h
    refine z_isub C dX2_bestRun_27 ?_
    obtain ⟨hb4, h⟩ := wpO_ck.mp h
    refine z_lav (v := gJ σ1 307 0 (((ishl 1 (gI σ1 300 0 0)) - 1).toNat)) C ar_307 (sg_307 T) hk3 hb4 rfl dX2_bestRun_28 ?_
    have h := wpO_some.mp h
    exact z_lreturn T C dX2_bestRun_29 (hJ2 307 0 _) eN1 h
  show Z κ (0, 0) (Qm κ ad σ enJ okL X) 0 [(0, vo ad 2 (some 0))] [] ad σ
  refine z_rng (fun hI5 hJ6 => ?_)
  refine z_aload_n C 0 dX2_bestRun_0 rfl ?_
  refine z_gIv (v := gI σ 308 0 0) C li_X2_38 (sg_2 T) rfl dX2_bestRun_1 ?_
  refine z_if_ne C 16 (hI5 308 0 _) dX2_bestRun_4 (by decide) (fun q7 => ?_) (fun q7 => ?_)
  · have h := (wpO_ite.mp h).2 q7
    exact J16 σ rfl h
  · have h := (wpO_ite.mp h).1 q7
    refine z_aload_n C 0 dX2_bestRun_7 rfl ?_
    refine z_cV (st := []) T C ct_X2_search lm_X2_50 lv_vX2_search dX2_bestRun_8 [] rfl rfl rfl rfl rfl (sg_2 T) trivial (by decide) (Nat.le_of_ble_eq_true rfl) csOK_0 h (fun r8 σ10 hr9 eN11 h => ?_)
    show Z κ (0, 0) _ 11 _ [] ad σ10
    refine z_rng (fun hI12 hJ13 => ?_)
    refine z_aload_n C 0 dX2_bestRun_11 rfl ?_
    refine z_iconst C dX2_bestRun_12 ?_
    refine z_pB C lq_X2_38 (sg_2 T) (by decide) dX2_bestRun_13 ?_
    exact J16 (sI σ10 308 0 0 1) eN11 h
noncomputable def fX2_earnings (σ : St) : Option (Int × St) :=
  bnd (fX2_bestRun σ) (fun r3 σ5 => some (l2i (jdiv r3 100000000), σ5))
set_option maxRecDepth 20000 in
set_option maxHeartbeats 4000000 in
theorem ct_X2_earnings  : Ct yX2_earnings cX2_earnings 1 (some .int) 4 (fun ad => [vo ad 2 (some 0)]) fX2_earnings enI okI (fun _ => True) := by
  refine Ct.of (by decide) (fun ad => Nat.le_of_ble_eq_true rfl) ?_
  intro κ ad σ X C T hpre h
  have C : Cx κ RX2 cX2_earnings 1 (some .int) 4 := C
  unfold fX2_earnings at h
  show Z κ (0, 0) (Qm κ ad σ enI okI X) 0 [(0, vo ad 2 (some 0))] [] ad σ
  refine z_rng (fun hI1 hJ2 => ?_)
  refine z_aload_n C 0 dX2_earnings_0 rfl ?_
  refine z_cV (st := []) T C ct_X2_bestRun lm_X2_42 lv_vX2_bestRun dX2_earnings_1 [] rfl rfl rfl rfl rfl (sg_2 T) trivial (by decide) (Nat.le_of_ble_eq_true rfl) csOK_0 h (fun r3 σ5 hr4 eN6 h => ?_)
  show Z κ (0, 0) _ 4 _ [vj r3] ad σ5
  refine z_rng (fun hI7 hJ8 => ?_)
  refine z_ldc2_w C lc_X2_46 dX2_earnings_4 ?_
  refine z_ldiv C (by decide) (by decide) dX2_earnings_7 ?_
  refine z_l2i C dX2_earnings_8 ?_
  have h := wpO_some.mp h
  exact z_ireturn T C dX2_earnings_9 (inr_l2i _) eN6 h
noncomputable def fX11_run (σ : St) : Option (Int × St) :=
  bnd (fX2_earnings σ) (fun r3 σ5 => some (r3, σ5))
set_option maxRecDepth 20000 in
set_option maxHeartbeats 4000000 in
theorem ct_X11_run  : Ct yX11_run cX11_run 1 (some .int) 5 (fun ad => [vo ad 11 (some 0)]) fX11_run enI okI (fun _ => True) := by
  refine Ct.of (by decide) (fun ad => Nat.le_of_ble_eq_true rfl) ?_
  intro κ ad σ X C T hpre h
  have C : Cx κ RX11 cX11_run 1 (some .int) 5 := C
  unfold fX11_run at h
  show Z κ (0, 0) (Qm κ ad σ enI okI X) 0 [(0, vo ad 11 (some 0))] [] ad σ
  refine z_rng (fun hI1 hJ2 => ?_)
  refine z_aload_n C 0 dX11_run_0 rfl ?_
  refine z_gR T C li_X11_79 (sg_11 T) dX11_run_1 ?_
  refine z_cV (st := []) T C ct_X2_earnings lm_X11_376 lv_vX2_earnings dX11_run_4 [] rfl rfl rfl rfl rfl (sg_2 T) trivial (by decide) (Nat.le_of_ble_eq_true rfl) csOK_0 h (fun r3 σ5 hr4 eN6 h => ?_)
  show Z κ (0, 0) _ 7 _ [vi r3] ad σ5
  refine z_rng (fun hI7 hJ8 => ?_)
  have h := wpO_some.mp h
  exact z_ireturn T C dX11_run_7 hr4 eN6 h
noncomputable def fX11_say (x1 : Int) (x2 : Int) (σ : St) : Option (Int × St) :=
  bnk (fX11_storyNumbered x1 σ) (fun r3 => mop r3 (fun j5 => ck (j5 < gN σ 8) (ck (gI σ 906 j5 0 = 0 ∨ gI σ 906 j5 0 = 1) (bnk (fX11_asNumber (gI σ 906 j5 0)) (fun r9 => some (r9, sI σ 906 j5 0 x2))))) (some ((-1), σ)))
set_option maxRecDepth 20000 in
set_option maxHeartbeats 4000000 in
theorem ct_X11_say (x1 : Int) (x2 : Int) (hx1 : inr x1) (hx2 : x2 = 0 ∨ x2 = 1) : Ct yX11_say cX11_say 5 (some .int) 2 (fun ad => [vo ad 11 (some 0), vi x1, vi x2]) (fX11_say x1 x2) enI okI (fun _ => True) := by
  refine Ct.of (by decide) (fun ad => Nat.le_of_ble_eq_true rfl) ?_
  intro κ ad σ X C T hpre h
  have C : Cx κ RX11 cX11_say 5 (some .int) 2 := C
  unfold fX11_say at h
  show Z κ (0, 0) (Qm κ ad σ enI okI X) 0 [(0, vo ad 11 (some 0)), (1, vi x1), (2, vi x2)] [] ad σ
  refine z_rng (fun hI1 hJ2 => ?_)
  refine z_aload_n C 0 dX11_say_0 rfl ?_
  refine z_iload_n C 1 dX11_say_1 rfl ?_
  refine z_cVp (st := []) T C (ct_X11_storyNumbered x1 hx1) lm_X11_205 lv_vX11_storyNumbered dX11_say_2 [vi x1] rfl rfl rfl rfl rfl (sg_11 T) trivial (by decide) (Nat.le_of_ble_eq_true rfl) csOK_0 h (fun r3 hr4 h => ?_)
  show Z κ (0, 0) _ 5 _ [vo ad 8 r3] ad σ
  refine z_astore_n (lv2 := [(3, vo ad 8 r3), (0, vo ad 11 (some 0)), (1, vi x1), (2, vi x2)]) C dX11_say_5 (by decide) rfl ?_
  refine z_aload_n C 0 dX11_say_6 rfl ?_
  refine z_ifnonnull C 12 dX11_say_7 (by decide) (fun j5 hr6 => ?_) (fun hr6 => ?_)
  · have h := (wpO_mop.mp h).1 j5 hr6
    subst hr6
    obtain ⟨hj7, h⟩ := wpO_ck.mp h
    refine z_aload_n C 0 dX11_say_12 rfl ?_
    refine z_gIv (v := gI σ 906 j5 0) C li_X11_220 (nN rfl (toN rfl hj7)) rfl dX11_say_13 ?_
    refine z_istore (lv2 := [(4, vi (gI σ 906 j5 0)), (3, vo ad 8 (some j5)), (0, vo ad 11 (some 0)), (1, vi x1), (2, vi x2)]) C dX11_say_16 (by decide) rfl ?_
    refine z_aload_n C 1 dX11_say_18 rfl ?_
    refine z_iload_n C 4 dX11_say_19 rfl ?_
    refine z_pB C lq_X11_220 (nN rfl (toN rfl hj7)) hx2 dX11_say_20 ?_
    refine z_iload C 0 dX11_say_23 rfl ?_
    obtain ⟨hb8, h⟩ := wpO_ck.mp h
    refine z_cSp (st := []) T C (ct_X11_asNumber (gI σ 906 j5 0) hb8) lm_X11_223 ls_X11_asNumber dX11_say_25 rfl rfl trivial (by decide) (Nat.le_of_ble_eq_true rfl) csOK_0 h (fun r9 hr10 h => ?_)
    show Z κ (0, 0) _ 28 _ [vi r9] ad (sI σ 906 j5 0 x2)
    have h := wpO_some.mp h
    exact z_ireturn T C dX11_say_28 hr10 rfl h
  · have h := (wpO_mop.mp h).2 hr6
    subst hr6
    refine z_iconst C dX11_say_10 ?_
    have h := wpO_some.mp h
    exact z_ireturn T C dX11_say_11 (by decide) rfl h
noncomputable def fX11_send (x1 : Int) (σ : St) : Option (Int × St) :=
  bnk (fX11_shotNumbered x1 σ) (fun r3 => mop r3 (fun j5 => ck (j5 < gN σ 7) (bnk (fX7_whereAt j5 (gI σ 1200 0 0) σ) (fun r8 => if r8 = 1 then (bnd (fX9_earliest (gI σ 801 j5 0) (gI σ 1200 0 0) 0 0 σ) (fun r11 σ13 => bnd (fX9_earliest (gI σ13 801 j5 0) (gI σ13 1200 0 0) 0 1 σ13) (fun r17 σ19 => if r11 = (-9) then (some ((-3), σ19)) else (if r17 = (-9) then (some ((-3), σ19)) else (some (r11, sI (sI (sI σ19 808 j5 0 (gI σ19 1200 0 0)) 811 j5 0 r11) 812 j5 0 r17)))))) else (some ((-3), σ))))) (some ((-1), σ)))
set_option maxRecDepth 20000 in
set_option maxHeartbeats 4000000 in
theorem ct_X11_send (x1 : Int) (hx1 : inr x1) : Ct yX11_send cX11_send 5 (some .int) 4 (fun ad => [vo ad 11 (some 0), vi x1]) (fX11_send x1) enI okI (fun _ => True) := by
  refine Ct.of (by decide) (fun ad => Nat.le_of_ble_eq_true rfl) ?_
  intro κ ad σ X C T hpre h
  have C : Cx κ RX11 cX11_send 5 (some .int) 4 := C
  unfold fX11_send at h
  show Z κ (0, 0) (Qm κ ad σ enI okI X) 0 [(0, vo ad 11 (some 0)), (1, vi x1)] [] ad σ
  refine z_rng (fun hI1 hJ2 => ?_)
  refine z_aload_n C 0 dX11_send_0 rfl ?_
  refine z_iload_n C 1 dX11_send_1 rfl ?_
  refine z_cVp (st := []) T C (ct_X11_shotNumbered x1 hx1) lm_X11_144 lv_vX11_shotNumbered dX11_send_2 [vi x1] rfl rfl rfl rfl rfl (sg_11 T) trivial (by decide) (Nat.le_of_ble_eq_true rfl) csOK_0 h (fun r3 hr4 h => ?_)
  show Z κ (0, 0) _ 5 _ [vo ad 7 r3] ad σ
  refine z_astore_n (lv2 := [(2, vo ad 7 r3), (0, vo ad 11 (some 0)), (1, vi x1)]) C dX11_send_5 (by decide) rfl ?_
  refine z_aload_n C 0 dX11_send_6 rfl ?_
  refine z_ifnonnull C 12 dX11_send_7 (by decide) (fun j5 hr6 => ?_) (fun hr6 => ?_)
  · have h := (wpO_mop.mp h).1 j5 hr6
    subst hr6
    obtain ⟨hj7, h⟩ := wpO_ck.mp h
    refine z_aload_n C 0 dX11_send_12 rfl ?_
    refine z_aload_n C 1 dX11_send_13 rfl ?_
    refine z_gIv (v := gI σ 1200 0 0) C li_X11_87 (sg_11 T) rfl dX11_send_14 ?_
    refine z_cVp (st := []) T C (ct_X7_whereAt j5 (gI σ 1200 0 0) (hI1 1200 0 _)) lm_X11_166 lv_vX7_whereAt dX11_send_17 [vi (gI σ 1200 0 0)] rfl rfl rfl rfl rfl (nN rfl (toN rfl hj7)) (nNl rfl (toN rfl hj7)) (by decide) (Nat.le_of_ble_eq_true rfl) csOK_0 h (fun r8 hr9 h => ?_)
    show Z κ (0, 0) _ 20 _ [vi r8] ad σ
    refine z_iconst C dX11_send_20 ?_
    refine z_icmp_eq C 27 hr9 (by decide) dX11_send_21 (by decide) (fun q10 => ?_) (fun q10 => ?_)
    · have h := (wpO_ite.mp h).1 q10
      refine z_aload_n C 1 dX11_send_27 rfl ?_
      refine z_gR T C li_X11_10 (sg_11 T) dX11_send_28 ?_
      refine z_aload_n C 0 dX11_send_31 rfl ?_
      refine z_gIv (v := gI σ 801 j5 0) C li_X11_148 (nN rfl (toN rfl hj7)) rfl dX11_send_32 ?_
      refine z_aload_n C 1 dX11_send_35 rfl ?_
      refine z_gIv (v := gI σ 1200 0 0) C li_X11_87 (sg_11 T) rfl dX11_send_36 ?_
      refine z_iconst C dX11_send_39 ?_
      refine z_iconst C dX11_send_40 ?_
      refine z_cV (st := []) T C (ct_X9_earliest (gI σ 801 j5 0) (gI σ 1200 0 0) 0 0 (hI1 801 j5 _) (hI1 1200 0 _) (by decide) (by decide)) lm_X11_118 lv_vX9_earliest dX11_send_41 [vi (gI σ 801 j5 0), vi (gI σ 1200 0 0), vi 0, vi 0] rfl rfl rfl rfl rfl (sg_9 T) trivial (by decide) (Nat.le_of_ble_eq_true rfl) csOK_0 h (fun r11 σ13 hr12 eN14 h => ?_)
      show Z κ (0, 0) _ 44 _ [vi r11] ad σ13
      refine z_rng (fun hI15 hJ16 => ?_)
      refine z_istore_n (lv2 := [(3, vi r11), (2, vo ad 7 (some j5)), (0, vo ad 11 (some 0)), (1, vi x1)]) C dX11_send_44 (by decide) rfl ?_
      refine z_aload_n C 2 dX11_send_45 rfl ?_
      refine z_gR T C li_X11_10 (sg_11 T) dX11_send_46 ?_
      refine z_aload_n C 1 dX11_send_49 rfl ?_
      refine z_gIv (v := gI σ13 801 j5 0) C li_X11_148 (nN eN14 (toN rfl hj7)) rfl dX11_send_50 ?_
      refine z_aload_n C 2 dX11_send_53 rfl ?_
      refine z_gIv (v := gI σ13 1200 0 0) C li_X11_87 (sg_11 T) rfl dX11_send_54 ?_
      refine z_iconst C dX11_send_57 ?_
      refine z_iconst C dX11_send_58 ?_
      refine z_cV (st := []) T C (ct_X9_earliest (gI σ13 801 j5 0) (gI σ13 1200 0 0) 0 1 (hI15 801 j5 _) (hI15 1200 0 _) (by decide) (by decide)) lm_X11_118 lv_vX9_earliest dX11_send_59 [vi (gI σ13 801 j5 0), vi (gI σ13 1200 0 0), vi 0, vi 1] rfl rfl rfl rfl rfl (sg_9 T) trivial (by decide) (Nat.le_of_ble_eq_true rfl) csOK_0 h (fun r17 σ19 hr18 eN20 h => ?_)
      have eN21 := eN20.trans eN14
      show Z κ (0, 0) _ 62 _ [vi r17] ad σ19
      refine z_rng (fun hI22 hJ23 => ?_)
      refine z_istore (lv2 := [(4, vi r17), (3, vi r11), (2, vo ad 7 (some j5)), (0, vo ad 11 (some 0)), (1, vi x1)]) C dX11_send_62 (by decide) rfl ?_
      refine z_iload_n C 1 dX11_send_64 rfl ?_
      refine z_bipush C dX11_send_65 (by decide) ?_
      refine z_icmp_eq C 77 hr12 (by decide) dX11_send_67 (by decide) (fun q24 => ?_) (fun q24 => ?_)
      · have h := (wpO_ite.mp h).1 q24
        refine z_bipush C dX11_send_77 (by decide) ?_
        have h := wpO_some.mp h
        exact z_ireturn T C dX11_send_79 (by decide) eN21 h
      · have h := (wpO_ite.mp h).2 q24
        refine z_iload C 0 dX11_send_70 rfl ?_
        refine z_bipush C dX11_send_72 (by decide) ?_
        refine z_icmp_ne C 80 hr18 (by decide) dX11_send_74 (by decide) (fun q25 => ?_) (fun q25 => ?_)
        · have h := (wpO_ite.mp h).2 q25
          refine z_aload_n C 2 dX11_send_80 rfl ?_
          refine z_aload_n C 3 dX11_send_81 rfl ?_
          refine z_gIv (v := gI σ19 1200 0 0) C li_X11_87 (sg_11 T) rfl dX11_send_82 ?_
          refine z_pI C lq_X11_170 (nN eN21 (toN rfl hj7)) (hI22 1200 0 _) dX11_send_85 ?_
          refine z_aload_n C 2 dX11_send_88 rfl ?_
          refine z_iload_n C 1 dX11_send_89 rfl ?_
          refine z_pI C lq_X11_173 (nN eN21 (toN rfl hj7)) hr12 dX11_send_90 ?_
          refine z_aload_n C 2 dX11_send_93 rfl ?_
          refine z_iload C 0 dX11_send_94 rfl ?_
          refine z_pI C lq_X11_176 (nN eN21 (toN rfl hj7)) hr18 dX11_send_96 ?_
          refine z_iload_n C 1 dX11_send_99 rfl ?_
          have h := wpO_some.mp h
          exact z_ireturn T C dX11_send_100 hr12 eN21 h
        · have h := (wpO_ite.mp h).1 q25
          refine z_bipush C dX11_send_77 (by decide) ?_
          have h := wpO_some.mp h
          exact z_ireturn T C dX11_send_79 (by decide) eN21 h
    · have h := (wpO_ite.mp h).2 q10
      refine z_bipush C dX11_send_24 (by decide) ?_
      have h := wpO_some.mp h
      exact z_ireturn T C dX11_send_26 (by decide) rfl h
  · have h := (wpO_mop.mp h).2 hr6
    subst hr6
    refine z_iconst C dX11_send_10 ?_
    have h := wpO_some.mp h
    exact z_ireturn T C dX11_send_11 (by decide) rfl h
noncomputable def fX11_takeShowing (x1 : Int) (x2 : Int) (x3 : Int) (σ : St) : Option (Int × St) :=
  bnk (fX11_hasMember (gI σ 1212 0 0) x1) (fun r3 => if r3 = 0 then (some (0, σ)) else (bnk (fX11_firstRight x1 x2 x3 σ) (fun r6 => mop r6 (fun j8 => ck (j8 < gN σ 5) (ck (inr ((gI σ 604 j8 0) - 1)) (some (1, sI σ 604 j8 0 ((gI σ 604 j8 0) - 1))))) (some (0, σ)))))
set_option maxRecDepth 20000 in
set_option maxHeartbeats 4000000 in
theorem ct_X11_takeShowing (x1 : Int) (x2 : Int) (x3 : Int) (hx1 : inr x1) (hx2 : inr x2) (hx3 : inr x3) : Ct yX11_takeShowing cX11_takeShowing 5 (some .int) 3 (fun ad => [vo ad 11 (some 0), vi x1, vi x2, vi x3]) (fX11_takeShowing x1 x2 x3) enI okI (fun _ => True) := by
  refine Ct.of (by decide) (fun ad => Nat.le_of_ble_eq_true rfl) ?_
  intro κ ad σ X C T hpre h
  have C : Cx κ RX11 cX11_takeShowing 5 (some .int) 3 := C
  unfold fX11_takeShowing at h
  show Z κ (0, 0) (Qm κ ad σ enI okI X) 0 [(0, vo ad 11 (some 0)), (1, vi x1), (2, vi x2), (3, vi x3)] [] ad σ
  refine z_rng (fun hI1 hJ2 => ?_)
  refine z_aload_n C 0 dX11_takeShowing_0 rfl ?_
  refine z_gIv (v := gI σ 1212 0 0) C li_X11_287 (sg_11 T) rfl dX11_takeShowing_1 ?_
  refine z_iload_n C 1 dX11_takeShowing_4 rfl ?_
  refine z_cSp (st := []) T C (ct_X11_hasMember (gI σ 1212 0 0) x1 (hI1 1212 0 _) hx1) lm_X11_290 ls_X11_hasMember dX11_takeShowing_5 rfl rfl trivial (by decide) (Nat.le_of_ble_eq_true rfl) csOK_0 h (fun r3 hr4 h => ?_)
  show Z κ (0, 0) _ 8 _ [vi r3] ad σ
  refine z_if_ne C 13 (inr_b hr4) dX11_takeShowing_8 (by decide) (fun q5 => ?_) (fun q5 => ?_)
  · have h := (wpO_ite.mp h).2 q5
    refine z_aload_n C 0 dX11_takeShowing_13 rfl ?_
    refine z_iload_n C 1 dX11_takeShowing_14 rfl ?_
    refine z_iload_n C 2 dX11_takeShowing_15 rfl ?_
    refine z_iload_n C 3 dX11_takeShowing_16 rfl ?_
    refine z_cVp (st := []) T C (ct_X11_firstRight x1 x2 x3 hx1 hx2 hx3) lm_X11_401 lv_vX11_firstRight dX11_takeShowing_17 [vi x1, vi x2, vi x3] rfl rfl rfl rfl rfl (sg_11 T) trivial (by decide) (Nat.le_of_ble_eq_true rfl) csOK_0 h (fun r6 hr7 h => ?_)
    show Z κ (0, 0) _ 20 _ [vo ad 5 r6] ad σ
    refine z_astore (lv2 := [(4, vo ad 5 r6), (0, vo ad 11 (some 0)), (1, vi x1), (2, vi x2), (3, vi x3)]) C dX11_takeShowing_20 (by decide) rfl ?_
    refine z_aload C 0 dX11_takeShowing_22 rfl ?_
    refine z_ifnonnull C 29 dX11_takeShowing_24 (by decide) (fun j8 hr9 => ?_) (fun hr9 => ?_)
    · have h := (wpO_mop.mp h).1 j8 hr9
      subst hr9
      obtain ⟨hj10, h⟩ := wpO_ck.mp h
      refine z_aload C 0 dX11_takeShowing_29 rfl ?_
      refine z_dup C dX11_takeShowing_31 rfl ?_
      refine z_gIv (v := gI σ 604 j8 0) C li_X11_304 (nN rfl (toN rfl hj10)) rfl dX11_takeShowing_32 ?_
      refine z_iconst C dX11_takeShowing_35 ?_
      obtain ⟨hk11, h⟩ := wpO_ck.mp h
      refine z_isub C dX11_takeShowing_36 ?_
      refine z_pI C lq_X11_304 (nN rfl (toN rfl hj10)) hk11 dX11_takeShowing_37 ?_
      refine z_iconst C dX11_takeShowing_40 ?_
      have h := wpO_some.mp h
      exact z_ireturn T C dX11_takeShowing_41 (by decide) rfl h
    · have h := (wpO_mop.mp h).2 hr9
      subst hr9
      refine z_iconst C dX11_takeShowing_27 ?_
      have h := wpO_some.mp h
      exact z_ireturn T C dX11_takeShowing_28 (by decide) rfl h
  · have h := (wpO_ite.mp h).1 q5
    refine z_iconst C dX11_takeShowing_11 ?_
    have h := wpO_some.mp h
    exact z_ireturn T C dX11_takeShowing_12 (by decide) rfl h
noncomputable def fX11_show_j95 (x4 : Int) (σ1 : St) : Option (Int × St) :=
  some (x4, σ1)
noncomputable def fX11_show_j89 (x1 : Int) (x2 : Int) (x4 : Int) (x5 : Int) (σ1 : St) : Option ((Int × Int × St) ⊕ (Int × St)) :=
  ck (inr (x5 + 1)) (some (.inl ((x4, x5 + 1, σ1))))
noncomputable def fX11_show_l46 (x1 : Int) (x2 : Int) (x4 : Int) (x5 : Int) (σ1 : St) : Option ((Int × Int × St) ⊕ (Int × St)) :=
  if 8 ≤ x5 then (some (.inr ((x4, σ1)))) else (bnk (fX4_bestStory x5 σ1) (fun r9 => bnk (fX11_storyNumbered r9 σ1) (fun r11 => mop r11 (fun j13 => ck (j13 < gN σ1 8) (bnd (fX11_takeShowing (gI σ1 900 j13 0) x1 x2 σ1) (fun r16 σ18 => ck (inr (x4 + r16)) (fX11_show_j89 x1 x2 (x4 + r16) x5 σ18)))) (fX11_show_j89 x1 x2 x4 x5 σ1))))
noncomputable def fX11_show_j46 (x1 : Int) (x2 : Int) (x4 : Int) (x5 : Int) (σ1 : St) : Option (Int × St) :=
  bnk (wh (fun s => fX11_show_l46 x1 x2 s.1 s.2.1 s.2.2) ((x4, x5, σ1))) (fun e => fX11_show_j95 e.1 e.2)
noncomputable def fX11_show (x1 : Int) (x2 : Int) (σ : St) : Option (Int × St) :=
  bnk (fX11_refuseLandDay x1 x2) (fun r26 => if r26 = 0 then (bnd (fX11_listStories x1 x2 σ) (fun _ σ31 => bnd (fX4_search σ31) (fun _ σ37 => if gI σ37 511 0 0 = (-9) then (some ((-3), σ37)) else (fX11_show_j46 x1 x2 0 0 σ37)))) else (some (r26, σ)))
set_option maxRecDepth 20000 in
set_option maxHeartbeats 4000000 in
theorem ct_X11_show (x1 : Int) (x2 : Int) (hx1 : inr x1) (hx2 : inr x2) : Ct yX11_show cX11_show 7 (some .int) 6 (fun ad => [vo ad 11 (some 0), vi x1, vi x2]) (fX11_show x1 x2) enI okI (fun _ => True) := by
  refine Ct.of (by decide) (fun ad => Nat.le_of_ble_eq_true rfl) ?_
  intro κ ad σ X C T hpre h
  have C : Cx κ RX11 cX11_show 7 (some .int) 6 := C
  unfold fX11_show at h
  have J95 : ∀ (x4 : Int) (σ1 : St), inr x4 → σ1.2.2.2 = σ.2.2.2 → wpO (fX11_show_j95 x4 σ1) (fun q => X q.1 q.2) → Z κ (0, 0) (Qm κ ad σ enI okI X) 95 [(4, vi x4)] [] ad σ1 := by
    intro x4 σ1 hx4 eN1 h
    unfold fX11_show_j95 at h
    refine z_rng (fun hI1 hJ2 => ?_)
    refine z_iload C 0 dX11_show_95 rfl ?_
    have h := wpO_some.mp h
    exact z_ireturn T C dX11_show_97 hx4 eN1 h
  have J46 : ∀ (x1 : Int) (x2 : Int) (x4 : Int) (x5 : Int) (σ1 : St), inr x1 → inr x2 → inr x4 → inr x5 → σ1.2.2.2 = σ.2.2.2 → wpO (fX11_show_j46 x1 x2 x4 x5 σ1) (fun q => X q.1 q.2) → Z κ (0, 0) (Qm κ ad σ enI okI X) 46 [(0, vo ad 11 (some 0)), (1, vi x1), (2, vi x2), (4, vi x4), (5, vi x5)] [] ad σ1 := by
    intro x1 x2 x4 x5 σ1 hx1 hx2 hx4 hx5 eN1 h
    unfold fX11_show_j46 at h
    have step : ∀ (P46 : (Int × Int × St) → Prop) (Q46 : (Int × St) → Prop), (∀ (x4 : Int) (x5 : Int) (σ1 : St), P46 ((x4, x5, σ1)) → inr x4 → inr x5 → σ1.2.2.2 = σ.2.2.2 → Z κ (0, 0) (Qm κ ad σ enI okI X) 46 [(0, vo ad 11 (some 0)), (1, vi x1), (2, vi x2), (4, vi x4), (5, vi x5)] [] ad σ1) → (∀ (x4 : Int) (σ1 : St), Q46 ((x4, σ1)) → inr x4 → σ1.2.2.2 = σ.2.2.2 → Z κ (0, 0) (Qm κ ad σ enI okI X) 95 [(4, vi x4)] [] ad σ1) → ∀ (x4 : Int) (x5 : Int) (σ1 : St), inr x4 → inr x5 → σ1.2.2.2 = σ.2.2.2 → wpO (fX11_show_l46 x1 x2 x4 x5 σ1) (onS P46 Q46) → Z κ (0, 0) (Qm κ ad σ enI okI X) 46 [(0, vo ad 11 (some 0)), (1, vi x1), (2, vi x2), (4, vi x4), (5, vi x5)] [] ad σ1 := by
      intro P46 Q46 hP46 hE46_95 x4 x5 σ1 hx4 hx5 eN1 h
      unfold fX11_show_l46 at h
      have J89 : ∀ (x4 : Int) (x5 : Int) (σ1 : St), inr x4 → inr x5 → σ1.2.2.2 = σ.2.2.2 → wpO (fX11_show_j89 x1 x2 x4 x5 σ1) (onS P46 Q46) → Z κ (0, 0) (Qm κ ad σ enI okI X) 89 [(0, vo ad 11 (some 0)), (1, vi x1), (2, vi x2), (4, vi x4), (5, vi x5)] [] ad σ1 := by
        intro x4 x5 σ1 hx4 hx5 eN1 h
        unfold fX11_show_j89 at h
        refine z_rng (fun hI3 hJ4 => ?_)
        obtain ⟨hk5, h⟩ := wpO_ck.mp h
        refine z_iinc (lv2 := [(5, vi (x5 + 1)), (0, vo ad 11 (some 0)), (1, vi x1), (2, vi x2), (4, vi x4)]) C 4 dX11_show_89 rfl (by decide) rfl ?_
        refine z_goto C 46 dX11_show_92 (by decide) ?_
        refine z_sub [1, 2, 3, 4, 0] rfl ?_
        have h := wpO_some.mp h
        exact hP46 x4 (x5 + 1) σ1 h hx4 hk5 eN1
      refine z_rng (fun hI6 hJ7 => ?_)
      refine z_iload C 4 dX11_show_46 rfl ?_
      refine z_bipush C dX11_show_48 (by decide) ?_
      refine z_icmp_ge C 95 hx5 (by decide) dX11_show_50 (by decide) (fun q8 => ?_) (fun q8 => ?_)
      · have h := (wpO_ite.mp h).1 q8
        refine z_sub [3] rfl ?_
        have h := wpO_some.mp h
        exact hE46_95 x4 σ1 h hx4 eN1
      · have h := (wpO_ite.mp h).2 q8
        refine z_aload_n C 0 dX11_show_53 rfl ?_
        refine z_aload_n C 0 dX11_show_54 rfl ?_
        refine z_gR T C li_X11_65 (sg_11 T) dX11_show_55 ?_
        refine z_iload C 4 dX11_show_58 rfl ?_
        refine z_cVp (st := [vo ad 11 (some 0)]) T C (ct_X4_bestStory x5 hx5) lm_X11_335 lv_vX4_bestStory dX11_show_60 [vi x5] rfl rfl rfl rfl rfl (sg_4 T) trivial (by decide) (Nat.le_of_ble_eq_true rfl) csOK_0 h (fun r9 hr10 h => ?_)
        show Z κ (0, 0) _ 63 _ [vi r9, vo ad 11 (some 0)] ad σ1
        refine z_cVp (st := []) T C (ct_X11_storyNumbered r9 hr10) lm_X11_205 lv_vX11_storyNumbered dX11_show_63 [vi r9] rfl rfl rfl rfl rfl (sg_11 T) trivial (by decide) (Nat.le_of_ble_eq_true rfl) csOK_0 h (fun r11 hr12 h => ?_)
        show Z κ (0, 0) _ 66 _ [vo ad 8 r11] ad σ1
        refine z_astore (lv2 := [(6, vo ad 8 r11), (0, vo ad 11 (some 0)), (1, vi x1), (2, vi x2), (4, vi x4), (5, vi x5)]) C dX11_show_66 (by decide) rfl ?_
        refine z_aload C 0 dX11_show_68 rfl ?_
        refine z_ifnull C 89 dX11_show_70 (by decide) (fun hr14 => ?_) (fun j13 hr14 => ?_)
        · have h := (wpO_mop.mp h).2 hr14
          subst hr14
          refine z_sub [1, 2, 3, 4, 5] rfl ?_
          exact J89 x4 x5 σ1 hx4 hx5 eN1 h
        · have h := (wpO_mop.mp h).1 j13 hr14
          subst hr14
          obtain ⟨hj15, h⟩ := wpO_ck.mp h
          refine z_iload C 4 dX11_show_73 rfl ?_
          refine z_aload_n C 1 dX11_show_75 rfl ?_
          refine z_aload C 0 dX11_show_76 rfl ?_
          refine z_gIv (v := gI σ1 900 j13 0) C li_X11_307 (nN eN1 (toN eN1 hj15)) rfl dX11_show_78 ?_
          refine z_iload_n C 2 dX11_show_81 rfl ?_
          refine z_iload_n C 3 dX11_show_82 rfl ?_
          refine z_cV (st := [vi x4]) T C (ct_X11_takeShowing (gI σ1 900 j13 0) x1 x2 (hI6 900 j13 _) hx1 hx2) lm_X11_341 lv_vX11_takeShowing dX11_show_83 [vi (gI σ1 900 j13 0), vi x1, vi x2] rfl rfl rfl rfl rfl (sg_11 T) trivial (by decide) (Nat.le_of_ble_eq_true rfl) csOK_0 h (fun r16 σ18 hr17 eN19 h => ?_)
          have eN20 := eN19.trans eN1
          show Z κ (0, 0) _ 86 _ [vi r16, vi x4] ad σ18
          refine z_rng (fun hI21 hJ22 => ?_)
          obtain ⟨hk23, h⟩ := wpO_ck.mp h
          refine z_iadd C dX11_show_86 ?_
          refine z_istore (lv2 := [(4, vi (x4 + r16)), (6, vo ad 8 (some j13)), (0, vo ad 11 (some 0)), (1, vi x1), (2, vi x2), (5, vi x5)]) C dX11_show_87 (by decide) rfl ?_
          refine z_sub [2, 3, 4, 0, 5] rfl ?_
          exact J89 (x4 + r16) x5 σ18 hk23 hx5 eN20 h
    exact wh_ind (P := fun s : (Int × Int × St) => inr s.1 → inr s.2.1 → s.2.2.2.2.2 = σ.2.2.2 → Z κ (0, 0) (Qm κ ad σ enI okI X) 46 [(0, vo ad 11 (some 0)), (1, vi x1), (2, vi x2), (4, vi s.1), (5, vi s.2.1)] [] ad s.2.2) (fun s hs g0 g1 g2 => step _ _ (fun _ _ _ hp => hp) (fun x4 σ1 hq hx4 eN1 => J95 x4 σ1 hx4 eN1 hq) s.1 s.2.1 s.2.2 g0 g1 g2 hs) ((x4, x5, σ1)) (wpO_bnk.mp h) hx4 hx5 eN1
  show Z κ (0, 0) (Qm κ ad σ enI okI X) 0 [(0, vo ad 11 (some 0)), (1, vi x1), (2, vi x2)] [] ad σ
  refine z_rng (fun hI24 hJ25 => ?_)
  refine z_iload_n C 1 dX11_show_0 rfl ?_
  refine z_iload_n C 2 dX11_show_1 rfl ?_
  refine z_cSp (st := []) T C (ct_X11_refuseLandDay x1 x2 hx1 hx2) lm_X11_321 ls_X11_refuseLandDay dX11_show_2 rfl rfl trivial (by decide) (Nat.le_of_ble_eq_true rfl) csOK_0 h (fun r26 hr27 h => ?_)
  show Z κ (0, 0) _ 5 _ [vi r26] ad σ
  refine z_istore_n (lv2 := [(3, vi r26), (0, vo ad 11 (some 0)), (1, vi x1), (2, vi x2)]) C dX11_show_5 (by decide) rfl ?_
  refine z_iload_n C 0 dX11_show_6 rfl ?_
  refine z_if_eq C 12 hr27 dX11_show_7 (by decide) (fun q28 => ?_) (fun q28 => ?_)
  · have h := (wpO_ite.mp h).1 q28
    refine z_aload_n C 1 dX11_show_12 rfl ?_
    refine z_iload_n C 2 dX11_show_13 rfl ?_
    refine z_iload_n C 3 dX11_show_14 rfl ?_
    refine z_cV (st := []) T C (ct_X11_listStories x1 x2 hx1 hx2) lm_X11_325 lv_vX11_listStories dX11_show_15 [vi x1, vi x2] rfl rfl rfl rfl rfl (sg_11 T) trivial (by decide) (Nat.le_of_ble_eq_true rfl) csOK_0 h (fun r29 σ31 hr30 eN32 h => ?_)
    show Z κ (0, 0) _ 18 _ [] ad σ31
    refine z_rng (fun hI33 hJ34 => ?_)
    refine z_aload_n C 1 dX11_show_18 rfl ?_
    refine z_gR T C li_X11_65 (sg_11 T) dX11_show_19 ?_
    refine z_cV (st := []) T C ct_X4_search lm_X11_329 lv_vX4_search dX11_show_22 [] rfl rfl rfl rfl rfl (sg_4 T) trivial (by decide) (Nat.le_of_ble_eq_true rfl) csOK_0 h (fun r35 σ37 hr36 eN38 h => ?_)
    have eN39 := eN38.trans eN32
    show Z κ (0, 0) _ 25 _ [] ad σ37
    refine z_rng (fun hI40 hJ41 => ?_)
    refine z_aload_n C 1 dX11_show_25 rfl ?_
    refine z_gR T C li_X11_65 (sg_11 T) dX11_show_26 ?_
    refine z_gIv (v := gI σ37 511 0 0) C li_X11_332 (sg_4 T) rfl dX11_show_29 ?_
    refine z_bipush C dX11_show_32 (by decide) ?_
    refine z_icmp_ne C 40 (hI40 511 0 _) (by decide) dX11_show_34 (by decide) (fun q42 => ?_) (fun q42 => ?_)
    · have h := (wpO_ite.mp h).2 q42
      refine z_iconst C dX11_show_40 ?_
      refine z_istore (lv2 := [(4, vi 0), (3, vi r26), (0, vo ad 11 (some 0)), (1, vi x1), (2, vi x2)]) C dX11_show_41 (by decide) rfl ?_
      refine z_iconst C dX11_show_43 ?_
      refine z_istore (lv2 := [(5, vi 0), (4, vi 0), (3, vi r26), (0, vo ad 11 (some 0)), (1, vi x1), (2, vi x2)]) C dX11_show_44 (by decide) rfl ?_
      refine z_sub [3, 4, 5, 1, 0] rfl ?_
      exact J46 x1 x2 0 0 σ37 hx1 hx2 (by decide) (by decide) eN39 h
    · have h := (wpO_ite.mp h).1 q42
      refine z_bipush C dX11_show_37 (by decide) ?_
      have h := wpO_some.mp h
      exact z_ireturn T C dX11_show_39 (by decide) eN39 h
  · have h := (wpO_ite.mp h).2 q28
    refine z_iload_n C 0 dX11_show_10 rfl ?_
    have h := wpO_some.mp h
    exact z_ireturn T C dX11_show_11 hr27 rfl h
noncomputable def fX9_numbered (x1 : Int) (σ : St) : Option (Option Nat) :=
  ck (inr ((gI σ 1001 0 0) - 1)) (bnk (fX11_within x1 0 ((gI σ 1001 0 0) - 1)) (fun r4 => if r4 = 0 then (some none) else (ck (0 ≤ x1 ∧ x1 < 24) (lt (gP σ 1000 0 x1.toNat) (fun r8 => some r8)))))
set_option maxRecDepth 20000 in
set_option maxHeartbeats 4000000 in
theorem ct_X9_numbered (x1 : Int) (hx1 : inr x1) : Ct yX9_numbered cX9_numbered 2 (some (.object RX10)) 1 (fun ad => [vo ad 9 (some 0), vi x1]) (pu (fX9_numbered x1)) (enR 10) okR (fun _ => True) := by
  refine Ct.of (by decide) (fun ad => Nat.le_of_ble_eq_true rfl) ?_
  intro κ ad σ X C T hpre h
  have C : Cx κ RX9 cX9_numbered 2 (some (.object RX10)) 1 := C
  have h := wpO_pu.mp h
  unfold fX9_numbered at h
  show Z κ (0, 0) (Qm κ ad σ (enR 10) okR X) 0 [(0, vo ad 9 (some 0)), (1, vi x1)] [] ad σ
  refine z_rng (fun hI1 hJ2 => ?_)
  refine z_iload_n C 1 dX9_numbered_0 rfl ?_
  refine z_iconst C dX9_numbered_1 ?_
  refine z_aload_n C 0 dX9_numbered_2 rfl ?_
  refine z_gIv (v := gI σ 1001 0 0) C li_X9_21 (sg_9 T) rfl dX9_numbered_3 ?_
  refine z_iconst C dX9_numbered_6 ?_
  obtain ⟨hk3, h⟩ := wpO_ck.mp h
  refine z_isub C dX9_numbered_7 ?_
  refine z_cSp (st := []) T C (ct_X11_within x1 0 ((gI σ 1001 0 0) - 1) hx1 (by decide) hk3) lm_X9_29 ls_X11_within dX9_numbered_8 rfl rfl trivial (by decide) (Nat.le_of_ble_eq_true rfl) csOK_0 h (fun r4 hr5 h => ?_)
  show Z κ (0, 0) _ 11 _ [vi r4] ad σ
  refine z_if_eq C 23 (inr_b hr5) dX9_numbered_11 (by decide) (fun q6 => ?_) (fun q6 => ?_)
  · have h := (wpO_ite.mp h).1 q6
    refine z_null (K := 10) C dX9_numbered_23 ?_
    have h := wpO_some.mp h
    exact z_areturn T C dX9_numbered_24 rfl h
  · have h := (wpO_ite.mp h).2 q6
    refine z_aload_n C 0 dX9_numbered_14 rfl ?_
    refine z_gA T C li_X9_11 (sg_9 T) dX9_numbered_15 ?_
    refine z_iload_n C 1 dX9_numbered_18 rfl ?_
    obtain ⟨hb7, h⟩ := wpO_ck.mp h
    refine z_aald (K := 10) (t0 := 3) C ar_1000 (fun _ => rfl) (sg_1000 T) hx1 hb7 dX9_numbered_19 (fun r8 hr9 => ?_)
    have h := lt_elim h r8 hr9
    refine z_goto C 24 dX9_numbered_20 (by decide) ?_
    have h := wpO_some.mp h
    exact z_areturn T C dX9_numbered_24 rfl h
noncomputable def fX11_shut (x1 : Int) (σ : St) : Option (Int × St) :=
  bnk (fX9_numbered x1 σ) (fun r3 => mop r3 (fun j5 => ck (j5 < gN σ 10) (if gI σ 1106 j5 0 = 0 then (some (1, sI σ 1106 j5 0 1)) else (some ((-3), σ)))) (some ((-1), σ)))
set_option maxRecDepth 20000 in
set_option maxHeartbeats 4000000 in
theorem ct_X11_shut (x1 : Int) (hx1 : inr x1) : Ct yX11_shut cX11_shut 3 (some .int) 2 (fun ad => [vo ad 11 (some 0), vi x1]) (fX11_shut x1) enI okI (fun _ => True) := by
  refine Ct.of (by decide) (fun ad => Nat.le_of_ble_eq_true rfl) ?_
  intro κ ad σ X C T hpre h
  have C : Cx κ RX11 cX11_shut 3 (some .int) 2 := C
  unfold fX11_shut at h
  show Z κ (0, 0) (Qm κ ad σ enI okI X) 0 [(0, vo ad 11 (some 0)), (1, vi x1)] [] ad σ
  refine z_rng (fun hI1 hJ2 => ?_)
  refine z_aload_n C 0 dX11_shut_0 rfl ?_
  refine z_gR T C li_X11_10 (sg_11 T) dX11_shut_1 ?_
  refine z_iload_n C 1 dX11_shut_4 rfl ?_
  refine z_cVp (st := []) T C (ct_X9_numbered x1 hx1) lm_X11_110 lv_vX9_numbered dX11_shut_5 [vi x1] rfl rfl rfl rfl rfl (sg_9 T) trivial (by decide) (Nat.le_of_ble_eq_true rfl) csOK_0 h (fun r3 hr4 h => ?_)
  show Z κ (0, 0) _ 8 _ [vo ad 10 r3] ad σ
  refine z_astore_n (lv2 := [(2, vo ad 10 r3), (0, vo ad 11 (some 0)), (1, vi x1)]) C dX11_shut_8 (by decide) rfl ?_
  refine z_aload_n C 0 dX11_shut_9 rfl ?_
  refine z_ifnonnull C 15 dX11_shut_10 (by decide) (fun j5 hr6 => ?_) (fun hr6 => ?_)
  · have h := (wpO_mop.mp h).1 j5 hr6
    subst hr6
    obtain ⟨hj7, h⟩ := wpO_ck.mp h
    refine z_aload_n C 0 dX11_shut_15 rfl ?_
    refine z_gIv (v := gI σ 1106 j5 0) C li_X11_114 (nN rfl (toN rfl hj7)) rfl dX11_shut_16 ?_
    refine z_if_eq C 25 (hI1 1106 j5 _) dX11_shut_19 (by decide) (fun q8 => ?_) (fun q8 => ?_)
    · have h := (wpO_ite.mp h).1 q8
      refine z_aload_n C 0 dX11_shut_25 rfl ?_
      refine z_iconst C dX11_shut_26 ?_
      refine z_pB C lq_X11_114 (nN rfl (toN rfl hj7)) (by decide) dX11_shut_27 ?_
      refine z_iconst C dX11_shut_30 ?_
      have h := wpO_some.mp h
      exact z_ireturn T C dX11_shut_31 (by decide) rfl h
    · have h := (wpO_ite.mp h).2 q8
      refine z_bipush C dX11_shut_22 (by decide) ?_
      have h := wpO_some.mp h
      exact z_ireturn T C dX11_shut_24 (by decide) rfl h
  · have h := (wpO_mop.mp h).2 hr6
    subst hr6
    refine z_iconst C dX11_shut_13 ?_
    have h := wpO_some.mp h
    exact z_ireturn T C dX11_shut_14 (by decide) rfl h
noncomputable def fX11_strike (x1 : Int) (x2 : Int) (σ : St) : Option (Int × St) :=
  bnk (fX11_ruleNumbered x1 σ) (fun r3 => mop r3 (fun j5 => ck (j5 < gN σ 6) (bnk (fX11_isDay x2) (fun r8 => if r8 = 0 then (some ((-2), σ)) else (if gI σ 701 j5 0 = 1000000 then (some (1, sI σ 701 j5 0 x2)) else (some ((-3), σ)))))) (some ((-1), σ)))
set_option maxRecDepth 20000 in
set_option maxHeartbeats 4000000 in
theorem ct_X11_strike (x1 : Int) (x2 : Int) (hx1 : inr x1) (hx2 : inr x2) : Ct yX11_strike cX11_strike 4 (some .int) 2 (fun ad => [vo ad 11 (some 0), vi x1, vi x2]) (fX11_strike x1 x2) enI okI (fun _ => True) := by
  refine Ct.of (by decide) (fun ad => Nat.le_of_ble_eq_true rfl) ?_
  intro κ ad σ X C T hpre h
  have C : Cx κ RX11 cX11_strike 4 (some .int) 2 := C
  unfold fX11_strike at h
  show Z κ (0, 0) (Qm κ ad σ enI okI X) 0 [(0, vo ad 11 (some 0)), (1, vi x1), (2, vi x2)] [] ad σ
  refine z_rng (fun hI1 hJ2 => ?_)
  refine z_aload_n C 0 dX11_strike_0 rfl ?_
  refine z_iload_n C 1 dX11_strike_1 rfl ?_
  refine z_cVp (st := []) T C (ct_X11_ruleNumbered x1 hx1) lm_X11_265 lv_vX11_ruleNumbered dX11_strike_2 [vi x1] rfl rfl rfl rfl rfl (sg_11 T) trivial (by decide) (Nat.le_of_ble_eq_true rfl) csOK_0 h (fun r3 hr4 h => ?_)
  show Z κ (0, 0) _ 5 _ [vo ad 6 r3] ad σ
  refine z_astore_n (lv2 := [(3, vo ad 6 r3), (0, vo ad 11 (some 0)), (1, vi x1), (2, vi x2)]) C dX11_strike_5 (by decide) rfl ?_
  refine z_aload_n C 0 dX11_strike_6 rfl ?_
  refine z_ifnonnull C 12 dX11_strike_7 (by decide) (fun j5 hr6 => ?_) (fun hr6 => ?_)
  · have h := (wpO_mop.mp h).1 j5 hr6
    subst hr6
    obtain ⟨hj7, h⟩ := wpO_ck.mp h
    refine z_iload_n C 3 dX11_strike_12 rfl ?_
    refine z_cSp (st := []) T C (ct_X11_isDay x2 hx2) lm_X11_257 ls_X11_isDay dX11_strike_13 rfl rfl trivial (by decide) (Nat.le_of_ble_eq_true rfl) csOK_0 h (fun r8 hr9 h => ?_)
    show Z κ (0, 0) _ 16 _ [vi r8] ad σ
    refine z_if_ne C 22 (inr_b hr9) dX11_strike_16 (by decide) (fun q10 => ?_) (fun q10 => ?_)
    · have h := (wpO_ite.mp h).2 q10
      refine z_aload_n C 0 dX11_strike_22 rfl ?_
      refine z_gIv (v := gI σ 701 j5 0) C li_X11_276 (nN rfl (toN rfl hj7)) rfl dX11_strike_23 ?_
      refine z_ldc_w C lc_X11_279 dX11_strike_26 ?_
      refine z_icmp_eq C 35 (hI1 701 j5 _) (by decide) dX11_strike_29 (by decide) (fun q11 => ?_) (fun q11 => ?_)
      · have h := (wpO_ite.mp h).1 q11
        refine z_aload_n C 0 dX11_strike_35 rfl ?_
        refine z_iload_n C 3 dX11_strike_36 rfl ?_
        refine z_pI C lq_X11_276 (nN rfl (toN rfl hj7)) hx2 dX11_strike_37 ?_
        refine z_iconst C dX11_strike_40 ?_
        have h := wpO_some.mp h
        exact z_ireturn T C dX11_strike_41 (by decide) rfl h
      · have h := (wpO_ite.mp h).2 q11
        refine z_bipush C dX11_strike_32 (by decide) ?_
        have h := wpO_some.mp h
        exact z_ireturn T C dX11_strike_34 (by decide) rfl h
    · have h := (wpO_ite.mp h).1 q10
      refine z_bipush C dX11_strike_19 (by decide) ?_
      have h := wpO_some.mp h
      exact z_ireturn T C dX11_strike_21 (by decide) rfl h
  · have h := (wpO_mop.mp h).2 hr6
    subst hr6
    refine z_iconst C dX11_strike_10 ?_
    have h := wpO_some.mp h
    exact z_ireturn T C dX11_strike_11 (by decide) rfl h
noncomputable def fX2_bestWeek_j27 (x2 : Int) (σ1 : St) : Option (Int × St) :=
  if l2i (jrem x2 10) = 0 then (some ((-9), σ1)) else (ck (inr (9 - (l2i (jrem x2 10)))) (some (9 - (l2i (jrem x2 10)), σ1)))
noncomputable def fX2_bestWeek_l9 (x1 : Int) (σ1 : St) (x2 : Int) (x4 : Int) : Option ((Int × Int) ⊕ Int) :=
  if x4 ≤ x1 then (some (.inr x2)) else (ck (inr (x4 + (-1))) (some (.inl ((jdiv x2 10, x4 + (-1))))))
noncomputable def fX2_bestWeek_j9 (x1 : Int) (x2 : Int) (x4 : Int) (σ1 : St) : Option (Int × St) :=
  bnk (wh (fun s => fX2_bestWeek_l9 x1 σ1 s.1 s.2) ((x2, x4))) (fun e => fX2_bestWeek_j27 e σ1)
noncomputable def fX2_bestWeek (x1 : Int) (σ : St) : Option (Int × St) :=
  bnd (fX2_bestRun σ) (fun r11 σ13 => fX2_bestWeek_j9 x1 r11 7 σ13)
set_option maxRecDepth 20000 in
set_option maxHeartbeats 4000000 in
theorem ct_X2_bestWeek (x1 : Int) (hx1 : inr x1) : Ct yX2_bestWeek cX2_bestWeek 5 (some .int) 4 (fun ad => [vo ad 2 (some 0), vi x1]) (fX2_bestWeek x1) enI okI (fun _ => True) := by
  refine Ct.of (by decide) (fun ad => Nat.le_of_ble_eq_true rfl) ?_
  intro κ ad σ X C T hpre h
  have C : Cx κ RX2 cX2_bestWeek 5 (some .int) 4 := C
  unfold fX2_bestWeek at h
  have J27 : ∀ (x2 : Int) (σ1 : St), inq x2 → σ1.2.2.2 = σ.2.2.2 → wpO (fX2_bestWeek_j27 x2 σ1) (fun q => X q.1 q.2) → Z κ (0, 0) (Qm κ ad σ enI okI X) 27 [(2, vj x2)] [] ad σ1 := by
    intro x2 σ1 hx2 eN1 h
    unfold fX2_bestWeek_j27 at h
    refine z_rng (fun hI1 hJ2 => ?_)
    refine z_lload_n C 0 dX2_bestWeek_27 rfl ?_
    refine z_ldc2_w C lc_X2_48 dX2_bestWeek_28 ?_
    refine z_lrem C (by decide) (by decide) dX2_bestWeek_31 ?_
    refine z_l2i C dX2_bestWeek_32 ?_
    refine z_istore (lv2 := [(4, vi (l2i (jrem x2 10))), (2, vj x2)]) C dX2_bestWeek_33 (by decide) rfl ?_
    refine z_iload C 0 dX2_bestWeek_35 rfl ?_
    refine z_if_ne C 45 (inr_l2i _) dX2_bestWeek_37 (by decide) (fun q3 => ?_) (fun q3 => ?_)
    · have h := (wpO_ite.mp h).2 q3
      refine z_bipush C dX2_bestWeek_45 (by decide) ?_
      refine z_iload C 0 dX2_bestWeek_47 rfl ?_
      obtain ⟨hk4, h⟩ := wpO_ck.mp h
      refine z_isub C dX2_bestWeek_49 ?_
      have h := wpO_some.mp h
      exact z_ireturn T C dX2_bestWeek_50 hk4 eN1 h
    · have h := (wpO_ite.mp h).1 q3
      refine z_bipush C dX2_bestWeek_40 (by decide) ?_
      refine z_goto C 50 dX2_bestWeek_42 (by decide) ?_
      have h := wpO_some.mp h
      exact z_ireturn T C dX2_bestWeek_50 (by decide) eN1 h
  have J9 : ∀ (x1 : Int) (x2 : Int) (x4 : Int) (σ1 : St), inr x1 → inq x2 → inr x4 → σ1.2.2.2 = σ.2.2.2 → wpO (fX2_bestWeek_j9 x1 x2 x4 σ1) (fun q => X q.1 q.2) → Z κ (0, 0) (Qm κ ad σ enI okI X) 9 [(1, vi x1), (2, vj x2), (4, vi x4)] [] ad σ1 := by
    intro x1 x2 x4 σ1 hx1 hx2 hx4 eN1 h
    unfold fX2_bestWeek_j9 at h
    have step : ∀ (P9 : (Int × Int) → Prop) (Q9 : Int → Prop), (∀ (x2 : Int) (x4 : Int), P9 ((x2, x4)) → inq x2 → inr x4 → Z κ (0, 0) (Qm κ ad σ enI okI X) 9 [(1, vi x1), (2, vj x2), (4, vi x4)] [] ad σ1) → (∀ (x2 : Int), Q9 (x2) → inq x2 → Z κ (0, 0) (Qm κ ad σ enI okI X) 27 [(2, vj x2)] [] ad σ1) → ∀ (x2 : Int) (x4 : Int), inq x2 → inr x4 → wpO (fX2_bestWeek_l9 x1 σ1 x2 x4) (onS P9 Q9) → Z κ (0, 0) (Qm κ ad σ enI okI X) 9 [(1, vi x1), (2, vj x2), (4, vi x4)] [] ad σ1 := by
      intro P9 Q9 hP9 hE9_27 x2 x4 hx2 hx4 h
      unfold fX2_bestWeek_l9 at h
      refine z_rng (fun hI5 hJ6 => ?_)
      refine z_iload C 2 dX2_bestWeek_9 rfl ?_
      refine z_iload_n C 0 dX2_bestWeek_11 rfl ?_
      refine z_icmp_le C 27 hx4 hx1 dX2_bestWeek_12 (by decide) (fun q7 => ?_) (fun q7 => ?_)
      · have h := (wpO_ite.mp h).1 q7
        refine z_sub [1] rfl ?_
        have h := wpO_some.mp h
        exact hE9_27 x2 h hx2
      · have h := (wpO_ite.mp h).2 q7
        refine z_lload_n C 1 dX2_bestWeek_15 rfl ?_
        refine z_ldc2_w C lc_X2_48 dX2_bestWeek_16 ?_
        refine z_ldiv C (by decide) (by decide) dX2_bestWeek_19 ?_
        refine z_lstore_n (lv2 := [(2, vj (jdiv x2 10)), (1, vi x1), (4, vi x4)]) C dX2_bestWeek_20 (by decide) rfl ?_
        obtain ⟨hk8, h⟩ := wpO_ck.mp h
        refine z_iinc (lv2 := [(4, vi (x4 + (-1))), (2, vj (jdiv x2 10)), (1, vi x1)]) C 2 dX2_bestWeek_21 rfl (by decide) rfl ?_
        refine z_goto C 9 dX2_bestWeek_24 (by decide) ?_
        refine z_sub [2, 1, 0] rfl ?_
        have h := wpO_some.mp h
        exact hP9 (jdiv x2 10) (x4 + (-1)) h (inq_jdiv _ _) hk8
    exact wh_ind (P := fun s : (Int × Int) => inq s.1 → inr s.2 → Z κ (0, 0) (Qm κ ad σ enI okI X) 9 [(1, vi x1), (2, vj s.1), (4, vi s.2)] [] ad σ1) (fun s hs g0 g1 => step _ _ (fun _ _ hp => hp) (fun x2 hq hx2 => J27 x2 σ1 hx2 eN1 hq) s.1 s.2 g0 g1 hs) ((x2, x4)) (wpO_bnk.mp h) hx2 hx4
  show Z κ (0, 0) (Qm κ ad σ enI okI X) 0 [(0, vo ad 2 (some 0)), (1, vi x1)] [] ad σ
  refine z_rng (fun hI9 hJ10 => ?_)
  refine z_aload_n C 0 dX2_bestWeek_0 rfl ?_
  refine z_cV (st := []) T C ct_X2_bestRun lm_X2_42 lv_vX2_bestRun dX2_bestWeek_1 [] rfl rfl rfl rfl rfl (sg_2 T) trivial (by decide) (Nat.le_of_ble_eq_true rfl) csOK_0 h (fun r11 σ13 hr12 eN14 h => ?_)
  show Z κ (0, 0) _ 4 _ [vj r11] ad σ13
  refine z_rng (fun hI15 hJ16 => ?_)
  refine z_lstore_n (lv2 := [(2, vj r11), (0, vo ad 2 (some 0)), (1, vi x1)]) C dX2_bestWeek_4 (by decide) rfl ?_
  refine z_bipush C dX2_bestWeek_5 (by decide) ?_
  refine z_istore (lv2 := [(4, vi 7), (2, vj r11), (0, vo ad 2 (some 0)), (1, vi x1)]) C dX2_bestWeek_7 (by decide) rfl ?_
  refine z_sub [3, 1, 0] rfl ?_
  exact J9 x1 r11 7 σ13 hx1 hr12 (by decide) eN14 h
noncomputable def fX11_week (x1 : Int) (σ : St) : Option (Int × St) :=
  ck (inr ((gI σ 300 0 0) - 1)) (bnk (fX11_within x1 0 ((gI σ 300 0 0) - 1)) (fun r4 => if r4 = 0 then (some ((-1), σ)) else (bnd (fX2_bestWeek x1 σ) (fun r7 σ9 => some (r7, σ9)))))
set_option maxRecDepth 20000 in
set_option maxHeartbeats 4000000 in
theorem ct_X11_week (x1 : Int) (hx1 : inr x1) : Ct yX11_week cX11_week 2 (some .int) 5 (fun ad => [vo ad 11 (some 0), vi x1]) (fX11_week x1) enI okI (fun _ => True) := by
  refine Ct.of (by decide) (fun ad => Nat.le_of_ble_eq_true rfl) ?_
  intro κ ad σ X C T hpre h
  have C : Cx κ RX11 cX11_week 2 (some .int) 5 := C
  unfold fX11_week at h
  show Z κ (0, 0) (Qm κ ad σ enI okI X) 0 [(0, vo ad 11 (some 0)), (1, vi x1)] [] ad σ
  refine z_rng (fun hI1 hJ2 => ?_)
  refine z_iload_n C 1 dX11_week_0 rfl ?_
  refine z_iconst C dX11_week_1 ?_
  refine z_aload_n C 0 dX11_week_2 rfl ?_
  refine z_gR T C li_X11_79 (sg_11 T) dX11_week_3 ?_
  refine z_gIv (v := gI σ 300 0 0) C li_X11_379 (sg_2 T) rfl dX11_week_6 ?_
  refine z_iconst C dX11_week_9 ?_
  obtain ⟨hk3, h⟩ := wpO_ck.mp h
  refine z_isub C dX11_week_10 ?_
  refine z_cSp (st := []) T C (ct_X11_within x1 0 ((gI σ 300 0 0) - 1) hx1 (by decide) hk3) lm_X11_83 ls_X11_within dX11_week_11 rfl rfl trivial (by decide) (Nat.le_of_ble_eq_true rfl) csOK_0 h (fun r4 hr5 h => ?_)
  show Z κ (0, 0) _ 14 _ [vi r4] ad σ
  refine z_if_eq C 28 (inr_b hr5) dX11_week_14 (by decide) (fun q6 => ?_) (fun q6 => ?_)
  · have h := (wpO_ite.mp h).1 q6
    refine z_iconst C dX11_week_28 ?_
    have h := wpO_some.mp h
    exact z_ireturn T C dX11_week_29 (by decide) rfl h
  · have h := (wpO_ite.mp h).2 q6
    refine z_aload_n C 0 dX11_week_17 rfl ?_
    refine z_gR T C li_X11_79 (sg_11 T) dX11_week_18 ?_
    refine z_iload_n C 1 dX11_week_21 rfl ?_
    refine z_cV (st := []) T C (ct_X2_bestWeek x1 hx1) lm_X11_382 lv_vX2_bestWeek dX11_week_22 [vi x1] rfl rfl rfl rfl rfl (sg_2 T) trivial (by decide) (Nat.le_of_ble_eq_true rfl) csOK_0 h (fun r7 σ9 hr8 eN10 h => ?_)
    show Z κ (0, 0) _ 25 _ [vi r7] ad σ9
    refine z_rng (fun hI11 hJ12 => ?_)
    refine z_goto C 29 dX11_week_25 (by decide) ?_
    have h := wpO_some.mp h
    exact z_ireturn T C dX11_week_29 hr8 eN10 h
noncomputable def fX11_where (x1 : Int) (x2 : Int) (σ : St) : Option Int :=
  bnk (fX11_shotNumbered x1 σ) (fun r3 => mop r3 (fun j5 => ck (j5 < gN σ 7) (bnk (fX11_within x2 0 (gI σ 1200 0 0)) (fun r8 => if r8 = 0 then (some ((-2))) else (bnk (fX7_whereAt j5 x2 σ) (fun r11 => some r11))))) (some ((-1))))
set_option maxRecDepth 20000 in
set_option maxHeartbeats 4000000 in
theorem ct_X11_where (x1 : Int) (x2 : Int) (hx1 : inr x1) (hx2 : inr x2) : Ct yX11_where cX11_where 4 (some .int) 2 (fun ad => [vo ad 11 (some 0), vi x1, vi x2]) (pu (fX11_where x1 x2)) enI okI (fun _ => True) := by
  refine Ct.of (by decide) (fun ad => Nat.le_of_ble_eq_true rfl) ?_
  intro κ ad σ X C T hpre h
  have C : Cx κ RX11 cX11_where 4 (some .int) 2 := C
  have h := wpO_pu.mp h
  unfold fX11_where at h
  show Z κ (0, 0) (Qm κ ad σ enI okI X) 0 [(0, vo ad 11 (some 0)), (1, vi x1), (2, vi x2)] [] ad σ
  refine z_rng (fun hI1 hJ2 => ?_)
  refine z_aload_n C 0 dX11_where_0 rfl ?_
  refine z_iload_n C 1 dX11_where_1 rfl ?_
  refine z_cVp (st := []) T C (ct_X11_shotNumbered x1 hx1) lm_X11_144 lv_vX11_shotNumbered dX11_where_2 [vi x1] rfl rfl rfl rfl rfl (sg_11 T) trivial (by decide) (Nat.le_of_ble_eq_true rfl) csOK_0 h (fun r3 hr4 h => ?_)
  show Z κ (0, 0) _ 5 _ [vo ad 7 r3] ad σ
  refine z_astore_n (lv2 := [(3, vo ad 7 r3), (0, vo ad 11 (some 0)), (1, vi x1), (2, vi x2)]) C dX11_where_5 (by decide) rfl ?_
  refine z_aload_n C 0 dX11_where_6 rfl ?_
  refine z_ifnonnull C 12 dX11_where_7 (by decide) (fun j5 hr6 => ?_) (fun hr6 => ?_)
  · have h := (wpO_mop.mp h).1 j5 hr6
    subst hr6
    obtain ⟨hj7, h⟩ := wpO_ck.mp h
    refine z_iload_n C 3 dX11_where_12 rfl ?_
    refine z_iconst C dX11_where_13 ?_
    refine z_aload_n C 1 dX11_where_14 rfl ?_
    refine z_gIv (v := gI σ 1200 0 0) C li_X11_87 (sg_11 T) rfl dX11_where_15 ?_
    refine z_cSp (st := []) T C (ct_X11_within x2 0 (gI σ 1200 0 0) hx2 (by decide) (hI1 1200 0 _)) lm_X11_83 ls_X11_within dX11_where_18 rfl rfl trivial (by decide) (Nat.le_of_ble_eq_true rfl) csOK_0 h (fun r8 hr9 h => ?_)
    show Z κ (0, 0) _ 21 _ [vi r8] ad σ
    refine z_if_eq C 32 (inr_b hr9) dX11_where_21 (by decide) (fun q10 => ?_) (fun q10 => ?_)
    · have h := (wpO_ite.mp h).1 q10
      refine z_bipush C dX11_where_32 (by decide) ?_
      have h := wpO_some.mp h
      exact z_ireturn T C dX11_where_34 (by decide) rfl h
    · have h := (wpO_ite.mp h).2 q10
      refine z_aload_n C 0 dX11_where_24 rfl ?_
      refine z_iload_n C 3 dX11_where_25 rfl ?_
      refine z_cVp (st := []) T C (ct_X7_whereAt j5 x2 hx2) lm_X11_166 lv_vX7_whereAt dX11_where_26 [vi x2] rfl rfl rfl rfl rfl (nN rfl (toN rfl hj7)) (nNl rfl (toN rfl hj7)) (by decide) (Nat.le_of_ble_eq_true rfl) csOK_0 h (fun r11 hr12 h => ?_)
      show Z κ (0, 0) _ 29 _ [vi r11] ad σ
      refine z_goto C 34 dX11_where_29 (by decide) ?_
      have h := wpO_some.mp h
      exact z_ireturn T C dX11_where_34 hr12 rfl h
  · have h := (wpO_mop.mp h).2 hr6
    subst hr6
    refine z_iconst C dX11_where_10 ?_
    have h := wpO_some.mp h
    exact z_ireturn T C dX11_where_11 (by decide) rfl h
noncomputable def fX12_in (x0 : Int) (x2 : Int) (x4 : Int) : Option Int :=
  if lcm_ x0 x2 < 0 then (some 0) else (if 0 < lcm_ x0 x4 then (some 0) else (some 1))
set_option maxRecDepth 20000 in
set_option maxHeartbeats 4000000 in
theorem ct_X12_in (x0 : Int) (x2 : Int) (x4 : Int) (hx0 : inq x0) (hx2 : inq x2) (hx4 : inq x4) : Ct yX12_in cX12_in 6 (some .boolean) 0 (fun ad => [vj x0, vj x2, vj x4]) (pu (fun _ => fX12_in x0 x2 x4)) enI okB (fun _ => True) := by
  refine Ct.of (by decide) (fun ad => Nat.le_of_ble_eq_true rfl) ?_
  intro κ ad σ X C T hpre h
  have C : Cx κ RX12 cX12_in 6 (some .boolean) 0 := C
  have h := wpO_pu.mp h
  unfold fX12_in at h
  show Z κ (0, 0) (Qm κ ad σ enI okB X) 0 [(0, vj x0), (2, vj x2), (4, vj x4)] [] ad σ
  refine z_lload_n C 0 dX12_in_0 rfl ?_
  refine z_lload_n C 1 dX12_in_1 rfl ?_
  refine z_lcmp C hx0 hx2 dX12_in_2 ?_
  refine z_if_lt C 17 (inr_lcm _ _) dX12_in_3 (by decide) (fun q1 => ?_) (fun q1 => ?_)
  · have h := (wpO_ite.mp h).1 q1
    refine z_iconst C dX12_in_17 ?_
    have h := wpO_some.mp h
    exact z_breturn T C dX12_in_18 (by decide) rfl h
  · have h := (wpO_ite.mp h).2 q1
    refine z_lload_n C 0 dX12_in_6 rfl ?_
    refine z_lload C 2 dX12_in_7 rfl ?_
    refine z_lcmp C hx0 hx4 dX12_in_9 ?_
    refine z_if_gt C 17 (inr_lcm _ _) dX12_in_10 (by decide) (fun q2 => ?_) (fun q2 => ?_)
    · have h := (wpO_ite.mp h).1 q2
      refine z_iconst C dX12_in_17 ?_
      have h := wpO_some.mp h
      exact z_breturn T C dX12_in_18 (by decide) rfl h
    · have h := (wpO_ite.mp h).2 q2
      refine z_iconst C dX12_in_13 ?_
      refine z_goto C 18 dX12_in_14 (by decide) ?_
      have h := wpO_some.mp h
      exact z_breturn T C dX12_in_18 (by decide) rfl h
noncomputable def fX12_isShot (x1 : Int) (σ : St) : Option Int :=
  ck (inr ((gI σ 1310 0 0) - 1)) (bnk (fX12_in x1 0 ((gI σ 1310 0 0) - 1)) (fun r4 => some r4))
set_option maxRecDepth 20000 in
set_option maxHeartbeats 4000000 in
theorem ct_X12_isShot (x1 : Int) (hx1 : inr x1) : Ct yX12_isShot cX12_isShot 2 (some .boolean) 1 (fun ad => [vo ad 12 (some 0), vi x1]) (pu (fX12_isShot x1)) enI okB (fun _ => True) := by
  refine Ct.of (by decide) (fun ad => Nat.le_of_ble_eq_true rfl) ?_
  intro κ ad σ X C T hpre h
  have C : Cx κ RX12 cX12_isShot 2 (some .boolean) 1 := C
  have h := wpO_pu.mp h
  unfold fX12_isShot at h
  show Z κ (0, 0) (Qm κ ad σ enI okB X) 0 [(0, vo ad 12 (some 0)), (1, vi x1)] [] ad σ
  refine z_rng (fun hI1 hJ2 => ?_)
  refine z_iload_n C 1 dX12_isShot_0 rfl ?_
  refine z_i2l C hx1 dX12_isShot_1 ?_
  refine z_lconst (z := 0) C dX12_isShot_2 (by decide) ?_
  refine z_aload_n C 0 dX12_isShot_3 rfl ?_
  refine z_gIv (v := gI σ 1310 0 0) C li_X12_279 (sg_12 T) rfl dX12_isShot_4 ?_
  refine z_iconst C dX12_isShot_7 ?_
  obtain ⟨hk3, h⟩ := wpO_ck.mp h
  refine z_isub C dX12_isShot_8 ?_
  refine z_i2l C hk3 dX12_isShot_9 ?_
  refine z_cSp (st := []) T C (ct_X12_in x1 0 ((gI σ 1310 0 0) - 1) (inq_i hx1) (by decide) (inq_i hk3)) lm_X12_245 ls_X12_in dX12_isShot_10 rfl rfl trivial (by decide) (Nat.le_of_ble_eq_true rfl) csOK_0 h (fun r4 hr5 h => ?_)
  show Z κ (0, 0) _ 13 _ [vi r4] ad σ
  have h := wpO_some.mp h
  exact z_breturn T C dX12_isShot_13 hr5 rfl h
noncomputable def fX12_about (x1 : Int) (x2 : Int) (σ : St) : Option Int :=
  bnk (fX12_isShot x1 σ) (fun r3 => if r3 = 0 then (some ((-1))) else (if x2 = 0 then (ck (0 ≤ x1 ∧ x1 < 40) (some (gI σ 1311 0 x1.toNat))) else (if x2 = 1 then (ck (0 ≤ x1 ∧ x1 < 40) (some (gI σ 1312 0 x1.toNat))) else (if x2 = 2 then (ck (0 ≤ x1 ∧ x1 < 40) (some (gI σ 1313 0 x1.toNat))) else (if x2 = 3 then (ck (0 ≤ x1 ∧ x1 < 40) (some (gI σ 1314 0 x1.toNat))) else (if x2 = 4 then (ck (0 ≤ x1 ∧ x1 < 40) (some (gI σ 1315 0 x1.toNat))) else (if x2 = 5 then (ck (0 ≤ x1 ∧ x1 < 40) (some (gI σ 1316 0 x1.toNat))) else (some ((-2))))))))))
set_option maxRecDepth 20000 in
set_option maxHeartbeats 4000000 in
theorem ct_X12_about (x1 : Int) (x2 : Int) (hx1 : inr x1) (hx2 : inr x2) : Ct yX12_about cX12_about 3 (some .int) 2 (fun ad => [vo ad 12 (some 0), vi x1, vi x2]) (pu (fX12_about x1 x2)) enI okI (fun _ => True) := by
  refine Ct.of (by decide) (fun ad => Nat.le_of_ble_eq_true rfl) ?_
  intro κ ad σ X C T hpre h
  have C : Cx κ RX12 cX12_about 3 (some .int) 2 := C
  have h := wpO_pu.mp h
  unfold fX12_about at h
  show Z κ (0, 0) (Qm κ ad σ enI okI X) 0 [(0, vo ad 12 (some 0)), (1, vi x1), (2, vi x2)] [] ad σ
  refine z_rng (fun hI1 hJ2 => ?_)
  refine z_aload_n C 0 dX12_about_0 rfl ?_
  refine z_iload_n C 1 dX12_about_1 rfl ?_
  refine z_cVp (st := []) T C (ct_X12_isShot x1 hx1) lm_X12_290 lv_vX12_isShot dX12_about_2 [vi x1] rfl rfl rfl rfl rfl (sg_12 T) trivial (by decide) (Nat.le_of_ble_eq_true rfl) csOK_0 h (fun r3 hr4 h => ?_)
  show Z κ (0, 0) _ 5 _ [vi r3] ad σ
  refine z_if_ne C 10 (inr_b hr4) dX12_about_5 (by decide) (fun q5 => ?_) (fun q5 => ?_)
  · have h := (wpO_ite.mp h).2 q5
    refine z_iload_n C 2 dX12_about_10 rfl ?_
    by_cases q6 : x2 = 0
    · have h := (wpO_ite.mp h).1 q6
      refine z_tableIn (off := 37) C 48 hx2 dX12_about_11 (by omega) (by omega) (by rw [q6]; rfl) (by decide) ?_
      refine z_aload_n C 0 dX12_about_48 rfl ?_
      refine z_gA T C li_X12_35 (sg_12 T) dX12_about_49 ?_
      refine z_iload_n C 1 dX12_about_52 rfl ?_
      obtain ⟨hb7, h⟩ := wpO_ck.mp h
      refine z_iav (v := gI σ 1311 0 x1.toNat) C ar_1311 (sg_1311 T) hx1 hb7 rfl dX12_about_53 ?_
      have h := wpO_some.mp h
      exact z_ireturn T C dX12_about_54 (hI1 1311 0 _) rfl h
    have h := (wpO_ite.mp h).2 q6
    by_cases q8 : x2 = 1
    · have h := (wpO_ite.mp h).1 q8
      refine z_tableIn (off := 44) C 55 hx2 dX12_about_11 (by omega) (by omega) (by rw [q8]; rfl) (by decide) ?_
      refine z_aload_n C 0 dX12_about_55 rfl ?_
      refine z_gA T C li_X12_38 (sg_12 T) dX12_about_56 ?_
      refine z_iload_n C 1 dX12_about_59 rfl ?_
      obtain ⟨hb9, h⟩ := wpO_ck.mp h
      refine z_iav (v := gI σ 1312 0 x1.toNat) C ar_1312 (sg_1312 T) hx1 hb9 rfl dX12_about_60 ?_
      have h := wpO_some.mp h
      exact z_ireturn T C dX12_about_61 (hI1 1312 0 _) rfl h
    have h := (wpO_ite.mp h).2 q8
    by_cases q10 : x2 = 2
    · have h := (wpO_ite.mp h).1 q10
      refine z_tableIn (off := 51) C 62 hx2 dX12_about_11 (by omega) (by omega) (by rw [q10]; rfl) (by decide) ?_
      refine z_aload_n C 0 dX12_about_62 rfl ?_
      refine z_gA T C li_X12_41 (sg_12 T) dX12_about_63 ?_
      refine z_iload_n C 1 dX12_about_66 rfl ?_
      obtain ⟨hb11, h⟩ := wpO_ck.mp h
      refine z_iav (v := gI σ 1313 0 x1.toNat) C ar_1313 (sg_1313 T) hx1 hb11 rfl dX12_about_67 ?_
      have h := wpO_some.mp h
      exact z_ireturn T C dX12_about_68 (hI1 1313 0 _) rfl h
    have h := (wpO_ite.mp h).2 q10
    by_cases q12 : x2 = 3
    · have h := (wpO_ite.mp h).1 q12
      refine z_tableIn (off := 58) C 69 hx2 dX12_about_11 (by omega) (by omega) (by rw [q12]; rfl) (by decide) ?_
      refine z_aload_n C 0 dX12_about_69 rfl ?_
      refine z_gA T C li_X12_44 (sg_12 T) dX12_about_70 ?_
      refine z_iload_n C 1 dX12_about_73 rfl ?_
      obtain ⟨hb13, h⟩ := wpO_ck.mp h
      refine z_iav (v := gI σ 1314 0 x1.toNat) C ar_1314 (sg_1314 T) hx1 hb13 rfl dX12_about_74 ?_
      have h := wpO_some.mp h
      exact z_ireturn T C dX12_about_75 (hI1 1314 0 _) rfl h
    have h := (wpO_ite.mp h).2 q12
    by_cases q14 : x2 = 4
    · have h := (wpO_ite.mp h).1 q14
      refine z_tableIn (off := 65) C 76 hx2 dX12_about_11 (by omega) (by omega) (by rw [q14]; rfl) (by decide) ?_
      refine z_aload_n C 0 dX12_about_76 rfl ?_
      refine z_gA T C li_X12_47 (sg_12 T) dX12_about_77 ?_
      refine z_iload_n C 1 dX12_about_80 rfl ?_
      obtain ⟨hb15, h⟩ := wpO_ck.mp h
      refine z_iav (v := gI σ 1315 0 x1.toNat) C ar_1315 (sg_1315 T) hx1 hb15 rfl dX12_about_81 ?_
      have h := wpO_some.mp h
      exact z_ireturn T C dX12_about_82 (hI1 1315 0 _) rfl h
    have h := (wpO_ite.mp h).2 q14
    by_cases q16 : x2 = 5
    · have h := (wpO_ite.mp h).1 q16
      refine z_tableIn (off := 72) C 83 hx2 dX12_about_11 (by omega) (by omega) (by rw [q16]; rfl) (by decide) ?_
      refine z_aload_n C 0 dX12_about_83 rfl ?_
      refine z_gA T C li_X12_50 (sg_12 T) dX12_about_84 ?_
      refine z_iload_n C 1 dX12_about_87 rfl ?_
      obtain ⟨hb17, h⟩ := wpO_ck.mp h
      refine z_iav (v := gI σ 1316 0 x1.toNat) C ar_1316 (sg_1316 T) hx1 hb17 rfl dX12_about_88 ?_
      have h := wpO_some.mp h
      exact z_ireturn T C dX12_about_89 (hI1 1316 0 _) rfl h
    have h := (wpO_ite.mp h).2 q16
    refine z_tableOut C 90 hx2 dX12_about_11 (by omega) (by decide) ?_
    refine z_bipush C dX12_about_90 (by decide) ?_
    have h := wpO_some.mp h
    exact z_ireturn T C dX12_about_92 (by decide) rfl h
  · have h := (wpO_ite.mp h).1 q5
    refine z_iconst C dX12_about_8 ?_
    have h := wpO_some.mp h
    exact z_ireturn T C dX12_about_9 (by decide) rfl h
noncomputable def fX12_age (x1 : Int) (σ : St) : Option (Int × St) :=
  bnk (fX12_in x1 0 400) (fun r3 => if r3 = 0 then (some ((-2), σ)) else (some (gI σ 1335 0 0, sI σ 1335 0 0 x1)))
set_option maxRecDepth 20000 in
set_option maxHeartbeats 4000000 in
theorem ct_X12_age (x1 : Int) (hx1 : inr x1) : Ct yX12_age cX12_age 3 (some .int) 1 (fun ad => [vo ad 12 (some 0), vi x1]) (fX12_age x1) enI okI (fun _ => True) := by
  refine Ct.of (by decide) (fun ad => Nat.le_of_ble_eq_true rfl) ?_
  intro κ ad σ X C T hpre h
  have C : Cx κ RX12 cX12_age 3 (some .int) 1 := C
  unfold fX12_age at h
  show Z κ (0, 0) (Qm κ ad σ enI okI X) 0 [(0, vo ad 12 (some 0)), (1, vi x1)] [] ad σ
  refine z_rng (fun hI1 hJ2 => ?_)
  refine z_iload_n C 1 dX12_age_0 rfl ?_
  refine z_i2l C hx1 dX12_age_1 ?_
  refine z_lconst (z := 0) C dX12_age_2 (by decide) ?_
  refine z_ldc2_w C lc_X12_332 dX12_age_3 ?_
  refine z_cSp (st := []) T C (ct_X12_in x1 0 400 (inq_i hx1) (by decide) (by decide)) lm_X12_245 ls_X12_in dX12_age_6 rfl rfl trivial (by decide) (Nat.le_of_ble_eq_true rfl) csOK_0 h (fun r3 hr4 h => ?_)
  show Z κ (0, 0) _ 9 _ [vi r3] ad σ
  refine z_if_ne C 15 (inr_b hr4) dX12_age_9 (by decide) (fun q5 => ?_) (fun q5 => ?_)
  · have h := (wpO_ite.mp h).2 q5
    refine z_aload_n C 0 dX12_age_15 rfl ?_
    refine z_gIv (v := gI σ 1335 0 0) C li_X12_104 (sg_12 T) rfl dX12_age_16 ?_
    refine z_istore_n (lv2 := [(2, vi (gI σ 1335 0 0)), (0, vo ad 12 (some 0)), (1, vi x1)]) C dX12_age_19 (by decide) rfl ?_
    refine z_aload_n C 1 dX12_age_20 rfl ?_
    refine z_iload_n C 2 dX12_age_21 rfl ?_
    refine z_pI C lq_X12_104 (sg_12 T) hx1 dX12_age_22 ?_
    refine z_iload_n C 0 dX12_age_25 rfl ?_
    have h := wpO_some.mp h
    exact z_ireturn T C dX12_age_26 (hI1 1335 0 _) rfl h
  · have h := (wpO_ite.mp h).1 q5
    refine z_bipush C dX12_age_12 (by decide) ?_
    have h := wpO_some.mp h
    exact z_ireturn T C dX12_age_14 (by decide) rfl h
noncomputable def fX12_isStory (x1 : Int) (σ : St) : Option Int :=
  ck (inr ((gI σ 1326 0 0) - 1)) (bnk (fX12_in x1 0 ((gI σ 1326 0 0) - 1)) (fun r4 => some r4))
set_option maxRecDepth 20000 in
set_option maxHeartbeats 4000000 in
theorem ct_X12_isStory (x1 : Int) (hx1 : inr x1) : Ct yX12_isStory cX12_isStory 2 (some .boolean) 1 (fun ad => [vo ad 12 (some 0), vi x1]) (pu (fX12_isStory x1)) enI okB (fun _ => True) := by
  refine Ct.of (by decide) (fun ad => Nat.le_of_ble_eq_true rfl) ?_
  intro κ ad σ X C T hpre h
  have C : Cx κ RX12 cX12_isStory 2 (some .boolean) 1 := C
  have h := wpO_pu.mp h
  unfold fX12_isStory at h
  show Z κ (0, 0) (Qm κ ad σ enI okB X) 0 [(0, vo ad 12 (some 0)), (1, vi x1)] [] ad σ
  refine z_rng (fun hI1 hJ2 => ?_)
  refine z_iload_n C 1 dX12_isStory_0 rfl ?_
  refine z_i2l C hx1 dX12_isStory_1 ?_
  refine z_lconst (z := 0) C dX12_isStory_2 (by decide) ?_
  refine z_aload_n C 0 dX12_isStory_3 rfl ?_
  refine z_gIv (v := gI σ 1326 0 0) C li_X12_311 (sg_12 T) rfl dX12_isStory_4 ?_
  refine z_iconst C dX12_isStory_7 ?_
  obtain ⟨hk3, h⟩ := wpO_ck.mp h
  refine z_isub C dX12_isStory_8 ?_
  refine z_i2l C hk3 dX12_isStory_9 ?_
  refine z_cSp (st := []) T C (ct_X12_in x1 0 ((gI σ 1326 0 0) - 1) (inq_i hx1) (by decide) (inq_i hk3)) lm_X12_245 ls_X12_in dX12_isStory_10 rfl rfl trivial (by decide) (Nat.le_of_ble_eq_true rfl) csOK_0 h (fun r4 hr5 h => ?_)
  show Z κ (0, 0) _ 13 _ [vi r4] ad σ
  have h := wpO_some.mp h
  exact z_breturn T C dX12_isStory_13 hr5 rfl h
noncomputable def fX12_isLand (x0 : Int) : Option Int :=
  bnk (fX12_in x0 0 4) (fun r1 => some r1)
set_option maxRecDepth 20000 in
set_option maxHeartbeats 4000000 in
theorem ct_X12_isLand (x0 : Int) (hx0 : inr x0) : Ct yX12_isLand cX12_isLand 1 (some .boolean) 1 (fun ad => [vi x0]) (pu (fun _ => fX12_isLand x0)) enI okB (fun _ => True) := by
  refine Ct.of (by decide) (fun ad => Nat.le_of_ble_eq_true rfl) ?_
  intro κ ad σ X C T hpre h
  have C : Cx κ RX12 cX12_isLand 1 (some .boolean) 1 := C
  have h := wpO_pu.mp h
  unfold fX12_isLand at h
  show Z κ (0, 0) (Qm κ ad σ enI okB X) 0 [(0, vi x0)] [] ad σ
  refine z_iload_n C 0 dX12_isLand_0 rfl ?_
  refine z_i2l C hx0 dX12_isLand_1 ?_
  refine z_lconst (z := 0) C dX12_isLand_2 (by decide) ?_
  refine z_ldc2_w C lc_X12_384 dX12_isLand_3 ?_
  refine z_cSp (st := []) T C (ct_X12_in x0 0 4 (inq_i hx0) (by decide) (by decide)) lm_X12_245 ls_X12_in dX12_isLand_6 rfl rfl trivial (by decide) (Nat.le_of_ble_eq_true rfl) csOK_0 h (fun r1 hr2 h => ?_)
  show Z κ (0, 0) _ 9 _ [vi r1] ad σ
  have h := wpO_some.mp h
  exact z_breturn T C dX12_isLand_9 hr2 rfl h
noncomputable def fX12_isDay (x0 : Int) : Option Int :=
  bnk (fX12_in x0 0 416) (fun r1 => some r1)
set_option maxRecDepth 20000 in
set_option maxHeartbeats 4000000 in
theorem ct_X12_isDay (x0 : Int) (hx0 : inr x0) : Ct yX12_isDay cX12_isDay 1 (some .boolean) 1 (fun ad => [vi x0]) (pu (fun _ => fX12_isDay x0)) enI okB (fun _ => True) := by
  refine Ct.of (by decide) (fun ad => Nat.le_of_ble_eq_true rfl) ?_
  intro κ ad σ X C T hpre h
  have C : Cx κ RX12 cX12_isDay 1 (some .boolean) 1 := C
  have h := wpO_pu.mp h
  unfold fX12_isDay at h
  show Z κ (0, 0) (Qm κ ad σ enI okB X) 0 [(0, vi x0)] [] ad σ
  refine z_iload_n C 0 dX12_isDay_0 rfl ?_
  refine z_i2l C hx0 dX12_isDay_1 ?_
  refine z_lconst (z := 0) C dX12_isDay_2 (by decide) ?_
  refine z_ldc2_w C lc_X12_249 dX12_isDay_3 ?_
  refine z_cSp (st := []) T C (ct_X12_in x0 0 416 (inq_i hx0) (by decide) (by decide)) lm_X12_245 ls_X12_in dX12_isDay_6 rfl rfl trivial (by decide) (Nat.le_of_ble_eq_true rfl) csOK_0 h (fun r1 hr2 h => ?_)
  show Z κ (0, 0) _ 9 _ [vi r1] ad σ
  have h := wpO_some.mp h
  exact z_breturn T C dX12_isDay_9 hr2 rfl h
noncomputable def fX12_mayAsk (x1 : Int) (x2 : Int) (x3 : Int) (σ : St) : Option Int :=
  bnk (fX12_isStory x1 σ) (fun r3 => if r3 = 0 then (some ((-1))) else (bnk (fX12_isLand x2) (fun r6 => if r6 = 0 then (some ((-1))) else (bnk (fX12_isDay x3) (fun r9 => if r9 = 0 then (some ((-2))) else (some 0))))))
set_option maxRecDepth 20000 in
set_option maxHeartbeats 4000000 in
theorem ct_X12_mayAsk (x1 : Int) (x2 : Int) (x3 : Int) (hx1 : inr x1) (hx2 : inr x2) (hx3 : inr x3) : Ct yX12_mayAsk cX12_mayAsk 4 (some .int) 2 (fun ad => [vo ad 12 (some 0), vi x1, vi x2, vi x3]) (pu (fX12_mayAsk x1 x2 x3)) enI okI (fun _ => True) := by
  refine Ct.of (by decide) (fun ad => Nat.le_of_ble_eq_true rfl) ?_
  intro κ ad σ X C T hpre h
  have C : Cx κ RX12 cX12_mayAsk 4 (some .int) 2 := C
  have h := wpO_pu.mp h
  unfold fX12_mayAsk at h
  show Z κ (0, 0) (Qm κ ad σ enI okI X) 0 [(0, vo ad 12 (some 0)), (1, vi x1), (2, vi x2), (3, vi x3)] [] ad σ
  refine z_rng (fun hI1 hJ2 => ?_)
  refine z_aload_n C 0 dX12_mayAsk_0 rfl ?_
  refine z_iload_n C 1 dX12_mayAsk_1 rfl ?_
  refine z_cVp (st := []) T C (ct_X12_isStory x1 hx1) lm_X12_316 lv_vX12_isStory dX12_mayAsk_2 [vi x1] rfl rfl rfl rfl rfl (sg_12 T) trivial (by decide) (Nat.le_of_ble_eq_true rfl) csOK_0 h (fun r3 hr4 h => ?_)
  show Z κ (0, 0) _ 5 _ [vi r3] ad σ
  refine z_if_eq C 15 (inr_b hr4) dX12_mayAsk_5 (by decide) (fun q5 => ?_) (fun q5 => ?_)
  · have h := (wpO_ite.mp h).1 q5
    refine z_iconst C dX12_mayAsk_15 ?_
    refine z_goto C 32 dX12_mayAsk_16 (by decide) ?_
    have h := wpO_some.mp h
    exact z_ireturn T C dX12_mayAsk_32 (by decide) rfl h
  · have h := (wpO_ite.mp h).2 q5
    refine z_iload_n C 2 dX12_mayAsk_8 rfl ?_
    refine z_cSp (st := []) T C (ct_X12_isLand x2 hx2) lm_X12_386 ls_X12_isLand dX12_mayAsk_9 rfl rfl trivial (by decide) (Nat.le_of_ble_eq_true rfl) csOK_0 h (fun r6 hr7 h => ?_)
    show Z κ (0, 0) _ 12 _ [vi r6] ad σ
    refine z_if_ne C 19 (inr_b hr7) dX12_mayAsk_12 (by decide) (fun q8 => ?_) (fun q8 => ?_)
    · have h := (wpO_ite.mp h).2 q8
      refine z_iload_n C 3 dX12_mayAsk_19 rfl ?_
      refine z_cSp (st := []) T C (ct_X12_isDay x3 hx3) lm_X12_339 ls_X12_isDay dX12_mayAsk_20 rfl rfl trivial (by decide) (Nat.le_of_ble_eq_true rfl) csOK_0 h (fun r9 hr10 h => ?_)
      show Z κ (0, 0) _ 23 _ [vi r9] ad σ
      refine z_if_eq C 30 (inr_b hr10) dX12_mayAsk_23 (by decide) (fun q11 => ?_) (fun q11 => ?_)
      · have h := (wpO_ite.mp h).1 q11
        refine z_bipush C dX12_mayAsk_30 (by decide) ?_
        have h := wpO_some.mp h
        exact z_ireturn T C dX12_mayAsk_32 (by decide) rfl h
      · have h := (wpO_ite.mp h).2 q11
        refine z_iconst C dX12_mayAsk_26 ?_
        refine z_goto C 32 dX12_mayAsk_27 (by decide) ?_
        have h := wpO_some.mp h
        exact z_ireturn T C dX12_mayAsk_32 (by decide) rfl h
    · have h := (wpO_ite.mp h).1 q8
      refine z_iconst C dX12_mayAsk_15 ?_
      refine z_goto C 32 dX12_mayAsk_16 (by decide) ?_
      have h := wpO_some.mp h
      exact z_ireturn T C dX12_mayAsk_32 (by decide) rfl h
noncomputable def fX12_rightTo_j81 (σ : St) : Option Int :=
  some ((-9))
noncomputable def fX12_rightTo_j72 (x4 : Int) (σ : St) : Option Int :=
  some x4
noncomputable def fX12_rightTo_j75 (x1 : Int) (x2 : Int) (x3 : Int) (x4 : Int) (σ : St) : Option (Int ⊕ (Int ⊕ Unit)) :=
  ck (inr (x4 + 1)) (some (.inl (x4 + 1)))
noncomputable def fX12_rightTo_l3 (x1 : Int) (x2 : Int) (x3 : Int) (σ : St) (x4 : Int) : Option (Int ⊕ (Int ⊕ Unit)) :=
  if gI σ 1349 0 0 ≤ x4 then (some (.inr (.inr (())))) else (ck (0 ≤ x4 ∧ x4 < 8) (if gI σ 1350 0 x4.toNat = x1 then (ck (0 ≤ x4 ∧ x4 < 8) (if iand (ishr (gI σ 1351 0 x4.toNat) x2) 1 = 1 then (ck (0 ≤ x4 ∧ x4 < 8) (ck (0 ≤ x4 ∧ x4 < 8) (bnk (fX12_in x3 (gI σ 1352 0 x4.toNat) (gI σ 1353 0 x4.toNat)) (fun r17 => if r17 = 0 then (fX12_rightTo_j75 x1 x2 x3 x4 σ) else (ck (0 ≤ x4 ∧ x4 < 8) (if gI σ 1354 0 x4.toNat ≤ 0 then (fX12_rightTo_j75 x1 x2 x3 x4 σ) else (some (.inr (.inl x4))))))))) else (fX12_rightTo_j75 x1 x2 x3 x4 σ))) else (fX12_rightTo_j75 x1 x2 x3 x4 σ)))
noncomputable def fX12_rightTo_j3 (x1 : Int) (x2 : Int) (x3 : Int) (x4 : Int) (σ : St) : Option Int :=
  bnk (wh (fun s => fX12_rightTo_l3 x1 x2 x3 σ s) x4) (fun e => Sum.elim (fun a0 => fX12_rightTo_j72 a0 σ) (fun b0 => fX12_rightTo_j81 σ) e)
noncomputable def fX12_rightTo (x1 : Int) (x2 : Int) (x3 : Int) (σ : St) : Option Int :=
  fX12_rightTo_j3 x1 x2 x3 0 σ
set_option maxRecDepth 20000 in
set_option maxHeartbeats 4000000 in
theorem ct_X12_rightTo (x1 : Int) (x2 : Int) (x3 : Int) (hx1 : inr x1) (hx2 : inr x2) (hx3 : inr x3) : Ct yX12_rightTo cX12_rightTo 5 (some .int) 1 (fun ad => [vo ad 12 (some 0), vi x1, vi x2, vi x3]) (pu (fX12_rightTo x1 x2 x3)) enI okI (fun _ => True) := by
  refine Ct.of (by decide) (fun ad => Nat.le_of_ble_eq_true rfl) ?_
  intro κ ad σ X C T hpre h
  have C : Cx κ RX12 cX12_rightTo 5 (some .int) 1 := C
  have h := wpO_pu.mp h
  unfold fX12_rightTo at h
  have J81 : wpO (fX12_rightTo_j81 σ) (fun r => X r σ) → Z κ (0, 0) (Qm κ ad σ enI okI X) 81 [] [] ad σ := by
    intro h
    unfold fX12_rightTo_j81 at h
    refine z_rng (fun hI1 hJ2 => ?_)
    refine z_bipush C dX12_rightTo_81 (by decide) ?_
    have h := wpO_some.mp h
    exact z_ireturn T C dX12_rightTo_83 (by decide) rfl h
  have J72 : ∀ (x4 : Int), inr x4 → wpO (fX12_rightTo_j72 x4 σ) (fun r => X r σ) → Z κ (0, 0) (Qm κ ad σ enI okI X) 72 [(4, vi x4)] [] ad σ := by
    intro x4 hx4 h
    unfold fX12_rightTo_j72 at h
    refine z_rng (fun hI3 hJ4 => ?_)
    refine z_iload C 0 dX12_rightTo_72 rfl ?_
    have h := wpO_some.mp h
    exact z_ireturn T C dX12_rightTo_74 hx4 rfl h
  have J3 : ∀ (x1 : Int) (x2 : Int) (x3 : Int) (x4 : Int), inr x1 → inr x2 → inr x3 → inr x4 → wpO (fX12_rightTo_j3 x1 x2 x3 x4 σ) (fun r => X r σ) → Z κ (0, 0) (Qm κ ad σ enI okI X) 3 [(0, vo ad 12 (some 0)), (1, vi x1), (2, vi x2), (3, vi x3), (4, vi x4)] [] ad σ := by
    intro x1 x2 x3 x4 hx1 hx2 hx3 hx4 h
    unfold fX12_rightTo_j3 at h
    have step : ∀ (P3 : Int → Prop) (Q3 : (Int ⊕ Unit) → Prop), (∀ (x4 : Int), P3 x4 → inr x4 → Z κ (0, 0) (Qm κ ad σ enI okI X) 3 [(0, vo ad 12 (some 0)), (1, vi x1), (2, vi x2), (3, vi x3), (4, vi x4)] [] ad σ) → (∀ (x4 : Int), Q3 (.inl x4) → inr x4 → Z κ (0, 0) (Qm κ ad σ enI okI X) 72 [(4, vi x4)] [] ad σ) → (Q3 (.inr (())) → Z κ (0, 0) (Qm κ ad σ enI okI X) 81 [] [] ad σ) → ∀ (x4 : Int), inr x4 → wpO (fX12_rightTo_l3 x1 x2 x3 σ x4) (onS P3 Q3) → Z κ (0, 0) (Qm κ ad σ enI okI X) 3 [(0, vo ad 12 (some 0)), (1, vi x1), (2, vi x2), (3, vi x3), (4, vi x4)] [] ad σ := by
      intro P3 Q3 hP3 hE3_72 hE3_81 x4 hx4 h
      unfold fX12_rightTo_l3 at h
      have J75 : ∀ (x4 : Int), inr x4 → wpO (fX12_rightTo_j75 x1 x2 x3 x4 σ) (onS P3 Q3) → Z κ (0, 0) (Qm κ ad σ enI okI X) 75 [(0, vo ad 12 (some 0)), (1, vi x1), (2, vi x2), (3, vi x3), (4, vi x4)] [] ad σ := by
        intro x4 hx4 h
        unfold fX12_rightTo_j75 at h
        refine z_rng (fun hI5 hJ6 => ?_)
        obtain ⟨hk7, h⟩ := wpO_ck.mp h
        refine z_iinc (lv2 := [(4, vi (x4 + 1)), (0, vo ad 12 (some 0)), (1, vi x1), (2, vi x2), (3, vi x3)]) C 4 dX12_rightTo_75 rfl (by decide) rfl ?_
        refine z_goto C 3 dX12_rightTo_78 (by decide) ?_
        refine z_sub [1, 2, 3, 4, 0] rfl ?_
        have h := wpO_some.mp h
        exact hP3 (x4 + 1) h hk7
      refine z_rng (fun hI8 hJ9 => ?_)
      refine z_iload C 4 dX12_rightTo_3 rfl ?_
      refine z_aload_n C 0 dX12_rightTo_5 rfl ?_
      refine z_gIv (v := gI σ 1349 0 0) C li_X12_397 (sg_12 T) rfl dX12_rightTo_6 ?_
      refine z_icmp_ge C 81 hx4 (hI8 1349 0 _) dX12_rightTo_9 (by decide) (fun q10 => ?_) (fun q10 => ?_)
      · have h := (wpO_ite.mp h).1 q10
        refine z_sub [] rfl ?_
        have h := wpO_some.mp h
        exact hE3_81 h
      · have h := (wpO_ite.mp h).2 q10
        refine z_aload_n C 0 dX12_rightTo_12 rfl ?_
        refine z_gA T C li_X12_135 (sg_12 T) dX12_rightTo_13 ?_
        refine z_iload C 4 dX12_rightTo_16 rfl ?_
        obtain ⟨hb11, h⟩ := wpO_ck.mp h
        refine z_iav (v := gI σ 1350 0 x4.toNat) C ar_1350 (sg_1350 T) hx4 hb11 rfl dX12_rightTo_18 ?_
        refine z_iload_n C 1 dX12_rightTo_19 rfl ?_
        refine z_icmp_ne C 75 (hI8 1350 0 _) hx1 dX12_rightTo_20 (by decide) (fun q12 => ?_) (fun q12 => ?_)
        · have h := (wpO_ite.mp h).2 q12
          exact J75 x4 hx4 h
        · have h := (wpO_ite.mp h).1 q12
          refine z_aload_n C 0 dX12_rightTo_23 rfl ?_
          refine z_gA T C li_X12_138 (sg_12 T) dX12_rightTo_24 ?_
          refine z_iload C 4 dX12_rightTo_27 rfl ?_
          obtain ⟨hb13, h⟩ := wpO_ck.mp h
          refine z_iav (v := gI σ 1351 0 x4.toNat) C ar_1351 (sg_1351 T) hx4 hb13 rfl dX12_rightTo_29 ?_
          refine z_iload_n C 2 dX12_rightTo_30 rfl ?_
          refine z_ishr C dX12_rightTo_31 ?_
          refine z_iconst C dX12_rightTo_32 ?_
          refine z_iand C dX12_rightTo_33 ?_
          refine z_iconst C dX12_rightTo_34 ?_
          refine z_icmp_ne C 75 (inr_iand _ _) (by decide) dX12_rightTo_35 (by decide) (fun q14 => ?_) (fun q14 => ?_)
          · have h := (wpO_ite.mp h).2 q14
            exact J75 x4 hx4 h
          · have h := (wpO_ite.mp h).1 q14
            refine z_iload_n C 3 dX12_rightTo_38 rfl ?_
            refine z_i2l C hx3 dX12_rightTo_39 ?_
            refine z_aload_n C 0 dX12_rightTo_40 rfl ?_
            refine z_gA T C li_X12_141 (sg_12 T) dX12_rightTo_41 ?_
            refine z_iload C 4 dX12_rightTo_44 rfl ?_
            obtain ⟨hb15, h⟩ := wpO_ck.mp h
            refine z_iav (v := gI σ 1352 0 x4.toNat) C ar_1352 (sg_1352 T) hx4 hb15 rfl dX12_rightTo_46 ?_
            refine z_i2l C (hI8 1352 0 _) dX12_rightTo_47 ?_
            refine z_aload_n C 0 dX12_rightTo_48 rfl ?_
            refine z_gA T C li_X12_144 (sg_12 T) dX12_rightTo_49 ?_
            refine z_iload C 4 dX12_rightTo_52 rfl ?_
            obtain ⟨hb16, h⟩ := wpO_ck.mp h
            refine z_iav (v := gI σ 1353 0 x4.toNat) C ar_1353 (sg_1353 T) hx4 hb16 rfl dX12_rightTo_54 ?_
            refine z_i2l C (hI8 1353 0 _) dX12_rightTo_55 ?_
            refine z_cSp (st := []) T C (ct_X12_in x3 (gI σ 1352 0 x4.toNat) (gI σ 1353 0 x4.toNat) (inq_i hx3) (inq_i (hI8 1352 0 _)) (inq_i (hI8 1353 0 _))) lm_X12_245 ls_X12_in dX12_rightTo_56 rfl rfl trivial (by decide) (Nat.le_of_ble_eq_true rfl) csOK_0 h (fun r17 hr18 h => ?_)
            show Z κ (0, 0) _ 59 _ [vi r17] ad σ
            refine z_if_eq C 75 (inr_b hr18) dX12_rightTo_59 (by decide) (fun q19 => ?_) (fun q19 => ?_)
            · have h := (wpO_ite.mp h).1 q19
              exact J75 x4 hx4 h
            · have h := (wpO_ite.mp h).2 q19
              refine z_aload_n C 0 dX12_rightTo_62 rfl ?_
              refine z_gA T C li_X12_147 (sg_12 T) dX12_rightTo_63 ?_
              refine z_iload C 4 dX12_rightTo_66 rfl ?_
              obtain ⟨hb20, h⟩ := wpO_ck.mp h
              refine z_iav (v := gI σ 1354 0 x4.toNat) C ar_1354 (sg_1354 T) hx4 hb20 rfl dX12_rightTo_68 ?_
              refine z_if_le C 75 (hI8 1354 0 _) dX12_rightTo_69 (by decide) (fun q21 => ?_) (fun q21 => ?_)
              · have h := (wpO_ite.mp h).1 q21
                exact J75 x4 hx4 h
              · have h := (wpO_ite.mp h).2 q21
                refine z_sub [4] rfl ?_
                have h := wpO_some.mp h
                exact hE3_72 x4 h hx4
    exact wh_ind (P := fun s : Int => inr s → Z κ (0, 0) (Qm κ ad σ enI okI X) 3 [(0, vo ad 12 (some 0)), (1, vi x1), (2, vi x2), (3, vi x3), (4, vi s)] [] ad σ) (fun s hs g0 => step _ _ (fun _ hp => hp) (fun x4 hq hx4 => J72 x4 hx4 hq) (fun hq => J81 hq) s g0 hs) x4 (wpO_bnk.mp h) hx4
  show Z κ (0, 0) (Qm κ ad σ enI okI X) 0 [(0, vo ad 12 (some 0)), (1, vi x1), (2, vi x2), (3, vi x3)] [] ad σ
  refine z_rng (fun hI22 hJ23 => ?_)
  refine z_iconst C dX12_rightTo_0 ?_
  refine z_istore (lv2 := [(4, vi 0), (0, vo ad 12 (some 0)), (1, vi x1), (2, vi x2), (3, vi x3)]) C dX12_rightTo_1 (by decide) rfl ?_
  refine z_sub [1, 2, 3, 4, 0] rfl ?_
  exact J3 x1 x2 x3 0 hx1 hx2 hx3 (by decide) h
noncomputable def fX12_feetOf_j39 (x2 : Int) (σ : St) : Option Int :=
  some x2
noncomputable def fX12_feetOf_l4 (x1 : Int) (σ : St) (x2 : Int) (x3 : Int) : Option ((Int × Int) ⊕ Int) :=
  ck (0 ≤ x1 ∧ x1 < 8) (if gI σ 1331 0 x1.toNat ≤ x3 then (some (.inr x2)) else (ck (inr (6 * x1)) (ck (inr ((6 * x1) + x3)) (ck (0 ≤ (6 * x1) + x3 ∧ (6 * x1) + x3 < 48) (ck (0 ≤ gI σ 1332 0 (((6 * x1) + x3).toNat) ∧ gI σ 1332 0 (((6 * x1) + x3).toNat) < 40) (ck (inr (x2 + (gI σ 1313 0 ((gI σ 1332 0 (((6 * x1) + x3).toNat)).toNat)))) (ck (inr (x3 + 1)) (some (.inl ((x2 + (gI σ 1313 0 ((gI σ 1332 0 (((6 * x1) + x3).toNat)).toNat)), x3 + 1)))))))))))
noncomputable def fX12_feetOf_j4 (x1 : Int) (x2 : Int) (x3 : Int) (σ : St) : Option Int :=
  bnk (wh (fun s => fX12_feetOf_l4 x1 σ s.1 s.2) ((x2, x3))) (fun e => fX12_feetOf_j39 e σ)
noncomputable def fX12_feetOf (x1 : Int) (σ : St) : Option Int :=
  fX12_feetOf_j4 x1 0 0 σ
set_option maxRecDepth 20000 in
set_option maxHeartbeats 4000000 in
theorem ct_X12_feetOf (x1 : Int) (hx1 : inr x1) : Ct yX12_feetOf cX12_feetOf 4 (some .int) 0 (fun ad => [vo ad 12 (some 0), vi x1]) (pu (fX12_feetOf x1)) enI okI (fun _ => True) := by
  refine Ct.of (by decide) (fun ad => Nat.le_of_ble_eq_true rfl) ?_
  intro κ ad σ X C T hpre h
  have C : Cx κ RX12 cX12_feetOf 4 (some .int) 0 := C
  have h := wpO_pu.mp h
  unfold fX12_feetOf at h
  have J39 : ∀ (x2 : Int), inr x2 → wpO (fX12_feetOf_j39 x2 σ) (fun r => X r σ) → Z κ (0, 0) (Qm κ ad σ enI okI X) 39 [(2, vi x2)] [] ad σ := by
    intro x2 hx2 h
    unfold fX12_feetOf_j39 at h
    refine z_rng (fun hI1 hJ2 => ?_)
    refine z_iload_n C 0 dX12_feetOf_39 rfl ?_
    have h := wpO_some.mp h
    exact z_ireturn T C dX12_feetOf_40 hx2 rfl h
  have J4 : ∀ (x1 : Int) (x2 : Int) (x3 : Int), inr x1 → inr x2 → inr x3 → wpO (fX12_feetOf_j4 x1 x2 x3 σ) (fun r => X r σ) → Z κ (0, 0) (Qm κ ad σ enI okI X) 4 [(0, vo ad 12 (some 0)), (1, vi x1), (2, vi x2), (3, vi x3)] [] ad σ := by
    intro x1 x2 x3 hx1 hx2 hx3 h
    unfold fX12_feetOf_j4 at h
    have step : ∀ (P4 : (Int × Int) → Prop) (Q4 : Int → Prop), (∀ (x2 : Int) (x3 : Int), P4 ((x2, x3)) → inr x2 → inr x3 → Z κ (0, 0) (Qm κ ad σ enI okI X) 4 [(0, vo ad 12 (some 0)), (1, vi x1), (2, vi x2), (3, vi x3)] [] ad σ) → (∀ (x2 : Int), Q4 (x2) → inr x2 → Z κ (0, 0) (Qm κ ad σ enI okI X) 39 [(2, vi x2)] [] ad σ) → ∀ (x2 : Int) (x3 : Int), inr x2 → inr x3 → wpO (fX12_feetOf_l4 x1 σ x2 x3) (onS P4 Q4) → Z κ (0, 0) (Qm κ ad σ enI okI X) 4 [(0, vo ad 12 (some 0)), (1, vi x1), (2, vi x2), (3, vi x3)] [] ad σ := by
      intro P4 Q4 hP4 hE4_39 x2 x3 hx2 hx3 h
      unfold fX12_feetOf_l4 at h
      refine z_rng (fun hI3 hJ4 => ?_)
      refine z_iload_n C 3 dX12_feetOf_4 rfl ?_
      refine z_aload_n C 0 dX12_feetOf_5 rfl ?_
      refine z_gA T C li_X12_92 (sg_12 T) dX12_feetOf_6 ?_
      refine z_iload_n C 1 dX12_feetOf_9 rfl ?_
      obtain ⟨hb5, h⟩ := wpO_ck.mp h
      refine z_iav (v := gI σ 1331 0 x1.toNat) C ar_1331 (sg_1331 T) hx1 hb5 rfl dX12_feetOf_10 ?_
      refine z_icmp_ge C 39 hx3 (hI3 1331 0 _) dX12_feetOf_11 (by decide) (fun q6 => ?_) (fun q6 => ?_)
      · have h := (wpO_ite.mp h).1 q6
        refine z_sub [2] rfl ?_
        have h := wpO_some.mp h
        exact hE4_39 x2 h hx2
      · have h := (wpO_ite.mp h).2 q6
        refine z_iload_n C 2 dX12_feetOf_14 rfl ?_
        refine z_aload_n C 0 dX12_feetOf_15 rfl ?_
        refine z_gA T C li_X12_41 (sg_12 T) dX12_feetOf_16 ?_
        refine z_aload_n C 0 dX12_feetOf_19 rfl ?_
        refine z_gA T C li_X12_95 (sg_12 T) dX12_feetOf_20 ?_
        refine z_bipush C dX12_feetOf_23 (by decide) ?_
        refine z_iload_n C 1 dX12_feetOf_25 rfl ?_
        obtain ⟨hk7, h⟩ := wpO_ck.mp h
        refine z_imul C dX12_feetOf_26 ?_
        refine z_iload_n C 3 dX12_feetOf_27 rfl ?_
        obtain ⟨hk8, h⟩ := wpO_ck.mp h
        refine z_iadd C dX12_feetOf_28 ?_
        obtain ⟨hb9, h⟩ := wpO_ck.mp h
        refine z_iav (v := gI σ 1332 0 (((6 * x1) + x3).toNat)) C ar_1332 (sg_1332 T) hk8 hb9 rfl dX12_feetOf_29 ?_
        obtain ⟨hb10, h⟩ := wpO_ck.mp h
        refine z_iav (v := gI σ 1313 0 ((gI σ 1332 0 (((6 * x1) + x3).toNat)).toNat)) C ar_1313 (sg_1313 T) (hI3 1332 0 _) hb10 rfl dX12_feetOf_30 ?_
        obtain ⟨hk11, h⟩ := wpO_ck.mp h
        refine z_iadd C dX12_feetOf_31 ?_
        refine z_istore_n (lv2 := [(2, vi (x2 + (gI σ 1313 0 ((gI σ 1332 0 (((6 * x1) + x3).toNat)).toNat)))), (0, vo ad 12 (some 0)), (1, vi x1), (3, vi x3)]) C dX12_feetOf_32 (by decide) rfl ?_
        obtain ⟨hk12, h⟩ := wpO_ck.mp h
        refine z_iinc (lv2 := [(3, vi (x3 + 1)), (2, vi (x2 + (gI σ 1313 0 ((gI σ 1332 0 (((6 * x1) + x3).toNat)).toNat)))), (0, vo ad 12 (some 0)), (1, vi x1)]) C 3 dX12_feetOf_33 rfl (by decide) rfl ?_
        refine z_goto C 4 dX12_feetOf_36 (by decide) ?_
        refine z_sub [2, 3, 1, 0] rfl ?_
        have h := wpO_some.mp h
        exact hP4 (x2 + (gI σ 1313 0 ((gI σ 1332 0 (((6 * x1) + x3).toNat)).toNat))) (x3 + 1) h hk11 hk12
    exact wh_ind (P := fun s : (Int × Int) => inr s.1 → inr s.2 → Z κ (0, 0) (Qm κ ad σ enI okI X) 4 [(0, vo ad 12 (some 0)), (1, vi x1), (2, vi s.1), (3, vi s.2)] [] ad σ) (fun s hs g0 g1 => step _ _ (fun _ _ hp => hp) (fun x2 hq hx2 => J39 x2 hx2 hq) s.1 s.2 g0 g1 hs) ((x2, x3)) (wpO_bnk.mp h) hx2 hx3
  show Z κ (0, 0) (Qm κ ad σ enI okI X) 0 [(0, vo ad 12 (some 0)), (1, vi x1)] [] ad σ
  refine z_rng (fun hI13 hJ14 => ?_)
  refine z_iconst C dX12_feetOf_0 ?_
  refine z_istore_n (lv2 := [(2, vi 0), (0, vo ad 12 (some 0)), (1, vi x1)]) C dX12_feetOf_1 (by decide) rfl ?_
  refine z_iconst C dX12_feetOf_2 ?_
  refine z_istore_n (lv2 := [(3, vi 0), (2, vi 0), (0, vo ad 12 (some 0)), (1, vi x1)]) C dX12_feetOf_3 (by decide) rfl ?_
  refine z_sub [2, 3, 1, 0] rfl ?_
  exact J4 x1 0 0 hx1 (by decide) (by decide) h
noncomputable def fX12_canBe_j75 (x1 : Int) (x2 : Int) (s0 : Int) (σ : St) : Option Int :=
  if s0 = 0 then (some 0) else (ck (0 ≤ x1 ∧ x1 < 8) (if iand (ishr (gI σ 1323 0 x1.toNat) x2) 1 = 1 then (some 1) else (some 0)))
noncomputable def fX12_canBe_j70 (x1 : Int) (x2 : Int) (σ : St) : Option Int :=
  fX12_canBe_j75 x1 x2 1 σ
noncomputable def fX12_canBe (x1 : Int) (x2 : Int) (x3 : Int) (σ : St) : Option Int :=
  ck (0 ≤ x1 ∧ x1 < 8) (ck (0 ≤ x1 ∧ x1 < 8) (if gI σ 1325 0 x1.toNat < gI σ 1324 0 x1.toNat then (ck (0 ≤ x1 ∧ x1 < 8) (if gI σ 1324 0 x1.toNat ≤ irem (idiv x3 24) 365 then (fX12_canBe_j70 x1 x2 σ) else (ck (0 ≤ x1 ∧ x1 < 8) (if gI σ 1325 0 x1.toNat < irem (idiv x3 24) 365 then (fX12_canBe_j75 x1 x2 0 σ) else (fX12_canBe_j70 x1 x2 σ))))) else (ck (0 ≤ x1 ∧ x1 < 8) (ck (0 ≤ x1 ∧ x1 < 8) (bnk (fX12_in (irem (idiv x3 24) 365) (gI σ 1324 0 x1.toNat) (gI σ 1325 0 x1.toNat)) (fun r19 => fX12_canBe_j75 x1 x2 r19 σ))))))
set_option maxRecDepth 20000 in
set_option maxHeartbeats 4000000 in
theorem ct_X12_canBe (x1 : Int) (x2 : Int) (x3 : Int) (hx1 : inr x1) (hx2 : inr x2) (hx3 : inr x3) : Ct yX12_canBe cX12_canBe 6 (some .boolean) 1 (fun ad => [vo ad 12 (some 0), vi x1, vi x2, vi x3]) (pu (fX12_canBe x1 x2 x3)) enI okB (fun _ => True) := by
  refine Ct.of (by decide) (fun ad => Nat.le_of_ble_eq_true rfl) ?_
  intro κ ad σ X C T hpre h
  have C : Cx κ RX12 cX12_canBe 6 (some .boolean) 1 := C
  have h := wpO_pu.mp h
  unfold fX12_canBe at h
  have J75 : ∀ (x1 : Int) (x2 : Int) (s0 : Int), inr x1 → inr x2 → inr s0 → wpO (fX12_canBe_j75 x1 x2 s0 σ) (fun r => X r σ) → Z κ (0, 0) (Qm κ ad σ enI okB X) 75 [(0, vo ad 12 (some 0)), (1, vi x1), (2, vi x2)] [vi s0] ad σ := by
    intro x1 x2 s0 hx1 hx2 hs0 h
    unfold fX12_canBe_j75 at h
    refine z_rng (fun hI1 hJ2 => ?_)
    refine z_istore (lv2 := [(5, vi s0), (0, vo ad 12 (some 0)), (1, vi x1), (2, vi x2)]) C dX12_canBe_75 (by decide) rfl ?_
    refine z_iload C 0 dX12_canBe_77 rfl ?_
    refine z_if_eq C 100 hs0 dX12_canBe_79 (by decide) (fun q3 => ?_) (fun q3 => ?_)
    · have h := (wpO_ite.mp h).1 q3
      refine z_iconst C dX12_canBe_100 ?_
      have h := wpO_some.mp h
      exact z_breturn T C dX12_canBe_101 (by decide) rfl h
    · have h := (wpO_ite.mp h).2 q3
      refine z_aload_n C 1 dX12_canBe_82 rfl ?_
      refine z_gA T C li_X12_71 (sg_12 T) dX12_canBe_83 ?_
      refine z_iload_n C 2 dX12_canBe_86 rfl ?_
      obtain ⟨hb4, h⟩ := wpO_ck.mp h
      refine z_iav (v := gI σ 1323 0 x1.toNat) C ar_1323 (sg_1323 T) hx1 hb4 rfl dX12_canBe_87 ?_
      refine z_iload_n C 3 dX12_canBe_88 rfl ?_
      refine z_ishr C dX12_canBe_89 ?_
      refine z_iconst C dX12_canBe_90 ?_
      refine z_iand C dX12_canBe_91 ?_
      refine z_iconst C dX12_canBe_92 ?_
      refine z_icmp_ne C 100 (inr_iand _ _) (by decide) dX12_canBe_93 (by decide) (fun q5 => ?_) (fun q5 => ?_)
      · have h := (wpO_ite.mp h).2 q5
        refine z_iconst C dX12_canBe_100 ?_
        have h := wpO_some.mp h
        exact z_breturn T C dX12_canBe_101 (by decide) rfl h
      · have h := (wpO_ite.mp h).1 q5
        refine z_iconst C dX12_canBe_96 ?_
        refine z_goto C 101 dX12_canBe_97 (by decide) ?_
        have h := wpO_some.mp h
        exact z_breturn T C dX12_canBe_101 (by decide) rfl h
  have J70 : ∀ (x1 : Int) (x2 : Int), inr x1 → inr x2 → wpO (fX12_canBe_j70 x1 x2 σ) (fun r => X r σ) → Z κ (0, 0) (Qm κ ad σ enI okB X) 70 [(0, vo ad 12 (some 0)), (1, vi x1), (2, vi x2)] [] ad σ := by
    intro x1 x2 hx1 hx2 h
    unfold fX12_canBe_j70 at h
    refine z_rng (fun hI6 hJ7 => ?_)
    refine z_iconst C dX12_canBe_70 ?_
    refine z_goto C 75 dX12_canBe_71 (by decide) ?_
    exact J75 x1 x2 1 hx1 hx2 (by decide) h
  show Z κ (0, 0) (Qm κ ad σ enI okB X) 0 [(0, vo ad 12 (some 0)), (1, vi x1), (2, vi x2), (3, vi x3)] [] ad σ
  refine z_rng (fun hI8 hJ9 => ?_)
  refine z_iload_n C 3 dX12_canBe_0 rfl ?_
  refine z_bipush C dX12_canBe_1 (by decide) ?_
  refine z_idiv C (by decide) (by decide) dX12_canBe_3 ?_
  refine z_sipush C dX12_canBe_4 (by decide) ?_
  refine z_irem C (by decide) (by decide) dX12_canBe_7 ?_
  refine z_istore (lv2 := [(4, vi (irem (idiv x3 24) 365)), (0, vo ad 12 (some 0)), (1, vi x1), (2, vi x2), (3, vi x3)]) C dX12_canBe_8 (by decide) rfl ?_
  refine z_aload_n C 1 dX12_canBe_10 rfl ?_
  refine z_gA T C li_X12_74 (sg_12 T) dX12_canBe_11 ?_
  refine z_iload_n C 2 dX12_canBe_14 rfl ?_
  obtain ⟨hb10, h⟩ := wpO_ck.mp h
  refine z_iav (v := gI σ 1324 0 x1.toNat) C ar_1324 (sg_1324 T) hx1 hb10 rfl dX12_canBe_15 ?_
  refine z_aload_n C 1 dX12_canBe_16 rfl ?_
  refine z_gA T C li_X12_77 (sg_12 T) dX12_canBe_17 ?_
  refine z_iload_n C 2 dX12_canBe_20 rfl ?_
  obtain ⟨hb11, h⟩ := wpO_ck.mp h
  refine z_iav (v := gI σ 1325 0 x1.toNat) C ar_1325 (sg_1325 T) hx1 hb11 rfl dX12_canBe_21 ?_
  refine z_icmp_gt C 48 (hI8 1324 0 _) (hI8 1325 0 _) dX12_canBe_22 (by decide) (fun q12 => ?_) (fun q12 => ?_)
  · have h := (wpO_ite.mp h).1 q12
    refine z_iload C 0 dX12_canBe_48 rfl ?_
    refine z_aload_n C 1 dX12_canBe_50 rfl ?_
    refine z_gA T C li_X12_74 (sg_12 T) dX12_canBe_51 ?_
    refine z_iload_n C 2 dX12_canBe_54 rfl ?_
    obtain ⟨hb13, h⟩ := wpO_ck.mp h
    refine z_iav (v := gI σ 1324 0 x1.toNat) C ar_1324 (sg_1324 T) hx1 hb13 rfl dX12_canBe_55 ?_
    refine z_icmp_ge C 70 (inr_irem _ _) (hI8 1324 0 _) dX12_canBe_56 (by decide) (fun q14 => ?_) (fun q14 => ?_)
    · have h := (wpO_ite.mp h).1 q14
      refine z_sub [1, 2, 3] rfl ?_
      exact J70 x1 x2 hx1 hx2 h
    · have h := (wpO_ite.mp h).2 q14
      refine z_iload C 0 dX12_canBe_59 rfl ?_
      refine z_aload_n C 1 dX12_canBe_61 rfl ?_
      refine z_gA T C li_X12_77 (sg_12 T) dX12_canBe_62 ?_
      refine z_iload_n C 2 dX12_canBe_65 rfl ?_
      obtain ⟨hb15, h⟩ := wpO_ck.mp h
      refine z_iav (v := gI σ 1325 0 x1.toNat) C ar_1325 (sg_1325 T) hx1 hb15 rfl dX12_canBe_66 ?_
      refine z_icmp_gt C 74 (inr_irem _ _) (hI8 1325 0 _) dX12_canBe_67 (by decide) (fun q16 => ?_) (fun q16 => ?_)
      · have h := (wpO_ite.mp h).1 q16
        refine z_iconst C dX12_canBe_74 ?_
        refine z_sub [1, 2, 3] rfl ?_
        exact J75 x1 x2 0 hx1 hx2 (by decide) h
      · have h := (wpO_ite.mp h).2 q16
        refine z_sub [1, 2, 3] rfl ?_
        exact J70 x1 x2 hx1 hx2 h
  · have h := (wpO_ite.mp h).2 q12
    refine z_iload C 0 dX12_canBe_25 rfl ?_
    refine z_i2l C (inr_irem _ _) dX12_canBe_27 ?_
    refine z_aload_n C 1 dX12_canBe_28 rfl ?_
    refine z_gA T C li_X12_74 (sg_12 T) dX12_canBe_29 ?_
    refine z_iload_n C 2 dX12_canBe_32 rfl ?_
    obtain ⟨hb17, h⟩ := wpO_ck.mp h
    refine z_iav (v := gI σ 1324 0 x1.toNat) C ar_1324 (sg_1324 T) hx1 hb17 rfl dX12_canBe_33 ?_
    refine z_i2l C (hI8 1324 0 _) dX12_canBe_34 ?_
    refine z_aload_n C 1 dX12_canBe_35 rfl ?_
    refine z_gA T C li_X12_77 (sg_12 T) dX12_canBe_36 ?_
    refine z_iload_n C 2 dX12_canBe_39 rfl ?_
    obtain ⟨hb18, h⟩ := wpO_ck.mp h
    refine z_iav (v := gI σ 1325 0 x1.toNat) C ar_1325 (sg_1325 T) hx1 hb18 rfl dX12_canBe_40 ?_
    refine z_i2l C (hI8 1325 0 _) dX12_canBe_41 ?_
    refine z_cSp (st := []) T C (ct_X12_in (irem (idiv x3 24) 365) (gI σ 1324 0 x1.toNat) (gI σ 1325 0 x1.toNat) (inq_i (inr_irem _ _)) (inq_i (hI8 1324 0 _)) (inq_i (hI8 1325 0 _))) lm_X12_245 ls_X12_in dX12_canBe_42 rfl rfl trivial (by decide) (Nat.le_of_ble_eq_true rfl) csOK_0 h (fun r19 hr20 h => ?_)
    show Z κ (0, 0) _ 45 _ [vi r19] ad σ
    refine z_goto C 75 dX12_canBe_45 (by decide) ?_
    refine z_sub [1, 2, 3] rfl ?_
    exact J75 x1 x2 r19 hx1 hx2 (inr_b hr20) h
