noncomputable def fX11_way_t (s1 : Nat) (σ : St) : Option (Int × St) :=
  bnd (fX9_add s1 σ) (fun r3 σ5 => some (r3, σ5))
noncomputable def fX11_way (x1 : Int) (x2 : Int) (x3 : Int) (x4 : Int) (x5 : Int) (x6 : Int) (σ : St) : Option (Int × St) :=
  bnk (fX11_isPlace x1) (fun r11 => if r11 = 0 then (some ((-1), σ)) else (bnk (fX11_isPlace x2) (fun r14 => if r14 = 0 then (some ((-1), σ)) else (bnk (fX11_isHour x3) (fun r17 => if r17 = 0 then (some ((-2), σ)) else (bnk (fX11_within x4 1 500) (fun r20 => if r20 = 0 then (some ((-2), σ)) else (bnk (fX11_within x5 1 500) (fun r23 => if r23 = 0 then (some ((-2), σ)) else (bnk (fX11_within x6 0 200) (fun r26 => if r26 = 0 then (some ((-2), σ)) else (if x1 = x2 then (some ((-3), σ)) else (bnk (fX9_isFull σ) (fun r30 => if r30 = 0 then (lt (nwO σ 10) (fun σ2 => lt (gN σ 10) (fun jn => bnd (fX10_init jn x1 x2 x3 x4 x5 x6 σ2) (fun _ σ3 => ckp (SF σ3) (fX11_way_t jn σ3))))) else (some ((-4), σ))))))))))))))))
set_option maxRecDepth 20000 in
set_option maxHeartbeats 8000000 in
theorem ct_X11_way (x1 : Int) (x2 : Int) (x3 : Int) (x4 : Int) (x5 : Int) (x6 : Int) (hx1 : inr x1) (hx2 : inr x2) (hx3 : inr x3) (hx4 : inr x4) (hx5 : inr x5) (hx6 : inr x6) : CtA true yX11_way cX11_way 7 (some .int) 2 1 7 (fun ad => [vo ad 11 (some 0), vi x1, vi x2, vi x3, vi x4, vi x5, vi x6]) (fX11_way x1 x2 x3 x4 x5 x6) enI okI (fun _ => True) := by
  refine CtA.of (by decide) (fun ad => Nat.le_of_ble_eq_true rfl) ?_
  intro κ ad σ X C T _ _ hcs _ h
  have T : isT κ := T rfl
  have C : Cx κ RX11 cX11_way 7 (some .int) 2 := C
  generalize hQ : QmA κ true 1 7 ad σ enI okI X = Q0
  have tail : ∀ (ad2 : Nat → Nat → Nat) (s1 : Nat) (σ2 : St), s1 < gN σ2 10 → Grw σ ad σ2 ad2 → wpO (fX11_way_t s1 σ2) (fun q => X q.1 q.2) → Z κ (1, 7) Q0 103 [] [vo ad2 10 (some s1), vo ad2 9 (some 0)] ad2 σ2 := by
    intro ad s1 σ hs1 hG h
    unfold fX11_way_t at h
    refine z_rng (fun hI1 hJ2 => ?_)
    refine z_cV (st := []) T C (ct_X9_add s1) lm_X11_106 lv_vX9_add dX11_way_103 [vo ad 10 (some s1)] rfl rfl rfl rfl rfl (sg_9 T) (nNl rfl hs1) (by decide) (Nat.le_of_ble_eq_true rfl) hcs h (fun r3 σ5 hr4 eN6 h => ?_)
    show Z κ (1, 7) _ 106 _ [vi r3] ad σ5
    refine z_rng (fun hI7 hJ8 => ?_)
    have h := wpO_some.mp h
    refine z_sf T (fun hSF => ?_)
    rw [← hQ]
    exact z_ireturnA C dX11_way_106 hr4 (hG.eN eN6) h (fun _ => hSF)
  unfold fX11_way at h
  show Z κ (0, 0) Q0 0 [(0, vo ad 11 (some 0)), (1, vi x1), (2, vi x2), (3, vi x3), (4, vi x4), (5, vi x5), (6, vi x6)] [] ad σ
  refine z_rng (fun hI9 hJ10 => ?_)
  refine z_iload_n C 1 dX11_way_0 rfl ?_
  refine z_cSp (st := []) T C (ct_X11_isPlace x1 hx1) lm_X11_90 ls_X11_isPlace dX11_way_1 rfl rfl trivial (by decide) (Nat.le_of_ble_eq_true rfl) csOK_0 h (fun r11 hr12 h => ?_)
  show Z κ (0, 0) _ 4 _ [vi r11] ad σ
  refine z_if_eq C 14 (inr_b hr12) dX11_way_4 (by decide) (fun q13 => ?_) (fun q13 => ?_)
  · have h := (wpO_ite.mp h).1 q13
    refine z_iconst C dX11_way_14 ?_
    refine z_widen (k := 1) (n := 7) (by decide) (by decide) ?_
    have h := wpO_some.mp h
    refine z_sf T (fun hSF => ?_)
    rw [← hQ]
    exact z_ireturnA C dX11_way_15 (by decide) (Grw.rf.eN rfl) h (fun _ => hSF)
  · have h := (wpO_ite.mp h).2 q13
    refine z_iload_n C 2 dX11_way_7 rfl ?_
    refine z_cSp (st := []) T C (ct_X11_isPlace x2 hx2) lm_X11_90 ls_X11_isPlace dX11_way_8 rfl rfl trivial (by decide) (Nat.le_of_ble_eq_true rfl) csOK_0 h (fun r14 hr15 h => ?_)
    show Z κ (0, 0) _ 11 _ [vi r14] ad σ
    refine z_if_ne C 16 (inr_b hr15) dX11_way_11 (by decide) (fun q16 => ?_) (fun q16 => ?_)
    · have h := (wpO_ite.mp h).2 q16
      refine z_iload_n C 3 dX11_way_16 rfl ?_
      refine z_cSp (st := []) T C (ct_X11_isHour x3 hx3) lm_X11_94 ls_X11_isHour dX11_way_17 rfl rfl trivial (by decide) (Nat.le_of_ble_eq_true rfl) csOK_0 h (fun r17 hr18 h => ?_)
      show Z κ (0, 0) _ 20 _ [vi r17] ad σ
      refine z_if_eq C 59 (inr_b hr18) dX11_way_20 (by decide) (fun q19 => ?_) (fun q19 => ?_)
      · have h := (wpO_ite.mp h).1 q19
        refine z_bipush C dX11_way_59 (by decide) ?_
        refine z_widen (k := 1) (n := 7) (by decide) (by decide) ?_
        have h := wpO_some.mp h
        refine z_sf T (fun hSF => ?_)
        rw [← hQ]
        exact z_ireturnA C dX11_way_61 (by decide) (Grw.rf.eN rfl) h (fun _ => hSF)
      · have h := (wpO_ite.mp h).2 q19
        refine z_iload C 4 dX11_way_23 rfl ?_
        refine z_iconst C dX11_way_25 ?_
        refine z_sipush C dX11_way_26 (by decide) ?_
        refine z_cSp (st := []) T C (ct_X11_within x4 1 500 hx4 (by decide) (by decide)) lm_X11_83 ls_X11_within dX11_way_29 rfl rfl trivial (by decide) (Nat.le_of_ble_eq_true rfl) csOK_0 h (fun r20 hr21 h => ?_)
        show Z κ (0, 0) _ 32 _ [vi r20] ad σ
        refine z_if_eq C 59 (inr_b hr21) dX11_way_32 (by decide) (fun q22 => ?_) (fun q22 => ?_)
        · have h := (wpO_ite.mp h).1 q22
          refine z_bipush C dX11_way_59 (by decide) ?_
          refine z_widen (k := 1) (n := 7) (by decide) (by decide) ?_
          have h := wpO_some.mp h
          refine z_sf T (fun hSF => ?_)
          rw [← hQ]
          exact z_ireturnA C dX11_way_61 (by decide) (Grw.rf.eN rfl) h (fun _ => hSF)
        · have h := (wpO_ite.mp h).2 q22
          refine z_iload C 5 dX11_way_35 rfl ?_
          refine z_iconst C dX11_way_37 ?_
          refine z_sipush C dX11_way_38 (by decide) ?_
          refine z_cSp (st := []) T C (ct_X11_within x5 1 500 hx5 (by decide) (by decide)) lm_X11_83 ls_X11_within dX11_way_41 rfl rfl trivial (by decide) (Nat.le_of_ble_eq_true rfl) csOK_0 h (fun r23 hr24 h => ?_)
          show Z κ (0, 0) _ 44 _ [vi r23] ad σ
          refine z_if_eq C 59 (inr_b hr24) dX11_way_44 (by decide) (fun q25 => ?_) (fun q25 => ?_)
          · have h := (wpO_ite.mp h).1 q25
            refine z_bipush C dX11_way_59 (by decide) ?_
            refine z_widen (k := 1) (n := 7) (by decide) (by decide) ?_
            have h := wpO_some.mp h
            refine z_sf T (fun hSF => ?_)
            rw [← hQ]
            exact z_ireturnA C dX11_way_61 (by decide) (Grw.rf.eN rfl) h (fun _ => hSF)
          · have h := (wpO_ite.mp h).2 q25
            refine z_iload C 6 dX11_way_47 rfl ?_
            refine z_iconst C dX11_way_49 ?_
            refine z_sipush C dX11_way_50 (by decide) ?_
            refine z_cSp (st := []) T C (ct_X11_within x6 0 200 hx6 (by decide) (by decide)) lm_X11_83 ls_X11_within dX11_way_53 rfl rfl trivial (by decide) (Nat.le_of_ble_eq_true rfl) csOK_0 h (fun r26 hr27 h => ?_)
            show Z κ (0, 0) _ 56 _ [vi r26] ad σ
            refine z_if_ne C 62 (inr_b hr27) dX11_way_56 (by decide) (fun q28 => ?_) (fun q28 => ?_)
            · have h := (wpO_ite.mp h).2 q28
              refine z_iload_n C 1 dX11_way_62 rfl ?_
              refine z_iload_n C 2 dX11_way_63 rfl ?_
              refine z_icmp_ne C 70 hx1 hx2 dX11_way_64 (by decide) (fun q29 => ?_) (fun q29 => ?_)
              · have h := (wpO_ite.mp h).2 q29
                refine z_aload_n C 0 dX11_way_70 rfl ?_
                refine z_gR T C li_X11_10 (sg_11 T) dX11_way_71 ?_
                refine z_cVp (st := []) T C ct_X9_isFull lm_X11_97 lv_vX9_isFull dX11_way_74 [] rfl rfl rfl rfl rfl (sg_9 T) trivial (by decide) (Nat.le_of_ble_eq_true rfl) csOK_0 h (fun r30 hr31 h => ?_)
                show Z κ (0, 0) _ 77 _ [vi r30] ad σ
                refine z_if_eq C 83 (inr_b hr31) dX11_way_77 (by decide) (fun q32 => ?_) (fun q32 => ?_)
                · have h := (wpO_ite.mp h).1 q32
                  refine z_aload_n C 0 dX11_way_83 rfl ?_
                  refine z_gR T C li_X11_10 (sg_11 T) dX11_way_84 ?_
                  refine z_sf T (fun hSF => ?_)
                  have hp33 : 0 < gN σ 11 := by rw [hSF.2.2.1 11 (by decide)]; decide
                  have hp34 : 0 < gN σ 9 := by rw [hSF.2.2.1 9 (by decide)]; decide
                  refine z_off ?_
                  have C1 := C.off
                  refine z_new (κ := offK κ) C1 lkn_X11_101 (fun q => noT isF_off q) (csOK_le (csOK_off hcs) (by decide) (by decide)) dX11_way_87 (fun ad2 hA => ?_)
                  rw [voA (K2 := 11) (r := some 0) hA (by decide)]
                  rw [voA (K2 := 9) (r := some 0) hA (by decide)]
                  have hG1 := (Grw.rf (σ := σ) (ad := ad)).nwO hA
                  have hN1 : gN σ 10 < gN (nwO σ 10) 10 := nwO_lt
                  generalize e1 : nwO σ 10 = σ2 at hG1 hN1 ⊢
                  have h := lt_elim h σ2 e1
                  generalize e2 : gN σ 10 = jn at hN1 ⊢
                  have h := lt_elim h jn e2
                  have hp35 := grO e1 hp33
                  have hp36 := grO e1 hp34
                  show Z (offK κ) (1, 7) Q0 90 [(0, vo ad2 11 (some 0)), (1, vi x1), (2, vi x2), (3, vi x3), (4, vi x4), (5, vi x5), (6, vi x6)] [vo ad2 10 (some jn), vo ad2 9 (some 0)] ad2 σ2
                  refine z_rng (fun hI2 hJ2 => ?_)
                  refine z_dup C1 dX11_way_90 rfl ?_
                  refine z_iload_n C1 1 dX11_way_91 rfl ?_
                  refine z_iload_n C1 2 dX11_way_92 rfl ?_
                  refine z_iload_n C1 3 dX11_way_93 rfl ?_
                  refine z_iload C1 4 dX11_way_94 rfl ?_
                  refine z_iload C1 5 dX11_way_96 rfl ?_
                  refine z_iload C1 6 dX11_way_98 rfl ?_
                  refine z_cI (κ := offK κ) (st := [vo ad2 10 (some jn), vo ad2 9 (some 0)]) isF_off C1 (ct_X10_init jn x1 x2 x3 x4 x5 x6 hx1 hx2 hx3 hx4 hx5 hx6) lm_X11_103 ln_X10_init rfl dX11_way_100 [vi x1, vi x2, vi x3, vi x4, vi x5, vi x6] rfl rfl rfl hN1 (by decide) (Nat.le_of_ble_eq_true rfl) (csOK_le (csOK_off hcs) (by decide) (by decide)) h (fun _ σ3 ad3 _ hg h => ?_)
                  show Z (offK κ) (1, 7) Q0 103 [(0, vo ad2 11 (some 0)), (1, vi x1), (2, vi x2), (3, vi x3), (4, vi x4), (5, vi x5), (6, vi x6)] [vo ad2 10 (some jn), vo ad2 9 (some 0)] ad3 σ3
                  rw [voG hg hp35]
                  rw [voG hg hN1]
                  rw [voG hg hp36]
                  obtain ⟨hSF3, h⟩ := wpO_ckp.mp h
                  refine z_on hSF3 ?_
                  refine z_sub [] rfl ?_
                  exact tail ad3 jn σ3 (hg _ _ hN1).1 (hG1.trans hg) h
                · have h := (wpO_ite.mp h).2 q32
                  refine z_bipush C dX11_way_80 (by decide) ?_
                  refine z_widen (k := 1) (n := 7) (by decide) (by decide) ?_
                  have h := wpO_some.mp h
                  refine z_sf T (fun hSF => ?_)
                  rw [← hQ]
                  exact z_ireturnA C dX11_way_82 (by decide) (Grw.rf.eN rfl) h (fun _ => hSF)
              · have h := (wpO_ite.mp h).1 q29
                refine z_bipush C dX11_way_67 (by decide) ?_
                refine z_widen (k := 1) (n := 7) (by decide) (by decide) ?_
                have h := wpO_some.mp h
                refine z_sf T (fun hSF => ?_)
                rw [← hQ]
                exact z_ireturnA C dX11_way_69 (by decide) (Grw.rf.eN rfl) h (fun _ => hSF)
            · have h := (wpO_ite.mp h).1 q28
              refine z_bipush C dX11_way_59 (by decide) ?_
              refine z_widen (k := 1) (n := 7) (by decide) (by decide) ?_
              have h := wpO_some.mp h
              refine z_sf T (fun hSF => ?_)
              rw [← hQ]
              exact z_ireturnA C dX11_way_61 (by decide) (Grw.rf.eN rfl) h (fun _ => hSF)
    · have h := (wpO_ite.mp h).1 q16
      refine z_iconst C dX11_way_14 ?_
      refine z_widen (k := 1) (n := 7) (by decide) (by decide) ?_
      have h := wpO_some.mp h
      refine z_sf T (fun hSF => ?_)
      rw [← hQ]
      exact z_ireturnA C dX11_way_15 (by decide) (Grw.rf.eN rfl) h (fun _ => hSF)
noncomputable def fX11_shot_t (s0 : Nat) (σ : St) : Option (Int × St) :=
  bnd (fX7_tell s0 (gI σ 1200 0 0) σ) (fun _ σ5 => ck (0 ≤ gI σ5 1204 0 0 ∧ gI σ5 1204 0 0 < 40) (ck (inr ((gI σ5 1204 0 0) + 1)) (some (gI σ5 800 s0 0, sI (sP σ5 1203 0 ((gI σ5 1204 0 0).toNat) (some s0)) 1204 0 0 ((gI σ5 1204 0 0) + 1)))))
noncomputable def fX11_shot (x1 : Int) (x2 : Int) (x3 : Int) (x4 : Int) (x5 : Int) (x6 : Int) (σ : St) : Option (Int × St) :=
  bnk (fX11_isPlace x1) (fun r13 => if r13 = 0 then (some ((-1), σ)) else (bnk (fX11_within x2 0 (gI σ 1200 0 0)) (fun r16 => if r16 = 0 then (some ((-2), σ)) else (bnk (fX11_within x3 1 900) (fun r19 => if r19 = 0 then (some ((-2), σ)) else (bnk (fX11_isSubject x4) (fun r22 => if r22 = 0 then (some ((-2), σ)) else (bnk (fX11_isMarkSet x5) (fun r25 => if r25 = 0 then (some ((-2), σ)) else (bnk (fX11_isKind x6) (fun r28 => if r28 = 0 then (some ((-2), σ)) else (if gI σ 1204 0 0 < 40 then (lt (nwO σ 7) (fun σ2 => lt (gN σ 7) (fun jn => bnd (fX7_init jn (gI σ2 1204 0 0) x1 x2 x3 x4 x5 x6 σ2) (fun _ σ3 => ckp (SF σ3) (fX11_shot_t jn σ3))))) else (some ((-4), σ))))))))))))))
set_option maxRecDepth 20000 in
set_option maxHeartbeats 8000000 in
theorem ct_X11_shot (x1 : Int) (x2 : Int) (x3 : Int) (x4 : Int) (x5 : Int) (x6 : Int) (hx1 : inr x1) (hx2 : inr x2) (hx3 : inr x3) (hx4 : inr x4) (hx5 : inr x5) (hx6 : inr x6) : CtA true yX11_shot cX11_shot 8 (some .int) 2 1 13 (fun ad => [vo ad 11 (some 0), vi x1, vi x2, vi x3, vi x4, vi x5, vi x6]) (fX11_shot x1 x2 x3 x4 x5 x6) enI okI (fun _ => True) := by
  refine CtA.of (by decide) (fun ad => Nat.le_of_ble_eq_true rfl) ?_
  intro κ ad σ X C T _ _ hcs _ h
  have T : isT κ := T rfl
  have C : Cx κ RX11 cX11_shot 8 (some .int) 2 := C
  generalize hQ : QmA κ true 1 13 ad σ enI okI X = Q0
  have tail : ∀ (ad2 : Nat → Nat → Nat) (s0 : Nat) (σ2 : St), s0 < gN σ2 7 → Grw σ ad σ2 ad2 → wpO (fX11_shot_t s0 σ2) (fun q => X q.1 q.2) → Z κ (1, 13) Q0 94 [(0, vo ad2 11 (some 0))] [vo ad2 7 (some s0)] ad2 σ2 := by
    intro ad s0 σ hs0 hG h
    unfold fX11_shot_t at h
    refine z_rng (fun hI1 hJ2 => ?_)
    refine z_astore (lv2 := [(7, vo ad 7 (some s0)), (0, vo ad 11 (some 0))]) C dX11_shot_94 (by decide) rfl ?_
    refine z_aload C 0 dX11_shot_96 rfl ?_
    refine z_aload_n C 1 dX11_shot_98 rfl ?_
    refine z_gIv (v := gI σ 1200 0 0) C li_X11_87 (sg_11 T) rfl dX11_shot_99 ?_
    refine z_cV (st := []) T C (ct_X7_tell s0 (gI σ 1200 0 0) (hI1 1200 0 _)) lm_X11_137 lv_vX7_tell dX11_shot_102 [vi (gI σ 1200 0 0)] rfl rfl rfl rfl rfl (nN rfl hs0) (nNl rfl hs0) (by decide) (Nat.le_of_ble_eq_true rfl) hcs h (fun r3 σ5 hr4 eN6 h => ?_)
    show Z κ (1, 13) _ 105 _ [] ad σ5
    refine z_rng (fun hI7 hJ8 => ?_)
    refine z_aload_n C 1 dX11_shot_105 rfl ?_
    refine z_gA T C li_X11_25 (sg_11 T) dX11_shot_106 ?_
    refine z_aload_n C 1 dX11_shot_109 rfl ?_
    refine z_gIv (v := gI σ5 1204 0 0) C li_X11_131 (sg_11 T) rfl dX11_shot_110 ?_
    refine z_aload C 0 dX11_shot_113 rfl ?_
    obtain ⟨hb9, h⟩ := wpO_ck.mp h
    refine z_aastore (K := 7) (t0 := 4) C ar_1203 (fun _ => rfl) ⟨_, _, rfl⟩ rfl (sg_1203 T) (hI7 1204 0 _) hb9 (fun _ q => by cases q; exact nNl eN6 hs0) dX11_shot_115 ?_
    refine z_aload_n C 1 dX11_shot_116 rfl ?_
    refine z_dup C dX11_shot_117 rfl ?_
    refine z_gIv (v := gI σ5 1204 0 0) C li_X11_131 (sg_11 T) (gnP rfl) dX11_shot_118 ?_
    refine z_iconst C dX11_shot_121 ?_
    obtain ⟨hk10, h⟩ := wpO_ck.mp h
    refine z_iadd C dX11_shot_122 ?_
    refine z_pI C lq_X11_131 (sg_11 T) hk10 dX11_shot_123 ?_
    refine z_aload C 0 dX11_shot_126 rfl ?_
    refine z_gIv (v := gI σ5 800 s0 0) C li_X11_141 (nN eN6 hs0) (gn (by decide) (gnP rfl)) dX11_shot_128 ?_
    have h := wpO_some.mp h
    refine z_sf T (fun hSF => ?_)
    rw [← hQ]
    exact z_ireturnA C dX11_shot_131 (hI7 800 s0 _) (hG.eN eN6) h (fun _ => hSF)
  unfold fX11_shot at h
  show Z κ (0, 0) Q0 0 [(0, vo ad 11 (some 0)), (1, vi x1), (2, vi x2), (3, vi x3), (4, vi x4), (5, vi x5), (6, vi x6)] [] ad σ
  refine z_rng (fun hI11 hJ12 => ?_)
  refine z_iload_n C 1 dX11_shot_0 rfl ?_
  refine z_cSp (st := []) T C (ct_X11_isPlace x1 hx1) lm_X11_90 ls_X11_isPlace dX11_shot_1 rfl rfl trivial (by decide) (Nat.le_of_ble_eq_true rfl) csOK_0 h (fun r13 hr14 h => ?_)
  show Z κ (0, 0) _ 4 _ [vi r13] ad σ
  refine z_if_ne C 9 (inr_b hr14) dX11_shot_4 (by decide) (fun q15 => ?_) (fun q15 => ?_)
  · have h := (wpO_ite.mp h).2 q15
    refine z_iload_n C 2 dX11_shot_9 rfl ?_
    refine z_iconst C dX11_shot_10 ?_
    refine z_aload_n C 0 dX11_shot_11 rfl ?_
    refine z_gIv (v := gI σ 1200 0 0) C li_X11_87 (sg_11 T) rfl dX11_shot_12 ?_
    refine z_cSp (st := []) T C (ct_X11_within x2 0 (gI σ 1200 0 0) hx2 (by decide) (hI11 1200 0 _)) lm_X11_83 ls_X11_within dX11_shot_15 rfl rfl trivial (by decide) (Nat.le_of_ble_eq_true rfl) csOK_0 h (fun r16 hr17 h => ?_)
    show Z κ (0, 0) _ 18 _ [vi r16] ad σ
    refine z_if_eq C 40 (inr_b hr17) dX11_shot_18 (by decide) (fun q18 => ?_) (fun q18 => ?_)
    · have h := (wpO_ite.mp h).1 q18
      refine z_bipush C dX11_shot_40 (by decide) ?_
      refine z_widen (k := 1) (n := 13) (by decide) (by decide) ?_
      have h := wpO_some.mp h
      refine z_sf T (fun hSF => ?_)
      rw [← hQ]
      exact z_ireturnA C dX11_shot_42 (by decide) (Grw.rf.eN rfl) h (fun _ => hSF)
    · have h := (wpO_ite.mp h).2 q18
      refine z_iload_n C 3 dX11_shot_21 rfl ?_
      refine z_iconst C dX11_shot_22 ?_
      refine z_sipush C dX11_shot_23 (by decide) ?_
      refine z_cSp (st := []) T C (ct_X11_within x3 1 900 hx3 (by decide) (by decide)) lm_X11_83 ls_X11_within dX11_shot_26 rfl rfl trivial (by decide) (Nat.le_of_ble_eq_true rfl) csOK_0 h (fun r19 hr20 h => ?_)
      show Z κ (0, 0) _ 29 _ [vi r19] ad σ
      refine z_if_eq C 40 (inr_b hr20) dX11_shot_29 (by decide) (fun q21 => ?_) (fun q21 => ?_)
      · have h := (wpO_ite.mp h).1 q21
        refine z_bipush C dX11_shot_40 (by decide) ?_
        refine z_widen (k := 1) (n := 13) (by decide) (by decide) ?_
        have h := wpO_some.mp h
        refine z_sf T (fun hSF => ?_)
        rw [← hQ]
        exact z_ireturnA C dX11_shot_42 (by decide) (Grw.rf.eN rfl) h (fun _ => hSF)
      · have h := (wpO_ite.mp h).2 q21
        refine z_iload C 4 dX11_shot_32 rfl ?_
        refine z_cSp (st := []) T C (ct_X11_isSubject x4 hx4) lm_X11_122 ls_X11_isSubject dX11_shot_34 rfl rfl trivial (by decide) (Nat.le_of_ble_eq_true rfl) csOK_0 h (fun r22 hr23 h => ?_)
        show Z κ (0, 0) _ 37 _ [vi r22] ad σ
        refine z_if_ne C 43 (inr_b hr23) dX11_shot_37 (by decide) (fun q24 => ?_) (fun q24 => ?_)
        · have h := (wpO_ite.mp h).2 q24
          refine z_iload C 5 dX11_shot_43 rfl ?_
          refine z_cSp (st := []) T C (ct_X11_isMarkSet x5 hx5) lm_X11_125 ls_X11_isMarkSet dX11_shot_45 rfl rfl trivial (by decide) (Nat.le_of_ble_eq_true rfl) csOK_0 h (fun r25 hr26 h => ?_)
          show Z κ (0, 0) _ 48 _ [vi r25] ad σ
          refine z_if_eq C 59 (inr_b hr26) dX11_shot_48 (by decide) (fun q27 => ?_) (fun q27 => ?_)
          · have h := (wpO_ite.mp h).1 q27
            refine z_bipush C dX11_shot_59 (by decide) ?_
            refine z_widen (k := 1) (n := 13) (by decide) (by decide) ?_
            have h := wpO_some.mp h
            refine z_sf T (fun hSF => ?_)
            rw [← hQ]
            exact z_ireturnA C dX11_shot_61 (by decide) (Grw.rf.eN rfl) h (fun _ => hSF)
          · have h := (wpO_ite.mp h).2 q27
            refine z_iload C 6 dX11_shot_51 rfl ?_
            refine z_cSp (st := []) T C (ct_X11_isKind x6 hx6) lm_X11_128 ls_X11_isKind dX11_shot_53 rfl rfl trivial (by decide) (Nat.le_of_ble_eq_true rfl) csOK_0 h (fun r28 hr29 h => ?_)
            show Z κ (0, 0) _ 56 _ [vi r28] ad σ
            refine z_if_ne C 62 (inr_b hr29) dX11_shot_56 (by decide) (fun q30 => ?_) (fun q30 => ?_)
            · have h := (wpO_ite.mp h).2 q30
              refine z_aload_n C 0 dX11_shot_62 rfl ?_
              refine z_gIv (v := gI σ 1204 0 0) C li_X11_131 (sg_11 T) rfl dX11_shot_63 ?_
              refine z_bipush C dX11_shot_66 (by decide) ?_
              refine z_icmp_lt C 74 (hI11 1204 0 _) (by decide) dX11_shot_68 (by decide) (fun q31 => ?_) (fun q31 => ?_)
              · have h := (wpO_ite.mp h).1 q31
                refine z_sf T (fun hSF => ?_)
                have hp32 : 0 < gN σ 11 := by rw [hSF.2.2.1 11 (by decide)]; decide
                refine z_off ?_
                have C1 := C.off
                refine z_new (κ := offK κ) C1 lkn_X11_23 (fun q => noT isF_off q) (csOK_le (csOK_off hcs) (by decide) (by decide)) dX11_shot_74 (fun ad2 hA => ?_)
                rw [voA (K2 := 11) (r := some 0) hA (by decide)]
                have hG1 := (Grw.rf (σ := σ) (ad := ad)).nwO hA
                have hN1 : gN σ 7 < gN (nwO σ 7) 7 := nwO_lt
                generalize e1 : nwO σ 7 = σ2 at hG1 hN1 ⊢
                have h := lt_elim h σ2 e1
                generalize e2 : gN σ 7 = jn at hN1 ⊢
                have h := lt_elim h jn e2
                have hp33 := grO e1 hp32
                show Z (offK κ) (1, 13) Q0 77 [(0, vo ad2 11 (some 0)), (1, vi x1), (2, vi x2), (3, vi x3), (4, vi x4), (5, vi x5), (6, vi x6)] [vo ad2 7 (some jn)] ad2 σ2
                refine z_rng (fun hI2 hJ2 => ?_)
                refine z_dup C1 dX11_shot_77 rfl ?_
                refine z_aload_n C1 0 dX11_shot_78 rfl ?_
                refine z_gIv (v := gI σ2 1204 0 0) C1 li_X11_131 (Or.inl hp33) rfl dX11_shot_79 ?_
                refine z_iload_n C1 1 dX11_shot_82 rfl ?_
                refine z_iload_n C1 2 dX11_shot_83 rfl ?_
                refine z_iload_n C1 3 dX11_shot_84 rfl ?_
                refine z_iload C1 4 dX11_shot_85 rfl ?_
                refine z_iload C1 5 dX11_shot_87 rfl ?_
                refine z_iload C1 6 dX11_shot_89 rfl ?_
                refine z_cI (κ := offK κ) (st := [vo ad2 7 (some jn)]) isF_off C1 (ct_X7_init jn (gI σ2 1204 0 0) x1 x2 x3 x4 x5 x6 ((hI2 1204 0 0)) hx1 hx2 hx3 hx4 hx5 hx6) lm_X11_134 ln_X7_init rfl dX11_shot_91 [vi (gI σ2 1204 0 0), vi x1, vi x2, vi x3, vi x4, vi x5, vi x6] rfl rfl rfl hN1 (by decide) (Nat.le_of_ble_eq_true rfl) (csOK_le (csOK_off hcs) (by decide) (by decide)) h (fun _ σ3 ad3 _ hg h => ?_)
                show Z (offK κ) (1, 13) Q0 94 [(0, vo ad2 11 (some 0)), (1, vi x1), (2, vi x2), (3, vi x3), (4, vi x4), (5, vi x5), (6, vi x6)] [vo ad2 7 (some jn)] ad3 σ3
                rw [voG hg hp33]
                rw [voG hg hN1]
                obtain ⟨hSF3, h⟩ := wpO_ckp.mp h
                refine z_on hSF3 ?_
                refine z_sub [0] rfl ?_
                exact tail ad3 jn σ3 (hg _ _ hN1).1 (hG1.trans hg) h
              · have h := (wpO_ite.mp h).2 q31
                refine z_bipush C dX11_shot_71 (by decide) ?_
                refine z_widen (k := 1) (n := 13) (by decide) (by decide) ?_
                have h := wpO_some.mp h
                refine z_sf T (fun hSF => ?_)
                rw [← hQ]
                exact z_ireturnA C dX11_shot_73 (by decide) (Grw.rf.eN rfl) h (fun _ => hSF)
            · have h := (wpO_ite.mp h).1 q30
              refine z_bipush C dX11_shot_59 (by decide) ?_
              refine z_widen (k := 1) (n := 13) (by decide) (by decide) ?_
              have h := wpO_some.mp h
              refine z_sf T (fun hSF => ?_)
              rw [← hQ]
              exact z_ireturnA C dX11_shot_61 (by decide) (Grw.rf.eN rfl) h (fun _ => hSF)
        · have h := (wpO_ite.mp h).1 q24
          refine z_bipush C dX11_shot_40 (by decide) ?_
          refine z_widen (k := 1) (n := 13) (by decide) (by decide) ?_
          have h := wpO_some.mp h
          refine z_sf T (fun hSF => ?_)
          rw [← hQ]
          exact z_ireturnA C dX11_shot_42 (by decide) (Grw.rf.eN rfl) h (fun _ => hSF)
  · have h := (wpO_ite.mp h).1 q15
    refine z_iconst C dX11_shot_7 ?_
    refine z_widen (k := 1) (n := 13) (by decide) (by decide) ?_
    have h := wpO_some.mp h
    refine z_sf T (fun hSF => ?_)
    rw [← hQ]
    exact z_ireturnA C dX11_shot_8 (by decide) (Grw.rf.eN rfl) h (fun _ => hSF)
noncomputable def fX11_story_t (s1 : Int) (s2 : Nat) (σ : St) : Option (Int × St) :=
  ck (0 ≤ s1 ∧ s1 < 8) (ck (inr ((gI σ 1206 0 0) + 1)) (ck (inr (((gI σ 1206 0 0) + 1) - 1)) (some (((gI σ 1206 0 0) + 1) - 1, sI (sP σ 1205 0 s1.toNat (some s2)) 1206 0 0 ((gI σ 1206 0 0) + 1)))))
noncomputable def fX11_story (x1 : Int) (x2 : Int) (x3 : Int) (x4 : Int) (σ : St) : Option (Int × St) :=
  bnk (fX11_isPlace x2) (fun r8 => if r8 = 0 then (some ((-1), σ)) else (bnk (fX11_isSubject x1) (fun r11 => if r11 = 0 then (some ((-2), σ)) else (bnk (fX11_isHour x3) (fun r14 => if r14 = 0 then (some ((-2), σ)) else (bnk (fX11_within x4 0 999) (fun r17 => if r17 = 0 then (some ((-2), σ)) else (if gI σ 1206 0 0 < 8 then (lt (nwO σ 8) (fun σ2 => lt (gN σ 8) (fun jn => bnd (fX8_init jn x1 x2 x3 x4 σ2) (fun _ σ3 => ckp (SF σ3) (fX11_story_t (gI σ 1206 0 0) jn σ3))))) else (some ((-4), σ))))))))))
set_option maxRecDepth 20000 in
set_option maxHeartbeats 8000000 in
theorem ct_X11_story (x1 : Int) (x2 : Int) (x3 : Int) (x4 : Int) (hx1 : inr x1) (hx2 : inr x2) (hx3 : inr x3) (hx4 : inr x4) : CtA true yX11_story cX11_story 5 (some .int) 2 2 14 (fun ad => [vo ad 11 (some 0), vi x1, vi x2, vi x3, vi x4]) (fX11_story x1 x2 x3 x4) enI okI (fun _ => True) := by
  refine CtA.of (by decide) (fun ad => Nat.le_of_ble_eq_true rfl) ?_
  intro κ ad σ X C T _ _ hcs _ h
  have T : isT κ := T rfl
  have C : Cx κ RX11 cX11_story 5 (some .int) 2 := C
  generalize hQ : QmA κ true 2 14 ad σ enI okI X = Q0
  have tail : ∀ (ad2 : Nat → Nat → Nat) (s1 : Int) (s2 : Nat) (σ2 : St), inr s1 → s2 < gN σ2 8 → Grw σ ad σ2 ad2 → wpO (fX11_story_t s1 s2 σ2) (fun q => X q.1 q.2) → Z κ (2, 14) Q0 70 [(0, vo ad2 11 (some 0))] [vo ad2 8 (some s2), vi s1, vo ad2 1205 (some 0)] ad2 σ2 := by
    intro ad s1 s2 σ hs1 hs2 hG h
    unfold fX11_story_t at h
    refine z_rng (fun hI1 hJ2 => ?_)
    obtain ⟨hb3, h⟩ := wpO_ck.mp h
    refine z_aastore (K := 8) (t0 := 5) C ar_1205 (fun _ => rfl) ⟨_, _, rfl⟩ rfl (sg_1205 T) hs1 hb3 (fun _ q => by cases q; exact nNl rfl hs2) dX11_story_70 ?_
    refine z_aload_n C 0 dX11_story_71 rfl ?_
    refine z_dup C dX11_story_72 rfl ?_
    refine z_gIv (v := gI σ 1206 0 0) C li_X11_200 (sg_11 T) (gnP rfl) dX11_story_73 ?_
    refine z_iconst C dX11_story_76 ?_
    obtain ⟨hk4, h⟩ := wpO_ck.mp h
    refine z_iadd C dX11_story_77 ?_
    refine z_pI C lq_X11_200 (sg_11 T) hk4 dX11_story_78 ?_
    refine z_aload_n C 0 dX11_story_81 rfl ?_
    refine z_gIv (v := (gI σ 1206 0 0) + 1) C li_X11_200 (sg_11 T) gs dX11_story_82 ?_
    refine z_iconst C dX11_story_85 ?_
    obtain ⟨hk5, h⟩ := wpO_ck.mp h
    refine z_isub C dX11_story_86 ?_
    have h := wpO_some.mp h
    refine z_sf T (fun hSF => ?_)
    rw [← hQ]
    exact z_ireturnA C dX11_story_87 hk5 (hG.eN rfl) h (fun _ => hSF)
  unfold fX11_story at h
  show Z κ (0, 0) Q0 0 [(0, vo ad 11 (some 0)), (1, vi x1), (2, vi x2), (3, vi x3), (4, vi x4)] [] ad σ
  refine z_rng (fun hI6 hJ7 => ?_)
  refine z_iload_n C 2 dX11_story_0 rfl ?_
  refine z_cSp (st := []) T C (ct_X11_isPlace x2 hx2) lm_X11_90 ls_X11_isPlace dX11_story_1 rfl rfl trivial (by decide) (Nat.le_of_ble_eq_true rfl) csOK_0 h (fun r8 hr9 h => ?_)
  show Z κ (0, 0) _ 4 _ [vi r8] ad σ
  refine z_if_ne C 9 (inr_b hr9) dX11_story_4 (by decide) (fun q10 => ?_) (fun q10 => ?_)
  · have h := (wpO_ite.mp h).2 q10
    refine z_iload_n C 1 dX11_story_9 rfl ?_
    refine z_cSp (st := []) T C (ct_X11_isSubject x1 hx1) lm_X11_122 ls_X11_isSubject dX11_story_10 rfl rfl trivial (by decide) (Nat.le_of_ble_eq_true rfl) csOK_0 h (fun r11 hr12 h => ?_)
    show Z κ (0, 0) _ 13 _ [vi r11] ad σ
    refine z_if_eq C 35 (inr_b hr12) dX11_story_13 (by decide) (fun q13 => ?_) (fun q13 => ?_)
    · have h := (wpO_ite.mp h).1 q13
      refine z_bipush C dX11_story_35 (by decide) ?_
      refine z_widen (k := 2) (n := 14) (by decide) (by decide) ?_
      have h := wpO_some.mp h
      refine z_sf T (fun hSF => ?_)
      rw [← hQ]
      exact z_ireturnA C dX11_story_37 (by decide) (Grw.rf.eN rfl) h (fun _ => hSF)
    · have h := (wpO_ite.mp h).2 q13
      refine z_iload_n C 3 dX11_story_16 rfl ?_
      refine z_cSp (st := []) T C (ct_X11_isHour x3 hx3) lm_X11_94 ls_X11_isHour dX11_story_17 rfl rfl trivial (by decide) (Nat.le_of_ble_eq_true rfl) csOK_0 h (fun r14 hr15 h => ?_)
      show Z κ (0, 0) _ 20 _ [vi r14] ad σ
      refine z_if_eq C 35 (inr_b hr15) dX11_story_20 (by decide) (fun q16 => ?_) (fun q16 => ?_)
      · have h := (wpO_ite.mp h).1 q16
        refine z_bipush C dX11_story_35 (by decide) ?_
        refine z_widen (k := 2) (n := 14) (by decide) (by decide) ?_
        have h := wpO_some.mp h
        refine z_sf T (fun hSF => ?_)
        rw [← hQ]
        exact z_ireturnA C dX11_story_37 (by decide) (Grw.rf.eN rfl) h (fun _ => hSF)
      · have h := (wpO_ite.mp h).2 q16
        refine z_iload C 4 dX11_story_23 rfl ?_
        refine z_iconst C dX11_story_25 ?_
        refine z_sipush C dX11_story_26 (by decide) ?_
        refine z_cSp (st := []) T C (ct_X11_within x4 0 999 hx4 (by decide) (by decide)) lm_X11_83 ls_X11_within dX11_story_29 rfl rfl trivial (by decide) (Nat.le_of_ble_eq_true rfl) csOK_0 h (fun r17 hr18 h => ?_)
        show Z κ (0, 0) _ 32 _ [vi r17] ad σ
        refine z_if_ne C 38 (inr_b hr18) dX11_story_32 (by decide) (fun q19 => ?_) (fun q19 => ?_)
        · have h := (wpO_ite.mp h).2 q19
          refine z_aload_n C 0 dX11_story_38 rfl ?_
          refine z_gIv (v := gI σ 1206 0 0) C li_X11_200 (sg_11 T) rfl dX11_story_39 ?_
          refine z_bipush C dX11_story_42 (by decide) ?_
          refine z_icmp_lt C 50 (hI6 1206 0 _) (by decide) dX11_story_44 (by decide) (fun q20 => ?_) (fun q20 => ?_)
          · have h := (wpO_ite.mp h).1 q20
            refine z_aload_n C 0 dX11_story_50 rfl ?_
            refine z_gA T C li_X11_31 (sg_11 T) dX11_story_51 ?_
            refine z_aload_n C 0 dX11_story_54 rfl ?_
            refine z_gIv (v := gI σ 1206 0 0) C li_X11_200 (sg_11 T) rfl dX11_story_55 ?_
            refine z_sf T (fun hSF => ?_)
            have hp21 : 0 < gN σ 11 := by rw [hSF.2.2.1 11 (by decide)]; decide
            have hp22 : 0 < gN σ 1205 := by rw [hSF.2.2.1 1205 (by decide)]; decide
            refine z_off ?_
            have C1 := C.off
            refine z_new (κ := offK κ) C1 lkn_X11_29 (fun q => noT isF_off q) (csOK_le (csOK_off hcs) (by decide) (by decide)) dX11_story_58 (fun ad2 hA => ?_)
            rw [voA (K2 := 11) (r := some 0) hA (by decide)]
            rw [voA (K2 := 1205) (r := some 0) hA (by decide)]
            have hG1 := (Grw.rf (σ := σ) (ad := ad)).nwO hA
            have hN1 : gN σ 8 < gN (nwO σ 8) 8 := nwO_lt
            generalize e1 : nwO σ 8 = σ2 at hG1 hN1 ⊢
            have h := lt_elim h σ2 e1
            generalize e2 : gN σ 8 = jn at hN1 ⊢
            have h := lt_elim h jn e2
            have hp23 := grO e1 hp21
            have hp24 := grO e1 hp22
            show Z (offK κ) (1, 8) Q0 61 [(0, vo ad2 11 (some 0)), (1, vi x1), (2, vi x2), (3, vi x3), (4, vi x4)] [vo ad2 8 (some jn), vi (gI σ 1206 0 0), vo ad2 1205 (some 0)] ad2 σ2
            refine z_rng (fun hI2 hJ2 => ?_)
            refine z_dup C1 dX11_story_61 rfl ?_
            refine z_iload_n C1 1 dX11_story_62 rfl ?_
            refine z_iload_n C1 2 dX11_story_63 rfl ?_
            refine z_iload_n C1 3 dX11_story_64 rfl ?_
            refine z_iload C1 4 dX11_story_65 rfl ?_
            refine z_cI (κ := offK κ) (st := [vo ad2 8 (some jn), vi (gI σ 1206 0 0), vo ad2 1205 (some 0)]) isF_off C1 (ct_X8_init jn x1 x2 x3 x4 hx1 hx2 hx3 hx4) lm_X11_203 ln_X8_init rfl dX11_story_67 [vi x1, vi x2, vi x3, vi x4] rfl rfl rfl hN1 (by decide) (Nat.le_of_ble_eq_true rfl) (csOK_le (csOK_off hcs) (by decide) (by decide)) h (fun _ σ3 ad3 _ hg h => ?_)
            show Z (offK κ) (2, 14) Q0 70 [(0, vo ad2 11 (some 0)), (1, vi x1), (2, vi x2), (3, vi x3), (4, vi x4)] [vo ad2 8 (some jn), vi (gI σ 1206 0 0), vo ad2 1205 (some 0)] ad3 σ3
            rw [voG hg hp23]
            rw [voG hg hN1]
            rw [voG hg hp24]
            obtain ⟨hSF3, h⟩ := wpO_ckp.mp h
            refine z_on hSF3 ?_
            refine z_sub [0] rfl ?_
            exact tail ad3 (gI σ 1206 0 0) jn σ3 (hI6 1206 0 _) (hg _ _ hN1).1 (hG1.trans hg) h
          · have h := (wpO_ite.mp h).2 q20
            refine z_bipush C dX11_story_47 (by decide) ?_
            refine z_widen (k := 2) (n := 14) (by decide) (by decide) ?_
            have h := wpO_some.mp h
            refine z_sf T (fun hSF => ?_)
            rw [← hQ]
            exact z_ireturnA C dX11_story_49 (by decide) (Grw.rf.eN rfl) h (fun _ => hSF)
        · have h := (wpO_ite.mp h).1 q19
          refine z_bipush C dX11_story_35 (by decide) ?_
          refine z_widen (k := 2) (n := 14) (by decide) (by decide) ?_
          have h := wpO_some.mp h
          refine z_sf T (fun hSF => ?_)
          rw [← hQ]
          exact z_ireturnA C dX11_story_37 (by decide) (Grw.rf.eN rfl) h (fun _ => hSF)
  · have h := (wpO_ite.mp h).1 q10
    refine z_iconst C dX11_story_7 ?_
    refine z_widen (k := 2) (n := 14) (by decide) (by decide) ?_
    have h := wpO_some.mp h
    refine z_sf T (fun hSF => ?_)
    rw [← hQ]
    exact z_ireturnA C dX11_story_8 (by decide) (Grw.rf.eN rfl) h (fun _ => hSF)
noncomputable def fX11_rule_t (s1 : Int) (s2 : Nat) (σ : St) : Option (Int × St) :=
  ck (0 ≤ s1 ∧ s1 < 6) (ck (inr ((gI σ 1210 0 0) + 1)) (ck (inr (((gI σ 1210 0 0) + 1) - 1)) (some (((gI σ 1210 0 0) + 1) - 1, sI (sP σ 1209 0 s1.toNat (some s2)) 1210 0 0 ((gI σ 1210 0 0) + 1)))))
noncomputable def fX11_rule (x1 : Int) (σ : St) : Option (Int × St) :=
  bnk (fX11_isDay x1) (fun r8 => if r8 = 0 then (some ((-2), σ)) else (if gI σ 1210 0 0 < 6 then (lt (nwO σ 6) (fun σ2 => lt (gN σ 6) (fun jn => bnd (fX6_init jn x1 σ2) (fun _ σ3 => ckp (SF σ3) (fX11_rule_t (gI σ 1210 0 0) jn σ3))))) else (some ((-4), σ))))
set_option maxRecDepth 20000 in
set_option maxHeartbeats 8000000 in
theorem ct_X11_rule (x1 : Int) (hx1 : inr x1) : CtA true yX11_rule cX11_rule 2 (some .int) 2 2 84 (fun ad => [vo ad 11 (some 0), vi x1]) (fX11_rule x1) enI okI (fun _ => True) := by
  refine CtA.of (by decide) (fun ad => Nat.le_of_ble_eq_true rfl) ?_
  intro κ ad σ X C T _ _ hcs _ h
  have T : isT κ := T rfl
  have C : Cx κ RX11 cX11_rule 2 (some .int) 2 := C
  generalize hQ : QmA κ true 2 84 ad σ enI okI X = Q0
  have tail : ∀ (ad2 : Nat → Nat → Nat) (s1 : Int) (s2 : Nat) (σ2 : St), inr s1 → s2 < gN σ2 6 → Grw σ ad σ2 ad2 → wpO (fX11_rule_t s1 s2 σ2) (fun q => X q.1 q.2) → Z κ (2, 84) Q0 38 [(0, vo ad2 11 (some 0))] [vo ad2 6 (some s2), vi s1, vo ad2 1209 (some 0)] ad2 σ2 := by
    intro ad s1 s2 σ hs1 hs2 hG h
    unfold fX11_rule_t at h
    refine z_rng (fun hI1 hJ2 => ?_)
    obtain ⟨hb3, h⟩ := wpO_ck.mp h
    refine z_aastore (K := 6) (t0 := 6) C ar_1209 (fun _ => rfl) ⟨_, _, rfl⟩ rfl (sg_1209 T) hs1 hb3 (fun _ q => by cases q; exact nNl rfl hs2) dX11_rule_38 ?_
    refine z_aload_n C 0 dX11_rule_39 rfl ?_
    refine z_dup C dX11_rule_40 rfl ?_
    refine z_gIv (v := gI σ 1210 0 0) C li_X11_260 (sg_11 T) (gnP rfl) dX11_rule_41 ?_
    refine z_iconst C dX11_rule_44 ?_
    obtain ⟨hk4, h⟩ := wpO_ck.mp h
    refine z_iadd C dX11_rule_45 ?_
    refine z_pI C lq_X11_260 (sg_11 T) hk4 dX11_rule_46 ?_
    refine z_aload_n C 0 dX11_rule_49 rfl ?_
    refine z_gIv (v := (gI σ 1210 0 0) + 1) C li_X11_260 (sg_11 T) gs dX11_rule_50 ?_
    refine z_iconst C dX11_rule_53 ?_
    obtain ⟨hk5, h⟩ := wpO_ck.mp h
    refine z_isub C dX11_rule_54 ?_
    have h := wpO_some.mp h
    refine z_sf T (fun hSF => ?_)
    rw [← hQ]
    exact z_ireturnA C dX11_rule_55 hk5 (hG.eN rfl) h (fun _ => hSF)
  unfold fX11_rule at h
  show Z κ (0, 0) Q0 0 [(0, vo ad 11 (some 0)), (1, vi x1)] [] ad σ
  refine z_rng (fun hI6 hJ7 => ?_)
  refine z_iload_n C 1 dX11_rule_0 rfl ?_
  refine z_cSp (st := []) T C (ct_X11_isDay x1 hx1) lm_X11_257 ls_X11_isDay dX11_rule_1 rfl rfl trivial (by decide) (Nat.le_of_ble_eq_true rfl) csOK_0 h (fun r8 hr9 h => ?_)
  show Z κ (0, 0) _ 4 _ [vi r8] ad σ
  refine z_if_ne C 10 (inr_b hr9) dX11_rule_4 (by decide) (fun q10 => ?_) (fun q10 => ?_)
  · have h := (wpO_ite.mp h).2 q10
    refine z_aload_n C 0 dX11_rule_10 rfl ?_
    refine z_gIv (v := gI σ 1210 0 0) C li_X11_260 (sg_11 T) rfl dX11_rule_11 ?_
    refine z_bipush C dX11_rule_14 (by decide) ?_
    refine z_icmp_lt C 22 (hI6 1210 0 _) (by decide) dX11_rule_16 (by decide) (fun q11 => ?_) (fun q11 => ?_)
    · have h := (wpO_ite.mp h).1 q11
      refine z_aload_n C 0 dX11_rule_22 rfl ?_
      refine z_gA T C li_X11_45 (sg_11 T) dX11_rule_23 ?_
      refine z_aload_n C 0 dX11_rule_26 rfl ?_
      refine z_gIv (v := gI σ 1210 0 0) C li_X11_260 (sg_11 T) rfl dX11_rule_27 ?_
      refine z_sf T (fun hSF => ?_)
      have hp12 : 0 < gN σ 11 := by rw [hSF.2.2.1 11 (by decide)]; decide
      have hp13 : 0 < gN σ 1209 := by rw [hSF.2.2.1 1209 (by decide)]; decide
      refine z_off ?_
      have C1 := C.off
      refine z_new (κ := offK κ) C1 lkn_X11_43 (fun q => noT isF_off q) (csOK_le (csOK_off hcs) (by decide) (by decide)) dX11_rule_30 (fun ad2 hA => ?_)
      rw [voA (K2 := 11) (r := some 0) hA (by decide)]
      rw [voA (K2 := 1209) (r := some 0) hA (by decide)]
      have hG1 := (Grw.rf (σ := σ) (ad := ad)).nwO hA
      have hN1 : gN σ 6 < gN (nwO σ 6) 6 := nwO_lt
      generalize e1 : nwO σ 6 = σ2 at hG1 hN1 ⊢
      have h := lt_elim h σ2 e1
      generalize e2 : gN σ 6 = jn at hN1 ⊢
      have h := lt_elim h jn e2
      have hp14 := grO e1 hp12
      have hp15 := grO e1 hp13
      show Z (offK κ) (1, 4) Q0 33 [(0, vo ad2 11 (some 0)), (1, vi x1)] [vo ad2 6 (some jn), vi (gI σ 1210 0 0), vo ad2 1209 (some 0)] ad2 σ2
      refine z_rng (fun hI2 hJ2 => ?_)
      refine z_dup C1 dX11_rule_33 rfl ?_
      refine z_iload_n C1 1 dX11_rule_34 rfl ?_
      refine z_cI (κ := offK κ) (st := [vo ad2 6 (some jn), vi (gI σ 1210 0 0), vo ad2 1209 (some 0)]) isF_off C1 (ct_X6_init jn x1 hx1) lm_X11_263 ln_X6_init rfl dX11_rule_35 [vi x1] rfl rfl rfl hN1 (by decide) (Nat.le_of_ble_eq_true rfl) (csOK_le (csOK_off hcs) (by decide) (by decide)) h (fun _ σ3 ad3 _ hg h => ?_)
      show Z (offK κ) (2, 84) Q0 38 [(0, vo ad2 11 (some 0)), (1, vi x1)] [vo ad2 6 (some jn), vi (gI σ 1210 0 0), vo ad2 1209 (some 0)] ad3 σ3
      rw [voG hg hp14]
      rw [voG hg hN1]
      rw [voG hg hp15]
      obtain ⟨hSF3, h⟩ := wpO_ckp.mp h
      refine z_on hSF3 ?_
      refine z_sub [0] rfl ?_
      exact tail ad3 (gI σ 1210 0 0) jn σ3 (hI6 1210 0 _) (hg _ _ hN1).1 (hG1.trans hg) h
    · have h := (wpO_ite.mp h).2 q11
      refine z_bipush C dX11_rule_19 (by decide) ?_
      refine z_widen (k := 2) (n := 84) (by decide) (by decide) ?_
      have h := wpO_some.mp h
      refine z_sf T (fun hSF => ?_)
      rw [← hQ]
      exact z_ireturnA C dX11_rule_21 (by decide) (Grw.rf.eN rfl) h (fun _ => hSF)
  · have h := (wpO_ite.mp h).1 q10
    refine z_bipush C dX11_rule_7 (by decide) ?_
    refine z_widen (k := 2) (n := 84) (by decide) (by decide) ?_
    have h := wpO_some.mp h
    refine z_sf T (fun hSF => ?_)
    rw [← hQ]
    exact z_ireturnA C dX11_rule_9 (by decide) (Grw.rf.eN rfl) h (fun _ => hSF)
noncomputable def fX11_right_t (s1 : Int) (s2 : Nat) (σ : St) : Option (Int × St) :=
  ck (0 ≤ s1 ∧ s1 < 8) (ck (inr ((gI σ 1214 0 0) + 1)) (ck (inr (((gI σ 1214 0 0) + 1) - 1)) (some (((gI σ 1214 0 0) + 1) - 1, sI (sP σ 1213 0 s1.toNat (some s2)) 1214 0 0 ((gI σ 1214 0 0) + 1)))))
noncomputable def fX11_right (x1 : Int) (x2 : Int) (x3 : Int) (x4 : Int) (x5 : Int) (σ : St) : Option (Int × St) :=
  bnk (fX11_isSubject x1) (fun r8 => if r8 = 0 then (some ((-2), σ)) else (bnk (fX11_within x2 0 31) (fun r11 => if r11 = 0 then (some ((-2), σ)) else (bnk (fX11_within x5 1 99) (fun r14 => if r14 = 0 then (some ((-2), σ)) else (bnk (fX11_isDay x3) (fun r17 => if r17 = 0 then (some ((-2), σ)) else (bnk (fX11_isDay x4) (fun r20 => if r20 = 0 then (some ((-2), σ)) else (if x3 ≤ x4 then (if gI σ 1214 0 0 < 8 then (lt (nwO σ 5) (fun σ2 => lt (gN σ 5) (fun jn => bnd (fX5_init jn x1 x2 x3 x4 x5 σ2) (fun _ σ3 => ckp (SF σ3) (fX11_right_t (gI σ 1214 0 0) jn σ3))))) else (some ((-4), σ))) else (some ((-2), σ))))))))))))
set_option maxRecDepth 20000 in
set_option maxHeartbeats 8000000 in
theorem ct_X11_right (x1 : Int) (x2 : Int) (x3 : Int) (x4 : Int) (x5 : Int) (hx1 : inr x1) (hx2 : inr x2) (hx3 : inr x3) (hx4 : inr x4) (hx5 : inr x5) : CtA true yX11_right cX11_right 6 (some .int) 2 1 5 (fun ad => [vo ad 11 (some 0), vi x1, vi x2, vi x3, vi x4, vi x5]) (fX11_right x1 x2 x3 x4 x5) enI okI (fun _ => True) := by
  refine CtA.of (by decide) (fun ad => Nat.le_of_ble_eq_true rfl) ?_
  intro κ ad σ X C T _ _ hcs _ h
  have T : isT κ := T rfl
  have C : Cx κ RX11 cX11_right 6 (some .int) 2 := C
  generalize hQ : QmA κ true 1 5 ad σ enI okI X = Q0
  have tail : ∀ (ad2 : Nat → Nat → Nat) (s1 : Int) (s2 : Nat) (σ2 : St), inr s1 → s2 < gN σ2 5 → Grw σ ad σ2 ad2 → wpO (fX11_right_t s1 s2 σ2) (fun q => X q.1 q.2) → Z κ (1, 5) Q0 89 [(0, vo ad2 11 (some 0))] [vo ad2 5 (some s2), vi s1, vo ad2 1213 (some 0)] ad2 σ2 := by
    intro ad s1 s2 σ hs1 hs2 hG h
    unfold fX11_right_t at h
    refine z_rng (fun hI1 hJ2 => ?_)
    obtain ⟨hb3, h⟩ := wpO_ck.mp h
    refine z_aastore (K := 5) (t0 := 7) C ar_1213 (fun _ => rfl) ⟨_, _, rfl⟩ rfl (sg_1213 T) hs1 hb3 (fun _ q => by cases q; exact nNl rfl hs2) dX11_right_89 ?_
    refine z_aload_n C 0 dX11_right_90 rfl ?_
    refine z_dup C dX11_right_91 rfl ?_
    refine z_gIv (v := gI σ 1214 0 0) C li_X11_298 (sg_11 T) (gnP rfl) dX11_right_92 ?_
    refine z_iconst C dX11_right_95 ?_
    obtain ⟨hk4, h⟩ := wpO_ck.mp h
    refine z_iadd C dX11_right_96 ?_
    refine z_pI C lq_X11_298 (sg_11 T) hk4 dX11_right_97 ?_
    refine z_aload_n C 0 dX11_right_100 rfl ?_
    refine z_gIv (v := (gI σ 1214 0 0) + 1) C li_X11_298 (sg_11 T) gs dX11_right_101 ?_
    refine z_iconst C dX11_right_104 ?_
    obtain ⟨hk5, h⟩ := wpO_ck.mp h
    refine z_isub C dX11_right_105 ?_
    have h := wpO_some.mp h
    refine z_sf T (fun hSF => ?_)
    rw [← hQ]
    exact z_ireturnA C dX11_right_106 hk5 (hG.eN rfl) h (fun _ => hSF)
  unfold fX11_right at h
  show Z κ (0, 0) Q0 0 [(0, vo ad 11 (some 0)), (1, vi x1), (2, vi x2), (3, vi x3), (4, vi x4), (5, vi x5)] [] ad σ
  refine z_rng (fun hI6 hJ7 => ?_)
  refine z_iload_n C 1 dX11_right_0 rfl ?_
  refine z_cSp (st := []) T C (ct_X11_isSubject x1 hx1) lm_X11_122 ls_X11_isSubject dX11_right_1 rfl rfl trivial (by decide) (Nat.le_of_ble_eq_true rfl) csOK_0 h (fun r8 hr9 h => ?_)
  show Z κ (0, 0) _ 4 _ [vi r8] ad σ
  refine z_if_eq C 28 (inr_b hr9) dX11_right_4 (by decide) (fun q10 => ?_) (fun q10 => ?_)
  · have h := (wpO_ite.mp h).1 q10
    refine z_bipush C dX11_right_28 (by decide) ?_
    refine z_widen (k := 1) (n := 5) (by decide) (by decide) ?_
    have h := wpO_some.mp h
    refine z_sf T (fun hSF => ?_)
    rw [← hQ]
    exact z_ireturnA C dX11_right_30 (by decide) (Grw.rf.eN rfl) h (fun _ => hSF)
  · have h := (wpO_ite.mp h).2 q10
    refine z_iload_n C 2 dX11_right_7 rfl ?_
    refine z_iconst C dX11_right_8 ?_
    refine z_bipush C dX11_right_9 (by decide) ?_
    refine z_cSp (st := []) T C (ct_X11_within x2 0 31 hx2 (by decide) (by decide)) lm_X11_83 ls_X11_within dX11_right_11 rfl rfl trivial (by decide) (Nat.le_of_ble_eq_true rfl) csOK_0 h (fun r11 hr12 h => ?_)
    show Z κ (0, 0) _ 14 _ [vi r11] ad σ
    refine z_if_eq C 28 (inr_b hr12) dX11_right_14 (by decide) (fun q13 => ?_) (fun q13 => ?_)
    · have h := (wpO_ite.mp h).1 q13
      refine z_bipush C dX11_right_28 (by decide) ?_
      refine z_widen (k := 1) (n := 5) (by decide) (by decide) ?_
      have h := wpO_some.mp h
      refine z_sf T (fun hSF => ?_)
      rw [← hQ]
      exact z_ireturnA C dX11_right_30 (by decide) (Grw.rf.eN rfl) h (fun _ => hSF)
    · have h := (wpO_ite.mp h).2 q13
      refine z_iload C 5 dX11_right_17 rfl ?_
      refine z_iconst C dX11_right_19 ?_
      refine z_bipush C dX11_right_20 (by decide) ?_
      refine z_cSp (st := []) T C (ct_X11_within x5 1 99 hx5 (by decide) (by decide)) lm_X11_83 ls_X11_within dX11_right_22 rfl rfl trivial (by decide) (Nat.le_of_ble_eq_true rfl) csOK_0 h (fun r14 hr15 h => ?_)
      show Z κ (0, 0) _ 25 _ [vi r14] ad σ
      refine z_if_ne C 31 (inr_b hr15) dX11_right_25 (by decide) (fun q16 => ?_) (fun q16 => ?_)
      · have h := (wpO_ite.mp h).2 q16
        refine z_iload_n C 3 dX11_right_31 rfl ?_
        refine z_cSp (st := []) T C (ct_X11_isDay x3 hx3) lm_X11_257 ls_X11_isDay dX11_right_32 rfl rfl trivial (by decide) (Nat.le_of_ble_eq_true rfl) csOK_0 h (fun r17 hr18 h => ?_)
        show Z κ (0, 0) _ 35 _ [vi r17] ad σ
        refine z_if_eq C 52 (inr_b hr18) dX11_right_35 (by decide) (fun q19 => ?_) (fun q19 => ?_)
        · have h := (wpO_ite.mp h).1 q19
          refine z_bipush C dX11_right_52 (by decide) ?_
          refine z_widen (k := 1) (n := 5) (by decide) (by decide) ?_
          have h := wpO_some.mp h
          refine z_sf T (fun hSF => ?_)
          rw [← hQ]
          exact z_ireturnA C dX11_right_54 (by decide) (Grw.rf.eN rfl) h (fun _ => hSF)
        · have h := (wpO_ite.mp h).2 q19
          refine z_iload C 4 dX11_right_38 rfl ?_
          refine z_cSp (st := []) T C (ct_X11_isDay x4 hx4) lm_X11_257 ls_X11_isDay dX11_right_40 rfl rfl trivial (by decide) (Nat.le_of_ble_eq_true rfl) csOK_0 h (fun r20 hr21 h => ?_)
          show Z κ (0, 0) _ 43 _ [vi r20] ad σ
          refine z_if_eq C 52 (inr_b hr21) dX11_right_43 (by decide) (fun q22 => ?_) (fun q22 => ?_)
          · have h := (wpO_ite.mp h).1 q22
            refine z_bipush C dX11_right_52 (by decide) ?_
            refine z_widen (k := 1) (n := 5) (by decide) (by decide) ?_
            have h := wpO_some.mp h
            refine z_sf T (fun hSF => ?_)
            rw [← hQ]
            exact z_ireturnA C dX11_right_54 (by decide) (Grw.rf.eN rfl) h (fun _ => hSF)
          · have h := (wpO_ite.mp h).2 q22
            refine z_iload C 4 dX11_right_46 rfl ?_
            refine z_iload_n C 3 dX11_right_48 rfl ?_
            refine z_icmp_ge C 55 hx4 hx3 dX11_right_49 (by decide) (fun q23 => ?_) (fun q23 => ?_)
            · have h := (wpO_ite.mp h).1 q23
              refine z_aload_n C 0 dX11_right_55 rfl ?_
              refine z_gIv (v := gI σ 1214 0 0) C li_X11_298 (sg_11 T) rfl dX11_right_56 ?_
              refine z_bipush C dX11_right_59 (by decide) ?_
              refine z_icmp_lt C 67 (hI6 1214 0 _) (by decide) dX11_right_61 (by decide) (fun q24 => ?_) (fun q24 => ?_)
              · have h := (wpO_ite.mp h).1 q24
                refine z_aload_n C 0 dX11_right_67 rfl ?_
                refine z_gA T C li_X11_58 (sg_11 T) dX11_right_68 ?_
                refine z_aload_n C 0 dX11_right_71 rfl ?_
                refine z_gIv (v := gI σ 1214 0 0) C li_X11_298 (sg_11 T) rfl dX11_right_72 ?_
                refine z_sf T (fun hSF => ?_)
                have hp25 : 0 < gN σ 11 := by rw [hSF.2.2.1 11 (by decide)]; decide
                have hp26 : 0 < gN σ 1213 := by rw [hSF.2.2.1 1213 (by decide)]; decide
                refine z_off ?_
                have C1 := C.off
                refine z_new (κ := offK κ) C1 lkn_X11_56 (fun q => noT isF_off q) (csOK_le (csOK_off hcs) (by decide) (by decide)) dX11_right_75 (fun ad2 hA => ?_)
                rw [voA (K2 := 11) (r := some 0) hA (by decide)]
                rw [voA (K2 := 1213) (r := some 0) hA (by decide)]
                have hG1 := (Grw.rf (σ := σ) (ad := ad)).nwO hA
                have hN1 : gN σ 5 < gN (nwO σ 5) 5 := nwO_lt
                generalize e1 : nwO σ 5 = σ2 at hG1 hN1 ⊢
                have h := lt_elim h σ2 e1
                generalize e2 : gN σ 5 = jn at hN1 ⊢
                have h := lt_elim h jn e2
                have hp27 := grO e1 hp25
                have hp28 := grO e1 hp26
                show Z (offK κ) (1, 5) Q0 78 [(0, vo ad2 11 (some 0)), (1, vi x1), (2, vi x2), (3, vi x3), (4, vi x4), (5, vi x5)] [vo ad2 5 (some jn), vi (gI σ 1214 0 0), vo ad2 1213 (some 0)] ad2 σ2
                refine z_rng (fun hI2 hJ2 => ?_)
                refine z_dup C1 dX11_right_78 rfl ?_
                refine z_iload_n C1 1 dX11_right_79 rfl ?_
                refine z_iload_n C1 2 dX11_right_80 rfl ?_
                refine z_iload_n C1 3 dX11_right_81 rfl ?_
                refine z_iload C1 4 dX11_right_82 rfl ?_
                refine z_iload C1 5 dX11_right_84 rfl ?_
                refine z_cI (κ := offK κ) (st := [vo ad2 5 (some jn), vi (gI σ 1214 0 0), vo ad2 1213 (some 0)]) isF_off C1 (ct_X5_init jn x1 x2 x3 x4 x5 hx1 hx2 hx3 hx4 hx5) lm_X11_301 ln_X5_init rfl dX11_right_86 [vi x1, vi x2, vi x3, vi x4, vi x5] rfl rfl rfl hN1 (by decide) (Nat.le_of_ble_eq_true rfl) (csOK_le (csOK_off hcs) (by decide) (by decide)) h (fun _ σ3 ad3 _ hg h => ?_)
                show Z (offK κ) (1, 5) Q0 89 [(0, vo ad2 11 (some 0)), (1, vi x1), (2, vi x2), (3, vi x3), (4, vi x4), (5, vi x5)] [vo ad2 5 (some jn), vi (gI σ 1214 0 0), vo ad2 1213 (some 0)] ad3 σ3
                rw [voG hg hp27]
                rw [voG hg hN1]
                rw [voG hg hp28]
                obtain ⟨hSF3, h⟩ := wpO_ckp.mp h
                refine z_on hSF3 ?_
                refine z_sub [0] rfl ?_
                exact tail ad3 (gI σ 1214 0 0) jn σ3 (hI6 1214 0 _) (hg _ _ hN1).1 (hG1.trans hg) h
              · have h := (wpO_ite.mp h).2 q24
                refine z_bipush C dX11_right_64 (by decide) ?_
                refine z_widen (k := 1) (n := 5) (by decide) (by decide) ?_
                have h := wpO_some.mp h
                refine z_sf T (fun hSF => ?_)
                rw [← hQ]
                exact z_ireturnA C dX11_right_66 (by decide) (Grw.rf.eN rfl) h (fun _ => hSF)
            · have h := (wpO_ite.mp h).2 q23
              refine z_bipush C dX11_right_52 (by decide) ?_
              refine z_widen (k := 1) (n := 5) (by decide) (by decide) ?_
              have h := wpO_some.mp h
              refine z_sf T (fun hSF => ?_)
              rw [← hQ]
              exact z_ireturnA C dX11_right_54 (by decide) (Grw.rf.eN rfl) h (fun _ => hSF)
      · have h := (wpO_ite.mp h).1 q16
        refine z_bipush C dX11_right_28 (by decide) ?_
        refine z_widen (k := 1) (n := 5) (by decide) (by decide) ?_
        have h := wpO_some.mp h
        refine z_sf T (fun hSF => ?_)
        rw [← hQ]
        exact z_ireturnA C dX11_right_30 (by decide) (Grw.rf.eN rfl) h (fun _ => hSF)
