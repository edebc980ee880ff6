noncomputable def fX12_layTimes_j194 (σ1 : St) : Option (Unit × St) :=
  some ((), σ1)
noncomputable def fX12_layTimes_j188 (x1 : Int) (σ1 : St) : Option ((Int × St) ⊕ St) :=
  ck (inr (x1 + 1)) (some (.inl ((x1 + 1, σ1))))
noncomputable def fX12_layTimes_j181 (x1 : Int) (x2 : Int) (s1 : Int) (s2 : Int) (σ1 : St) : Option ((Int × St) ⊕ St) :=
  ck (0 ≤ s1 ∧ s1 < 96) (ck (s2 = 0 ∨ s2 = 1) (ck (inr (x2 + 1)) (some (.inl ((x2 + 1, sI σ1 1377 0 s1.toNat s2))))))
noncomputable def fX12_layTimes_j180 (x1 : Int) (x2 : Int) (s1 : Int) (σ1 : St) : Option ((Int × St) ⊕ St) :=
  fX12_layTimes_j181 x1 x2 s1 0 σ1
noncomputable def fX12_layTimes_j135 (x1 : Int) (x2 : Int) (x4 : Int) (x5 : Int) (s0 : Int) (σ1 : St) : Option ((Int × St) ⊕ St) :=
  ck (inr (8 * x1)) (ck (inr ((8 * x1) + x2)) (if x4 = 0 then (fX12_layTimes_j180 x1 x2 ((8 * x1) + x2) σ1) else (ck (0 ≤ x2 ∧ x2 < 8) (bnd (fX12_arrives x5 s0 (gI σ1 1370 0 x2.toNat) 1 σ1) (fun r19 σ21 => ck (0 ≤ x2 ∧ x2 < 8) (if gI σ21 1371 0 x2.toNat < r19 then (fX12_layTimes_j180 x1 x2 ((8 * x1) + x2) σ21) else (fX12_layTimes_j181 x1 x2 ((8 * x1) + x2) 1 σ21)))))))
noncomputable def fX12_layTimes_j102 (x1 : Int) (x2 : Int) (x3 : Int) (x4 : Int) (s0 : Int) (σ1 : St) : Option ((Int × St) ⊕ St) :=
  if x4 = 0 then (fX12_layTimes_j135 x1 x2 x4 s0 0 σ1) else (if x3 = 0 then (ck (0 ≤ x1 ∧ x1 < 8) (fX12_layTimes_j135 x1 x2 x4 s0 (gI σ1 1371 0 x1.toNat) σ1)) else (ck (inr (x1 - 8)) (ck (0 ≤ x1 - 8 ∧ x1 - 8 < 4) (fX12_layTimes_j135 x1 x2 x4 s0 (gI σ1 1368 0 ((x1 - 8).toNat)) σ1))))
noncomputable def fX12_layTimes_j69 (x1 : Int) (x2 : Int) (x3 : Int) (s0 : Int) (σ1 : St) : Option ((Int × St) ⊕ St) :=
  if s0 = 0 then (fX12_layTimes_j102 x1 x2 x3 s0 0 σ1) else (if x3 = 0 then (ck (0 ≤ x1 ∧ x1 < 8) (fX12_layTimes_j102 x1 x2 x3 s0 (gI σ1 1370 0 x1.toNat) σ1)) else (ck (inr (x1 - 8)) (ck (0 ≤ x1 - 8 ∧ x1 - 8 < 4) (fX12_layTimes_j102 x1 x2 x3 s0 (gI σ1 1367 0 ((x1 - 8).toNat)) σ1))))
noncomputable def fX12_layTimes_j29 (x1 : Int) (x2 : Int) (s0 : Int) (σ1 : St) : Option ((Int × St) ⊕ St) :=
  if s0 = 0 then (if gI σ1 1369 0 0 ≤ x1 then (fX12_layTimes_j69 x1 x2 s0 0 σ1) else (fX12_layTimes_j69 x1 x2 s0 1 σ1)) else (ck (inr (x1 - 8)) (ck (0 ≤ x1 - 8 ∧ x1 - 8 < 4) (if gI σ1 1367 0 ((x1 - 8).toNat) = (-9) then (fX12_layTimes_j69 x1 x2 s0 0 σ1) else (fX12_layTimes_j69 x1 x2 s0 1 σ1))))
noncomputable def fX12_layTimes_l10 (x1 : Int) (x2 : Int) (σ1 : St) : Option ((Int × St) ⊕ St) :=
  if gI σ1 1369 0 0 ≤ x2 then (some (.inr σ1)) else (if x1 < 8 then (fX12_layTimes_j29 x1 x2 0 σ1) else (fX12_layTimes_j29 x1 x2 1 σ1))
noncomputable def fX12_layTimes_j10 (x1 : Int) (x2 : Int) (σ1 : St) : Option ((Int × St) ⊕ St) :=
  bnk (wh (fun s => fX12_layTimes_l10 x1 s.1 s.2) ((x2, σ1))) (fun e => fX12_layTimes_j188 x1 e)
noncomputable def fX12_layTimes_l2 (x1 : Int) (σ1 : St) : Option ((Int × St) ⊕ St) :=
  if 12 ≤ x1 then (some (.inr σ1)) else (fX12_layTimes_j10 x1 0 σ1)
noncomputable def fX12_layTimes_j2 (x1 : Int) (σ1 : St) : Option (Unit × St) :=
  bnk (wh (fun s => fX12_layTimes_l2 s.1 s.2) ((x1, σ1))) (fun e => fX12_layTimes_j194 e)
noncomputable def fX12_layTimes (σ : St) : Option (Unit × St) :=
  fX12_layTimes_j2 0 σ
set_option maxRecDepth 20000 in
set_option maxHeartbeats 4000000 in
theorem ct_X12_layTimes  : Ct yX12_layTimes cX12_layTimes 7 none 2 (fun ad => [vo ad 12 (some 0)]) fX12_layTimes enV okV (fun _ => True) := by
  refine Ct.of (by decide) (fun ad => Nat.le_of_ble_eq_true rfl) ?_
  intro κ ad σ X C T hpre h
  have C : Cx κ RX12 cX12_layTimes 7 none 2 := C
  unfold fX12_layTimes at h
  have J194 : ∀ (σ1 : St), σ1.2.2.2 = σ.2.2.2 → wpO (fX12_layTimes_j194 σ1) (fun q => X q.1 q.2) → Z κ (0, 0) (Qm κ ad σ enV okV X) 194 [] [] ad σ1 := by
    intro σ1 eN1 h
    unfold fX12_layTimes_j194 at h
    refine z_rng (fun hI1 hJ2 => ?_)
    have h := wpO_some.mp h
    exact z_return T C dX12_layTimes_194 eN1 h
  have J2 : ∀ (x1 : Int) (σ1 : St), inr x1 → σ1.2.2.2 = σ.2.2.2 → wpO (fX12_layTimes_j2 x1 σ1) (fun q => X q.1 q.2) → Z κ (0, 0) (Qm κ ad σ enV okV X) 2 [(0, vo ad 12 (some 0)), (1, vi x1)] [] ad σ1 := by
    intro x1 σ1 hx1 eN1 h
    unfold fX12_layTimes_j2 at h
    have step : ∀ (P2 : (Int × St) → Prop) (Q2 : St → Prop), (∀ (x1 : Int) (σ1 : St), P2 ((x1, σ1)) → inr x1 → σ1.2.2.2 = σ.2.2.2 → Z κ (0, 0) (Qm κ ad σ enV okV X) 2 [(0, vo ad 12 (some 0)), (1, vi x1)] [] ad σ1) → (∀ (σ1 : St), Q2 (σ1) → σ1.2.2.2 = σ.2.2.2 → Z κ (0, 0) (Qm κ ad σ enV okV X) 194 [] [] ad σ1) → ∀ (x1 : Int) (σ1 : St), inr x1 → σ1.2.2.2 = σ.2.2.2 → wpO (fX12_layTimes_l2 x1 σ1) (onS P2 Q2) → Z κ (0, 0) (Qm κ ad σ enV okV X) 2 [(0, vo ad 12 (some 0)), (1, vi x1)] [] ad σ1 := by
      intro P2 Q2 hP2 hE2_194 x1 σ1 hx1 eN1 h
      unfold fX12_layTimes_l2 at h
      have J188 : ∀ (x1 : Int) (σ1 : St), inr x1 → σ1.2.2.2 = σ.2.2.2 → wpO (fX12_layTimes_j188 x1 σ1) (onS P2 Q2) → Z κ (0, 0) (Qm κ ad σ enV okV X) 188 [(0, vo ad 12 (some 0)), (1, vi x1)] [] ad σ1 := by
        intro x1 σ1 hx1 eN1 h
        unfold fX12_layTimes_j188 at h
        refine z_rng (fun hI3 hJ4 => ?_)
        obtain ⟨hk5, h⟩ := wpO_ck.mp h
        refine z_iinc (lv2 := [(1, vi (x1 + 1)), (0, vo ad 12 (some 0))]) C 1 dX12_layTimes_188 rfl (by decide) rfl ?_
        refine z_goto C 2 dX12_layTimes_191 (by decide) ?_
        refine z_sub [1, 0] rfl ?_
        have h := wpO_some.mp h
        exact hP2 (x1 + 1) σ1 h hk5 eN1
      have J10 : ∀ (x1 : Int) (x2 : Int) (σ1 : St), inr x1 → inr x2 → σ1.2.2.2 = σ.2.2.2 → wpO (fX12_layTimes_j10 x1 x2 σ1) (onS P2 Q2) → Z κ (0, 0) (Qm κ ad σ enV okV X) 10 [(0, vo ad 12 (some 0)), (1, vi x1), (2, vi x2)] [] ad σ1 := by
        intro x1 x2 σ1 hx1 hx2 eN1 h
        unfold fX12_layTimes_j10 at h
        have step : ∀ (P10 : (Int × St) → Prop) (Q10 : St → Prop), (∀ (x2 : Int) (σ1 : St), P10 ((x2, σ1)) → inr x2 → σ1.2.2.2 = σ.2.2.2 → Z κ (0, 0) (Qm κ ad σ enV okV X) 10 [(0, vo ad 12 (some 0)), (1, vi x1), (2, vi x2)] [] ad σ1) → (∀ (σ1 : St), Q10 (σ1) → σ1.2.2.2 = σ.2.2.2 → Z κ (0, 0) (Qm κ ad σ enV okV X) 188 [(0, vo ad 12 (some 0)), (1, vi x1)] [] ad σ1) → ∀ (x2 : Int) (σ1 : St), inr x2 → σ1.2.2.2 = σ.2.2.2 → wpO (fX12_layTimes_l10 x1 x2 σ1) (onS P10 Q10) → Z κ (0, 0) (Qm κ ad σ enV okV X) 10 [(0, vo ad 12 (some 0)), (1, vi x1), (2, vi x2)] [] ad σ1 := by
          intro P10 Q10 hP10 hE10_188 x2 σ1 hx2 eN1 h
          unfold fX12_layTimes_l10 at h
          have J181 : ∀ (x2 : Int) (s1 : Int) (s2 : Int) (σ1 : St), inr x2 → inr s1 → inr s2 → σ1.2.2.2 = σ.2.2.2 → wpO (fX12_layTimes_j181 x1 x2 s1 s2 σ1) (onS P10 Q10) → Z κ (0, 0) (Qm κ ad σ enV okV X) 181 [(0, vo ad 12 (some 0)), (1, vi x1), (2, vi x2)] [vi s2, vi s1, vo ad 1377 (some 0)] ad σ1 := by
            intro x2 s1 s2 σ1 hx2 hs1 hs2 eN1 h
            unfold fX12_layTimes_j181 at h
            refine z_rng (fun hI6 hJ7 => ?_)
            obtain ⟨hb8, h⟩ := wpO_ck.mp h
            obtain ⟨hb9, h⟩ := wpO_ck.mp h
            refine z_bastore C ar_1377 (sg_1377 T) hs1 hb8 hs2 hb9 dX12_layTimes_181 ?_
            obtain ⟨hk10, h⟩ := wpO_ck.mp h
            refine z_iinc (lv2 := [(2, vi (x2 + 1)), (0, vo ad 12 (some 0)), (1, vi x1)]) C 2 dX12_layTimes_182 rfl (by decide) rfl ?_
            refine z_goto C 10 dX12_layTimes_185 (by decide) ?_
            refine z_sub [1, 2, 0] rfl ?_
            have h := wpO_some.mp h
            exact hP10 (x2 + 1) (sI σ1 1377 0 s1.toNat s2) h hk10 eN1
          have J180 : ∀ (x2 : Int) (s1 : Int) (σ1 : St), inr x2 → inr s1 → σ1.2.2.2 = σ.2.2.2 → wpO (fX12_layTimes_j180 x1 x2 s1 σ1) (onS P10 Q10) → Z κ (0, 0) (Qm κ ad σ enV okV X) 180 [(0, vo ad 12 (some 0)), (1, vi x1), (2, vi x2)] [vi s1, vo ad 1377 (some 0)] ad σ1 := by
            intro x2 s1 σ1 hx2 hs1 eN1 h
            unfold fX12_layTimes_j180 at h
            refine z_rng (fun hI11 hJ12 => ?_)
            refine z_iconst C dX12_layTimes_180 ?_
            exact J181 x2 s1 0 σ1 hx2 hs1 (by decide) eN1 h
          have J135 : ∀ (x2 : Int) (x4 : Int) (x5 : Int) (s0 : Int) (σ1 : St), inr x2 → inr x4 → inr x5 → inr s0 → σ1.2.2.2 = σ.2.2.2 → wpO (fX12_layTimes_j135 x1 x2 x4 x5 s0 σ1) (onS P10 Q10) → Z κ (0, 0) (Qm κ ad σ enV okV X) 135 [(0, vo ad 12 (some 0)), (1, vi x1), (2, vi x2), (4, vi x4), (5, vi x5)] [vi s0] ad σ1 := by
            intro x2 x4 x5 s0 σ1 hx2 hx4 hx5 hs0 eN1 h
            unfold fX12_layTimes_j135 at h
            refine z_rng (fun hI13 hJ14 => ?_)
            refine z_istore (lv2 := [(6, vi s0), (0, vo ad 12 (some 0)), (1, vi x1), (2, vi x2), (4, vi x4), (5, vi x5)]) C dX12_layTimes_135 (by decide) rfl ?_
            refine z_aload_n C 1 dX12_layTimes_137 rfl ?_
            refine z_gA T C li_X12_204 (sg_12 T) dX12_layTimes_138 ?_
            refine z_bipush C dX12_layTimes_141 (by decide) ?_
            refine z_iload_n C 2 dX12_layTimes_143 rfl ?_
            obtain ⟨hk15, h⟩ := wpO_ck.mp h
            refine z_imul C dX12_layTimes_144 ?_
            refine z_iload_n C 3 dX12_layTimes_145 rfl ?_
            obtain ⟨hk16, h⟩ := wpO_ck.mp h
            refine z_iadd C dX12_layTimes_146 ?_
            refine z_iload C 4 dX12_layTimes_147 rfl ?_
            refine z_if_eq C 180 hx4 dX12_layTimes_149 (by decide) (fun q17 => ?_) (fun q17 => ?_)
            · have h := (wpO_ite.mp h).1 q17
              refine z_sub [1, 2, 3] rfl ?_
              exact J180 x2 ((8 * x1) + x2) σ1 hx2 hk16 eN1 h
            · have h := (wpO_ite.mp h).2 q17
              refine z_aload_n C 1 dX12_layTimes_152 rfl ?_
              refine z_iload C 5 dX12_layTimes_153 rfl ?_
              refine z_iload C 0 dX12_layTimes_155 rfl ?_
              refine z_aload_n C 1 dX12_layTimes_157 rfl ?_
              refine z_gA T C li_X12_183 (sg_12 T) dX12_layTimes_158 ?_
              refine z_iload_n C 3 dX12_layTimes_161 rfl ?_
              obtain ⟨hb18, h⟩ := wpO_ck.mp h
              refine z_iav (v := gI σ1 1370 0 x2.toNat) C ar_1370 (sg_1370 T) hx2 hb18 rfl dX12_layTimes_162 ?_
              refine z_iconst C dX12_layTimes_163 ?_
              refine z_cV (st := [vi ((8 * x1) + x2), vo ad 1377 (some 0)]) T C (ct_X12_arrives x5 s0 (gI σ1 1370 0 x2.toNat) 1 hx5 hs0 (hI13 1370 0 _) (by decide)) lm_X12_275 lv_vX12_arrives dX12_layTimes_164 [vi x5, vi s0, vi (gI σ1 1370 0 x2.toNat), vi 1] rfl rfl rfl rfl rfl (sg_12 T) trivial (by decide) (Nat.le_of_ble_eq_true rfl) csOK_0 h (fun r19 σ21 hr20 eN22 h => ?_)
              have eN23 := eN22.trans eN1
              show Z κ (0, 0) _ 167 _ [vi r19, vi ((8 * x1) + x2), vo ad 1377 (some 0)] ad σ21
              refine z_rng (fun hI24 hJ25 => ?_)
              refine z_aload_n C 1 dX12_layTimes_167 rfl ?_
              refine z_gA T C li_X12_186 (sg_12 T) dX12_layTimes_168 ?_
              refine z_iload_n C 3 dX12_layTimes_171 rfl ?_
              obtain ⟨hb26, h⟩ := wpO_ck.mp h
              refine z_iav (v := gI σ21 1371 0 x2.toNat) C ar_1371 (sg_1371 T) hx2 hb26 rfl dX12_layTimes_172 ?_
              refine z_icmp_gt C 180 hr20 (hI24 1371 0 _) dX12_layTimes_173 (by decide) (fun q27 => ?_) (fun q27 => ?_)
              · have h := (wpO_ite.mp h).1 q27
                refine z_sub [1, 2, 3] rfl ?_
                exact J180 x2 ((8 * x1) + x2) σ21 hx2 hk16 eN23 h
              · have h := (wpO_ite.mp h).2 q27
                refine z_iconst C dX12_layTimes_176 ?_
                refine z_goto C 181 dX12_layTimes_177 (by decide) ?_
                refine z_sub [1, 2, 3] rfl ?_
                exact J181 x2 ((8 * x1) + x2) 1 σ21 hx2 hk16 (by decide) eN23 h
          have J102 : ∀ (x2 : Int) (x3 : Int) (x4 : Int) (s0 : Int) (σ1 : St), inr x2 → inr x3 → inr x4 → inr s0 → σ1.2.2.2 = σ.2.2.2 → wpO (fX12_layTimes_j102 x1 x2 x3 x4 s0 σ1) (onS P10 Q10) → Z κ (0, 0) (Qm κ ad σ enV okV X) 102 [(0, vo ad 12 (some 0)), (1, vi x1), (2, vi x2), (3, vi x3), (4, vi x4)] [vi s0] ad σ1 := by
            intro x2 x3 x4 s0 σ1 hx2 hx3 hx4 hs0 eN1 h
            unfold fX12_layTimes_j102 at h
            refine z_rng (fun hI28 hJ29 => ?_)
            refine z_istore (lv2 := [(5, vi s0), (0, vo ad 12 (some 0)), (1, vi x1), (2, vi x2), (3, vi x3), (4, vi x4)]) C dX12_layTimes_102 (by decide) rfl ?_
            refine z_iload C 5 dX12_layTimes_104 rfl ?_
            refine z_if_ne C 113 hx4 dX12_layTimes_106 (by decide) (fun q30 => ?_) (fun q30 => ?_)
            · have h := (wpO_ite.mp h).2 q30
              refine z_iload_n C 4 dX12_layTimes_113 rfl ?_
              refine z_if_eq C 129 hx3 dX12_layTimes_114 (by decide) (fun q31 => ?_) (fun q31 => ?_)
              · have h := (wpO_ite.mp h).1 q31
                refine z_aload_n C 1 dX12_layTimes_129 rfl ?_
                refine z_gA T C li_X12_186 (sg_12 T) dX12_layTimes_130 ?_
                refine z_iload_n C 2 dX12_layTimes_133 rfl ?_
                obtain ⟨hb32, h⟩ := wpO_ck.mp h
                refine z_iav (v := gI σ1 1371 0 x1.toNat) C ar_1371 (sg_1371 T) hx1 hb32 rfl dX12_layTimes_134 ?_
                refine z_sub [1, 2, 3, 5, 0] rfl ?_
                exact J135 x2 x4 s0 (gI σ1 1371 0 x1.toNat) σ1 hx2 hx4 hs0 (hI28 1371 0 _) eN1 h
              · have h := (wpO_ite.mp h).2 q31
                refine z_aload_n C 1 dX12_layTimes_117 rfl ?_
                refine z_gA T C li_X12_180 (sg_12 T) dX12_layTimes_118 ?_
                refine z_iload_n C 2 dX12_layTimes_121 rfl ?_
                refine z_bipush C dX12_layTimes_122 (by decide) ?_
                obtain ⟨hk33, h⟩ := wpO_ck.mp h
                refine z_isub C dX12_layTimes_124 ?_
                obtain ⟨hb34, h⟩ := wpO_ck.mp h
                refine z_iav (v := gI σ1 1368 0 ((x1 - 8).toNat)) C ar_1368 (sg_1368 T) hk33 hb34 rfl dX12_layTimes_125 ?_
                refine z_goto C 135 dX12_layTimes_126 (by decide) ?_
                refine z_sub [1, 2, 3, 5, 0] rfl ?_
                exact J135 x2 x4 s0 (gI σ1 1368 0 ((x1 - 8).toNat)) σ1 hx2 hx4 hs0 (hI28 1368 0 _) eN1 h
            · have h := (wpO_ite.mp h).1 q30
              refine z_iconst C dX12_layTimes_109 ?_
              refine z_goto C 135 dX12_layTimes_110 (by decide) ?_
              refine z_sub [1, 2, 3, 5, 0] rfl ?_
              exact J135 x2 x4 s0 0 σ1 hx2 hx4 hs0 (by decide) eN1 h
          have J69 : ∀ (x2 : Int) (x3 : Int) (s0 : Int) (σ1 : St), inr x2 → inr x3 → inr s0 → σ1.2.2.2 = σ.2.2.2 → wpO (fX12_layTimes_j69 x1 x2 x3 s0 σ1) (onS P10 Q10) → Z κ (0, 0) (Qm κ ad σ enV okV X) 69 [(0, vo ad 12 (some 0)), (1, vi x1), (2, vi x2), (3, vi x3)] [vi s0] ad σ1 := by
            intro x2 x3 s0 σ1 hx2 hx3 hs0 eN1 h
            unfold fX12_layTimes_j69 at h
            refine z_rng (fun hI35 hJ36 => ?_)
            refine z_istore (lv2 := [(4, vi s0), (0, vo ad 12 (some 0)), (1, vi x1), (2, vi x2), (3, vi x3)]) C dX12_layTimes_69 (by decide) rfl ?_
            refine z_iload C 0 dX12_layTimes_71 rfl ?_
            refine z_if_ne C 80 hs0 dX12_layTimes_73 (by decide) (fun q37 => ?_) (fun q37 => ?_)
            · have h := (wpO_ite.mp h).2 q37
              refine z_iload_n C 4 dX12_layTimes_80 rfl ?_
              refine z_if_eq C 96 hx3 dX12_layTimes_81 (by decide) (fun q38 => ?_) (fun q38 => ?_)
              · have h := (wpO_ite.mp h).1 q38
                refine z_aload_n C 1 dX12_layTimes_96 rfl ?_
                refine z_gA T C li_X12_183 (sg_12 T) dX12_layTimes_97 ?_
                refine z_iload_n C 2 dX12_layTimes_100 rfl ?_
                obtain ⟨hb39, h⟩ := wpO_ck.mp h
                refine z_iav (v := gI σ1 1370 0 x1.toNat) C ar_1370 (sg_1370 T) hx1 hb39 rfl dX12_layTimes_101 ?_
                refine z_sub [1, 2, 3, 4, 0] rfl ?_
                exact J102 x2 x3 s0 (gI σ1 1370 0 x1.toNat) σ1 hx2 hx3 hs0 (hI35 1370 0 _) eN1 h
              · have h := (wpO_ite.mp h).2 q38
                refine z_aload_n C 1 dX12_layTimes_84 rfl ?_
                refine z_gA T C li_X12_177 (sg_12 T) dX12_layTimes_85 ?_
                refine z_iload_n C 2 dX12_layTimes_88 rfl ?_
                refine z_bipush C dX12_layTimes_89 (by decide) ?_
                obtain ⟨hk40, h⟩ := wpO_ck.mp h
                refine z_isub C dX12_layTimes_91 ?_
                obtain ⟨hb41, h⟩ := wpO_ck.mp h
                refine z_iav (v := gI σ1 1367 0 ((x1 - 8).toNat)) C ar_1367 (sg_1367 T) hk40 hb41 rfl dX12_layTimes_92 ?_
                refine z_goto C 102 dX12_layTimes_93 (by decide) ?_
                refine z_sub [1, 2, 3, 4, 0] rfl ?_
                exact J102 x2 x3 s0 (gI σ1 1367 0 ((x1 - 8).toNat)) σ1 hx2 hx3 hs0 (hI35 1367 0 _) eN1 h
            · have h := (wpO_ite.mp h).1 q37
              refine z_iconst C dX12_layTimes_76 ?_
              refine z_goto C 102 dX12_layTimes_77 (by decide) ?_
              refine z_sub [1, 2, 3, 4, 0] rfl ?_
              exact J102 x2 x3 s0 0 σ1 hx2 hx3 hs0 (by decide) eN1 h
          have J29 : ∀ (x2 : Int) (s0 : Int) (σ1 : St), inr x2 → inr s0 → σ1.2.2.2 = σ.2.2.2 → wpO (fX12_layTimes_j29 x1 x2 s0 σ1) (onS P10 Q10) → Z κ (0, 0) (Qm κ ad σ enV okV X) 29 [(0, vo ad 12 (some 0)), (1, vi x1), (2, vi x2)] [vi s0] ad σ1 := by
            intro x2 s0 σ1 hx2 hs0 eN1 h
            unfold fX12_layTimes_j29 at h
            refine z_rng (fun hI42 hJ43 => ?_)
            refine z_istore_n (lv2 := [(3, vi s0), (0, vo ad 12 (some 0)), (1, vi x1), (2, vi x2)]) C dX12_layTimes_29 (by decide) rfl ?_
            refine z_iload_n C 0 dX12_layTimes_30 rfl ?_
            refine z_if_eq C 56 hs0 dX12_layTimes_31 (by decide) (fun q44 => ?_) (fun q44 => ?_)
            · have h := (wpO_ite.mp h).1 q44
              refine z_iload_n C 2 dX12_layTimes_56 rfl ?_
              refine z_aload_n C 1 dX12_layTimes_57 rfl ?_
              refine z_gIv (v := gI σ1 1369 0 0) C li_X12_436 (sg_12 T) rfl dX12_layTimes_58 ?_
              refine z_icmp_ge C 68 hx1 (hI42 1369 0 _) dX12_layTimes_61 (by decide) (fun q45 => ?_) (fun q45 => ?_)
              · have h := (wpO_ite.mp h).1 q45
                refine z_iconst C dX12_layTimes_68 ?_
                refine z_sub [1, 2, 3, 0] rfl ?_
                exact J69 x2 s0 0 σ1 hx2 hs0 (by decide) eN1 h
              · have h := (wpO_ite.mp h).2 q45
                refine z_iconst C dX12_layTimes_64 ?_
                refine z_goto C 69 dX12_layTimes_65 (by decide) ?_
                refine z_sub [1, 2, 3, 0] rfl ?_
                exact J69 x2 s0 1 σ1 hx2 hs0 (by decide) eN1 h
            · have h := (wpO_ite.mp h).2 q44
              refine z_aload_n C 1 dX12_layTimes_34 rfl ?_
              refine z_gA T C li_X12_177 (sg_12 T) dX12_layTimes_35 ?_
              refine z_iload_n C 2 dX12_layTimes_38 rfl ?_
              refine z_bipush C dX12_layTimes_39 (by decide) ?_
              obtain ⟨hk46, h⟩ := wpO_ck.mp h
              refine z_isub C dX12_layTimes_41 ?_
              obtain ⟨hb47, h⟩ := wpO_ck.mp h
              refine z_iav (v := gI σ1 1367 0 ((x1 - 8).toNat)) C ar_1367 (sg_1367 T) hk46 hb47 rfl dX12_layTimes_42 ?_
              refine z_bipush C dX12_layTimes_43 (by decide) ?_
              refine z_icmp_eq C 52 (hI42 1367 0 _) (by decide) dX12_layTimes_45 (by decide) (fun q48 => ?_) (fun q48 => ?_)
              · have h := (wpO_ite.mp h).1 q48
                refine z_iconst C dX12_layTimes_52 ?_
                refine z_goto C 69 dX12_layTimes_53 (by decide) ?_
                refine z_sub [1, 2, 3, 0] rfl ?_
                exact J69 x2 s0 0 σ1 hx2 hs0 (by decide) eN1 h
              · have h := (wpO_ite.mp h).2 q48
                refine z_iconst C dX12_layTimes_48 ?_
                refine z_goto C 69 dX12_layTimes_49 (by decide) ?_
                refine z_sub [1, 2, 3, 0] rfl ?_
                exact J69 x2 s0 1 σ1 hx2 hs0 (by decide) eN1 h
          refine z_rng (fun hI49 hJ50 => ?_)
          refine z_iload_n C 2 dX12_layTimes_10 rfl ?_
          refine z_aload_n C 0 dX12_layTimes_11 rfl ?_
          refine z_gIv (v := gI σ1 1369 0 0) C li_X12_436 (sg_12 T) rfl dX12_layTimes_12 ?_
          refine z_icmp_ge C 188 hx2 (hI49 1369 0 _) dX12_layTimes_15 (by decide) (fun q51 => ?_) (fun q51 => ?_)
          · have h := (wpO_ite.mp h).1 q51
            refine z_sub [0, 1] rfl ?_
            have h := wpO_some.mp h
            exact hE10_188 σ1 h eN1
          · have h := (wpO_ite.mp h).2 q51
            refine z_iload_n C 1 dX12_layTimes_18 rfl ?_
            refine z_bipush C dX12_layTimes_19 (by decide) ?_
            refine z_icmp_lt C 28 hx1 (by decide) dX12_layTimes_21 (by decide) (fun q52 => ?_) (fun q52 => ?_)
            · have h := (wpO_ite.mp h).1 q52
              refine z_iconst C dX12_layTimes_28 ?_
              exact J29 x2 0 σ1 hx2 (by decide) eN1 h
            · have h := (wpO_ite.mp h).2 q52
              refine z_iconst C dX12_layTimes_24 ?_
              refine z_goto C 29 dX12_layTimes_25 (by decide) ?_
              exact J29 x2 1 σ1 hx2 (by decide) eN1 h
        exact wh_ind (P := fun s : (Int × St) => inr s.1 → s.2.2.2.2 = σ.2.2.2 → Z κ (0, 0) (Qm κ ad σ enV okV X) 10 [(0, vo ad 12 (some 0)), (1, vi x1), (2, vi s.1)] [] ad s.2) (fun s hs g0 g1 => step _ _ (fun _ _ hp => hp) (fun σ1 hq eN1 => J188 x1 σ1 hx1 eN1 hq) s.1 s.2 g0 g1 hs) ((x2, σ1)) (wpO_bnk.mp h) hx2 eN1
      refine z_rng (fun hI53 hJ54 => ?_)
      refine z_iload_n C 1 dX12_layTimes_2 rfl ?_
      refine z_bipush C dX12_layTimes_3 (by decide) ?_
      refine z_icmp_ge C 194 hx1 (by decide) dX12_layTimes_5 (by decide) (fun q55 => ?_) (fun q55 => ?_)
      · have h := (wpO_ite.mp h).1 q55
        refine z_sub [] rfl ?_
        have h := wpO_some.mp h
        exact hE2_194 σ1 h eN1
      · have h := (wpO_ite.mp h).2 q55
        refine z_iconst C dX12_layTimes_8 ?_
        refine z_istore_n (lv2 := [(2, vi 0), (0, vo ad 12 (some 0)), (1, vi x1)]) C dX12_layTimes_9 (by decide) rfl ?_
        refine z_sub [1, 2, 0] rfl ?_
        exact J10 x1 0 σ1 hx1 (by decide) eN1 h
    exact wh_ind (P := fun s : (Int × St) => inr s.1 → s.2.2.2.2 = σ.2.2.2 → Z κ (0, 0) (Qm κ ad σ enV okV X) 2 [(0, vo ad 12 (some 0)), (1, vi s.1)] [] ad s.2) (fun s hs g0 g1 => step _ _ (fun _ _ hp => hp) (fun σ1 hq eN1 => J194 σ1 eN1 hq) s.1 s.2 g0 g1 hs) ((x1, σ1)) (wpO_bnk.mp h) hx1 eN1
  show Z κ (0, 0) (Qm κ ad σ enV okV X) 0 [(0, vo ad 12 (some 0))] [] ad σ
  refine z_rng (fun hI56 hJ57 => ?_)
  refine z_iconst C dX12_layTimes_0 ?_
  refine z_istore_n (lv2 := [(1, vi 0), (0, vo ad 12 (some 0))]) C dX12_layTimes_1 (by decide) rfl ?_
  refine z_sub [1, 0] rfl ?_
  exact J2 0 σ (by decide) rfl h
noncomputable def fX12_canGoTo_j62 (σ : St) : Option Int :=
  some 1
noncomputable def fX12_canGoTo_j51 (σ : St) : Option Int :=
  some 0
noncomputable def fX12_canGoTo_j56 (x2 : Int) (x3 : Int) (x4 : Int) (σ : St) : Option ((Int × Int) ⊕ (Unit ⊕ Unit)) :=
  ck (inr (x4 + 1)) (some (.inl ((x3, x4 + 1))))
noncomputable def fX12_canGoTo_l8 (x2 : Int) (σ : St) (x3 : Int) (x4 : Int) : Option ((Int × Int) ⊕ (Unit ⊕ Unit)) :=
  if gI σ 1369 0 0 ≤ x4 then (some (.inr (.inr (())))) else (ck (0 ≤ x4 ∧ x4 < 8) (if iand (ishr x2 (gI σ 1376 0 x4.toNat)) 1 = 1 then (ck (inr (8 * x3)) (ck (inr ((8 * x3) + (gI σ 1376 0 x4.toNat))) (ck (0 ≤ (8 * x3) + (gI σ 1376 0 x4.toNat) ∧ (8 * x3) + (gI σ 1376 0 x4.toNat) < 96) (if gI σ 1377 0 (((8 * x3) + (gI σ 1376 0 x4.toNat)).toNat) = 0 then (some (.inr (.inl (())))) else (fX12_canGoTo_j56 x2 (gI σ 1376 0 x4.toNat) x4 σ))))) else (fX12_canGoTo_j56 x2 x3 x4 σ)))
noncomputable def fX12_canGoTo_j8 (x2 : Int) (x3 : Int) (x4 : Int) (σ : St) : Option Int :=
  bnk (wh (fun s => fX12_canGoTo_l8 x2 σ s.1 s.2) ((x3, x4))) (fun e => Sum.elim (fun a0 => fX12_canGoTo_j51 σ) (fun b0 => fX12_canGoTo_j62 σ) e)
noncomputable def fX12_canGoTo (x1 : Int) (x2 : Int) (σ : St) : Option Int :=
  ck (inr (8 + x1)) (fX12_canGoTo_j8 x2 (8 + x1) 0 σ)
set_option maxRecDepth 20000 in
set_option maxHeartbeats 4000000 in
theorem ct_X12_canGoTo (x1 : Int) (x2 : Int) (hx1 : inr x1) (hx2 : inr x2) : Ct yX12_canGoTo cX12_canGoTo 6 (some .boolean) 0 (fun ad => [vo ad 12 (some 0), vi x1, vi x2]) (pu (fX12_canGoTo x1 x2)) enI okB (fun _ => True) := by
  refine Ct.of (by decide) (fun ad => Nat.le_of_ble_eq_true rfl) ?_
  intro κ ad σ X C T hpre h
  have C : Cx κ RX12 cX12_canGoTo 6 (some .boolean) 0 := C
  have h := wpO_pu.mp h
  unfold fX12_canGoTo at h
  have J62 : wpO (fX12_canGoTo_j62 σ) (fun r => X r σ) → Z κ (0, 0) (Qm κ ad σ enI okB X) 62 [] [] ad σ := by
    intro h
    unfold fX12_canGoTo_j62 at h
    refine z_rng (fun hI1 hJ2 => ?_)
    refine z_iconst C dX12_canGoTo_62 ?_
    have h := wpO_some.mp h
    exact z_breturn T C dX12_canGoTo_63 (by decide) rfl h
  have J51 : wpO (fX12_canGoTo_j51 σ) (fun r => X r σ) → Z κ (0, 0) (Qm κ ad σ enI okB X) 51 [] [] ad σ := by
    intro h
    unfold fX12_canGoTo_j51 at h
    refine z_rng (fun hI3 hJ4 => ?_)
    refine z_iconst C dX12_canGoTo_51 ?_
    have h := wpO_some.mp h
    exact z_breturn T C dX12_canGoTo_52 (by decide) rfl h
  have J8 : ∀ (x2 : Int) (x3 : Int) (x4 : Int), inr x2 → inr x3 → inr x4 → wpO (fX12_canGoTo_j8 x2 x3 x4 σ) (fun r => X r σ) → Z κ (0, 0) (Qm κ ad σ enI okB X) 8 [(0, vo ad 12 (some 0)), (2, vi x2), (3, vi x3), (4, vi x4)] [] ad σ := by
    intro x2 x3 x4 hx2 hx3 hx4 h
    unfold fX12_canGoTo_j8 at h
    have step : ∀ (P8 : (Int × Int) → Prop) (Q8 : (Unit ⊕ Unit) → Prop), (∀ (x3 : Int) (x4 : Int), P8 ((x3, x4)) → inr x3 → inr x4 → Z κ (0, 0) (Qm κ ad σ enI okB X) 8 [(0, vo ad 12 (some 0)), (2, vi x2), (3, vi x3), (4, vi x4)] [] ad σ) → (Q8 (.inl (())) → Z κ (0, 0) (Qm κ ad σ enI okB X) 51 [] [] ad σ) → (Q8 (.inr (())) → Z κ (0, 0) (Qm κ ad σ enI okB X) 62 [] [] ad σ) → ∀ (x3 : Int) (x4 : Int), inr x3 → inr x4 → wpO (fX12_canGoTo_l8 x2 σ x3 x4) (onS P8 Q8) → Z κ (0, 0) (Qm κ ad σ enI okB X) 8 [(0, vo ad 12 (some 0)), (2, vi x2), (3, vi x3), (4, vi x4)] [] ad σ := by
      intro P8 Q8 hP8 hE8_51 hE8_62 x3 x4 hx3 hx4 h
      unfold fX12_canGoTo_l8 at h
      have J56 : ∀ (x3 : Int) (x4 : Int), inr x3 → inr x4 → wpO (fX12_canGoTo_j56 x2 x3 x4 σ) (onS P8 Q8) → Z κ (0, 0) (Qm κ ad σ enI okB X) 56 [(0, vo ad 12 (some 0)), (2, vi x2), (3, vi x3), (4, vi x4)] [] ad σ := by
        intro x3 x4 hx3 hx4 h
        unfold fX12_canGoTo_j56 at h
        refine z_rng (fun hI5 hJ6 => ?_)
        obtain ⟨hk7, h⟩ := wpO_ck.mp h
        refine z_iinc (lv2 := [(4, vi (x4 + 1)), (0, vo ad 12 (some 0)), (2, vi x2), (3, vi x3)]) C 3 dX12_canGoTo_56 rfl (by decide) rfl ?_
        refine z_goto C 8 dX12_canGoTo_59 (by decide) ?_
        refine z_sub [1, 2, 3, 0] rfl ?_
        have h := wpO_some.mp h
        exact hP8 x3 (x4 + 1) h hx3 hk7
      refine z_rng (fun hI8 hJ9 => ?_)
      refine z_iload C 3 dX12_canGoTo_8 rfl ?_
      refine z_aload_n C 0 dX12_canGoTo_10 rfl ?_
      refine z_gIv (v := gI σ 1369 0 0) C li_X12_436 (sg_12 T) rfl dX12_canGoTo_11 ?_
      refine z_icmp_ge C 62 hx4 (hI8 1369 0 _) dX12_canGoTo_14 (by decide) (fun q10 => ?_) (fun q10 => ?_)
      · have h := (wpO_ite.mp h).1 q10
        refine z_sub [] rfl ?_
        have h := wpO_some.mp h
        exact hE8_62 h
      · have h := (wpO_ite.mp h).2 q10
        refine z_aload_n C 0 dX12_canGoTo_17 rfl ?_
        refine z_gA T C li_X12_201 (sg_12 T) dX12_canGoTo_18 ?_
        refine z_iload C 3 dX12_canGoTo_21 rfl ?_
        obtain ⟨hb11, h⟩ := wpO_ck.mp h
        refine z_iav (v := gI σ 1376 0 x4.toNat) C ar_1376 (sg_1376 T) hx4 hb11 rfl dX12_canGoTo_23 ?_
        refine z_istore (lv2 := [(5, vi (gI σ 1376 0 x4.toNat)), (0, vo ad 12 (some 0)), (2, vi x2), (3, vi x3), (4, vi x4)]) C dX12_canGoTo_24 (by decide) rfl ?_
        refine z_iload_n C 2 dX12_canGoTo_26 rfl ?_
        refine z_iload C 0 dX12_canGoTo_27 rfl ?_
        refine z_ishr C dX12_canGoTo_29 ?_
        refine z_iconst C dX12_canGoTo_30 ?_
        refine z_iand C dX12_canGoTo_31 ?_
        refine z_iconst C dX12_canGoTo_32 ?_
        refine z_icmp_ne C 56 (inr_iand _ _) (by decide) dX12_canGoTo_33 (by decide) (fun q12 => ?_) (fun q12 => ?_)
        · have h := (wpO_ite.mp h).2 q12
          refine z_sub [1, 2, 3, 4] rfl ?_
          exact J56 x3 x4 hx3 hx4 h
        · have h := (wpO_ite.mp h).1 q12
          refine z_aload_n C 1 dX12_canGoTo_36 rfl ?_
          refine z_gA T C li_X12_204 (sg_12 T) dX12_canGoTo_37 ?_
          refine z_bipush C dX12_canGoTo_40 (by decide) ?_
          refine z_iload_n C 3 dX12_canGoTo_42 rfl ?_
          obtain ⟨hk13, h⟩ := wpO_ck.mp h
          refine z_imul C dX12_canGoTo_43 ?_
          refine z_iload C 0 dX12_canGoTo_44 rfl ?_
          obtain ⟨hk14, h⟩ := wpO_ck.mp h
          refine z_iadd C dX12_canGoTo_46 ?_
          obtain ⟨hb15, h⟩ := wpO_ck.mp h
          refine z_bav (v := gI σ 1377 0 (((8 * x3) + (gI σ 1376 0 x4.toNat)).toNat)) C ar_1377 (sg_1377 T) hk14 hb15 rfl dX12_canGoTo_47 ?_
          refine z_if_ne C 53 (hI8 1377 0 _) dX12_canGoTo_48 (by decide) (fun q16 => ?_) (fun q16 => ?_)
          · have h := (wpO_ite.mp h).2 q16
            refine z_iload C 0 dX12_canGoTo_53 rfl ?_
            refine z_istore_n (lv2 := [(3, vi (gI σ 1376 0 x4.toNat)), (5, vi (gI σ 1376 0 x4.toNat)), (0, vo ad 12 (some 0)), (2, vi x2), (4, vi x4)]) C dX12_canGoTo_55 (by decide) rfl ?_
            refine z_sub [2, 3, 0, 4] rfl ?_
            exact J56 (gI σ 1376 0 x4.toNat) x4 (hI8 1376 0 _) hx4 h
          · have h := (wpO_ite.mp h).1 q16
            refine z_sub [] rfl ?_
            have h := wpO_some.mp h
            exact hE8_51 h
    exact wh_ind (P := fun s : (Int × Int) => inr s.1 → inr s.2 → Z κ (0, 0) (Qm κ ad σ enI okB X) 8 [(0, vo ad 12 (some 0)), (2, vi x2), (3, vi s.1), (4, vi s.2)] [] ad σ) (fun s hs g0 g1 => step _ _ (fun _ _ hp => hp) (fun hq => J51 hq) (fun hq => J62 hq) s.1 s.2 g0 g1 hs) ((x3, x4)) (wpO_bnk.mp h) hx3 hx4
  show Z κ (0, 0) (Qm κ ad σ enI okB X) 0 [(0, vo ad 12 (some 0)), (1, vi x1), (2, vi x2)] [] ad σ
  refine z_rng (fun hI17 hJ18 => ?_)
  refine z_bipush C dX12_canGoTo_0 (by decide) ?_
  refine z_iload_n C 1 dX12_canGoTo_2 rfl ?_
  obtain ⟨hk19, h⟩ := wpO_ck.mp h
  refine z_iadd C dX12_canGoTo_3 ?_
  refine z_istore_n (lv2 := [(3, vi (8 + x1)), (0, vo ad 12 (some 0)), (1, vi x1), (2, vi x2)]) C dX12_canGoTo_4 (by decide) rfl ?_
  refine z_iconst C dX12_canGoTo_5 ?_
  refine z_istore (lv2 := [(4, vi 0), (3, vi (8 + x1)), (0, vo ad 12 (some 0)), (1, vi x1), (2, vi x2)]) C dX12_canGoTo_6 (by decide) rfl ?_
  refine z_sub [2, 4, 1, 0] rfl ?_
  exact J8 x2 (8 + x1) 0 hx2 hk19 (by decide) h
noncomputable def fX12_layCovers_j220 (σ1 : St) : Option (Unit × St) :=
  some ((), σ1)
noncomputable def fX12_layCovers_j214 (x1 : Int) (x2 : Int) (σ1 : St) : Option ((Int × St) ⊕ St) :=
  ck (inr (x2 + 1)) (some (.inl ((x2 + 1, σ1))))
noncomputable def fX12_layCovers_l191 (x1 : Int) (x2 : Int) (x3 : Int) (σ1 : St) : Option ((Int × St) ⊕ St) :=
  if x1 ≤ x3 then (some (.inr σ1)) else (ck (0 ≤ x3 ∧ x3 < 256) (ck (0 ≤ x3 ∧ x3 < 256) (ck (gI σ1 1375 0 x3.toNat = 0 ∨ gI σ1 1375 0 x3.toNat = 1) (ck (inr (x3 + 1)) (some (.inl ((x3 + 1, sI σ1 1374 0 x3.toNat (gI σ1 1375 0 x3.toNat)))))))))
noncomputable def fX12_layCovers_j191 (x1 : Int) (x2 : Int) (x3 : Int) (σ1 : St) : Option ((Int × St) ⊕ St) :=
  bnk (wh (fun s => fX12_layCovers_l191 x1 x2 s.1 s.2) ((x3, σ1))) (fun e => fX12_layCovers_j214 x1 x2 e)
noncomputable def fX12_layCovers_j189 (x1 : Int) (x2 : Int) (σ1 : St) : Option ((Int × St) ⊕ St) :=
  fX12_layCovers_j191 x1 x2 0 σ1
noncomputable def fX12_layCovers_j183 (x1 : Int) (x2 : Int) (x3 : Int) (σ1 : St) : Option ((Int × St) ⊕ St) :=
  ck (inr (x3 + 1)) (some (.inl ((x3 + 1, σ1))))
noncomputable def fX12_layCovers_j178 (x1 : Int) (x2 : Int) (x3 : Int) (s0 : Int) (σ1 : St) : Option ((Int × St) ⊕ St) :=
  some (.inl ((s0, σ1)))
noncomputable def fX12_layCovers_j162 (x1 : Int) (x2 : Int) (x3 : Int) (x4 : Int) (s1 : Int) (s2 : Int) (σ1 : St) : Option ((Int × St) ⊕ St) :=
  ck (0 ≤ s1 ∧ s1 < 256) (ck (s2 = 0 ∨ s2 = 1) (if x4 = 0 then (fX12_layCovers_j178 x1 x2 x3 ((-1)) (sI σ1 1375 0 s1.toNat s2)) else (ck (inr (x4 - 1)) (fX12_layCovers_j178 x1 x2 x3 (iand (x4 - 1) x3) (sI σ1 1375 0 s1.toNat s2)))))
noncomputable def fX12_layCovers_j161 (x1 : Int) (x2 : Int) (x3 : Int) (x4 : Int) (s1 : Int) (σ1 : St) : Option ((Int × St) ⊕ St) :=
  fX12_layCovers_j162 x1 x2 x3 x4 s1 0 σ1
noncomputable def fX12_layCovers_l108 (x1 : Int) (x2 : Int) (x3 : Int) (x4 : Int) (σ1 : St) : Option ((Int × St) ⊕ St) :=
  if x4 < 0 then (some (.inr σ1)) else (ck (0 ≤ x3 ∧ x3 < 256) (if gI σ1 1375 0 x3.toNat = 0 then (ck (inr (256 * x2)) (ck (inr ((256 * x2) + x4)) (ck (0 ≤ (256 * x2) + x4 ∧ (256 * x2) + x4 < 1024) (if gI σ1 1373 0 (((256 * x2) + x4).toNat) = 0 then (fX12_layCovers_j161 x1 x2 x3 x4 x3 σ1) else (ck (0 ≤ iand x3 (ixor x4 ((-1))) ∧ iand x3 (ixor x4 ((-1))) < 256) (if gI σ1 1374 0 ((iand x3 (ixor x4 ((-1)))).toNat) = 0 then (fX12_layCovers_j161 x1 x2 x3 x4 x3 σ1) else (fX12_layCovers_j162 x1 x2 x3 x4 x3 1 σ1))))))) else (some (.inr σ1))))
noncomputable def fX12_layCovers_j108 (x1 : Int) (x2 : Int) (x3 : Int) (x4 : Int) (σ1 : St) : Option ((Int × St) ⊕ St) :=
  bnk (wh (fun s => fX12_layCovers_l108 x1 x2 x3 s.1 s.2) ((x4, σ1))) (fun e => fX12_layCovers_j183 x1 x2 x3 e)
noncomputable def fX12_layCovers_l93 (x1 : Int) (x2 : Int) (x3 : Int) (σ1 : St) : Option ((Int × St) ⊕ St) :=
  if x1 ≤ x3 then (some (.inr σ1)) else (ck (0 ≤ x3 ∧ x3 < 256) (fX12_layCovers_j108 x1 x2 x3 x3 (sI σ1 1375 0 x3.toNat 0)))
noncomputable def fX12_layCovers_j93 (x1 : Int) (x2 : Int) (x3 : Int) (σ1 : St) : Option ((Int × St) ⊕ St) :=
  bnk (wh (fun s => fX12_layCovers_l93 x1 x2 s.1 s.2) ((x3, σ1))) (fun e => fX12_layCovers_j189 x1 x2 e)
noncomputable def fX12_layCovers_l86 (x1 : Int) (x2 : Int) (σ1 : St) : Option ((Int × St) ⊕ St) :=
  if 4 ≤ x2 then (some (.inr σ1)) else (fX12_layCovers_j93 x1 x2 0 σ1)
noncomputable def fX12_layCovers_j86 (x1 : Int) (x2 : Int) (σ1 : St) : Option (Unit × St) :=
  bnk (wh (fun s => fX12_layCovers_l86 x1 s.1 s.2) ((x2, σ1))) (fun e => fX12_layCovers_j220 e)
noncomputable def fX12_layCovers_j84 (x1 : Int) (σ1 : St) : Option (Unit × St) :=
  fX12_layCovers_j86 x1 0 σ1
noncomputable def fX12_layCovers_j77 (x1 : Int) (x2 : Int) (s1 : Int) (s2 : Int) (σ1 : St) : Option ((Int × St) ⊕ St) :=
  ck (0 ≤ s1 ∧ s1 < 256) (ck (s2 = 0 ∨ s2 = 1) (ck (inr (x2 + 1)) (some (.inl ((x2 + 1, sI σ1 1374 0 s1.toNat s2))))))
noncomputable def fX12_layCovers_l58 (x1 : Int) (x2 : Int) (σ1 : St) : Option ((Int × St) ⊕ St) :=
  if x1 ≤ x2 then (some (.inr σ1)) else (if x2 = 0 then (fX12_layCovers_j77 x1 x2 x2 1 σ1) else (fX12_layCovers_j77 x1 x2 x2 0 σ1))
noncomputable def fX12_layCovers_j58 (x1 : Int) (x2 : Int) (σ1 : St) : Option (Unit × St) :=
  bnk (wh (fun s => fX12_layCovers_l58 x1 s.1 s.2) ((x2, σ1))) (fun e => fX12_layCovers_j84 x1 e)
noncomputable def fX12_layCovers_j56 (x1 : Int) (σ1 : St) : Option (Unit × St) :=
  fX12_layCovers_j58 x1 0 σ1
noncomputable def fX12_layCovers_l17 (x1 : Int) (x2 : Int) (σ1 : St) : Option ((Int × St) ⊕ St) :=
  ck (inr (4 * x1)) (if 4 * x1 ≤ x2 then (some (.inr σ1)) else (ck (¬ x1 = 0) (ck (inr (256 * (idiv x2 x1))) (ck (¬ x1 = 0) (ck (inr ((256 * (idiv x2 x1)) + (irem x2 x1))) (ck (¬ x1 = 0) (ck (¬ x1 = 0) (bnk (fX12_canGoTo (idiv x2 x1) (irem x2 x1) σ1) (fun r69 => ck (0 ≤ (256 * (idiv x2 x1)) + (irem x2 x1) ∧ (256 * (idiv x2 x1)) + (irem x2 x1) < 1024) (ck (inr (x2 + 1)) (some (.inl ((x2 + 1, sI σ1 1373 0 (((256 * (idiv x2 x1)) + (irem x2 x1)).toNat) r69))))))))))))))
noncomputable def fX12_layCovers_j17 (x1 : Int) (x2 : Int) (σ1 : St) : Option (Unit × St) :=
  bnk (wh (fun s => fX12_layCovers_l17 x1 s.1 s.2) ((x2, σ1))) (fun e => fX12_layCovers_j56 x1 e)
noncomputable def fX12_layCovers (σ : St) : Option (Unit × St) :=
  bnd (fX12_layOrder σ) (fun _ σ77 => bnd (fX12_layTimes σ77) (fun _ σ83 => fX12_layCovers_j17 (ishl 1 (gI σ83 1369 0 0)) 0 σ83))
set_option maxRecDepth 20000 in
set_option maxHeartbeats 4000000 in
theorem ct_X12_layCovers  : Ct yX12_layCovers cX12_layCovers 5 none 3 (fun ad => [vo ad 12 (some 0)]) fX12_layCovers enV okV (fun _ => True) := by
  refine Ct.of (by decide) (fun ad => Nat.le_of_ble_eq_true rfl) ?_
  intro κ ad σ X C T hpre h
  have C : Cx κ RX12 cX12_layCovers 5 none 3 := C
  unfold fX12_layCovers at h
  have J220 : ∀ (σ1 : St), σ1.2.2.2 = σ.2.2.2 → wpO (fX12_layCovers_j220 σ1) (fun q => X q.1 q.2) → Z κ (0, 0) (Qm κ ad σ enV okV X) 220 [] [] ad σ1 := by
    intro σ1 eN1 h
    unfold fX12_layCovers_j220 at h
    refine z_rng (fun hI1 hJ2 => ?_)
    have h := wpO_some.mp h
    exact z_return T C dX12_layCovers_220 eN1 h
  have J86 : ∀ (x1 : Int) (x2 : Int) (σ1 : St), inr x1 → inr x2 → σ1.2.2.2 = σ.2.2.2 → wpO (fX12_layCovers_j86 x1 x2 σ1) (fun q => X q.1 q.2) → Z κ (0, 0) (Qm κ ad σ enV okV X) 86 [(0, vo ad 12 (some 0)), (1, vi x1), (2, vi x2)] [] ad σ1 := by
    intro x1 x2 σ1 hx1 hx2 eN1 h
    unfold fX12_layCovers_j86 at h
    have step : ∀ (P86 : (Int × St) → Prop) (Q86 : St → Prop), (∀ (x2 : Int) (σ1 : St), P86 ((x2, σ1)) → inr x2 → σ1.2.2.2 = σ.2.2.2 → Z κ (0, 0) (Qm κ ad σ enV okV X) 86 [(0, vo ad 12 (some 0)), (1, vi x1), (2, vi x2)] [] ad σ1) → (∀ (σ1 : St), Q86 (σ1) → σ1.2.2.2 = σ.2.2.2 → Z κ (0, 0) (Qm κ ad σ enV okV X) 220 [] [] ad σ1) → ∀ (x2 : Int) (σ1 : St), inr x2 → σ1.2.2.2 = σ.2.2.2 → wpO (fX12_layCovers_l86 x1 x2 σ1) (onS P86 Q86) → Z κ (0, 0) (Qm κ ad σ enV okV X) 86 [(0, vo ad 12 (some 0)), (1, vi x1), (2, vi x2)] [] ad σ1 := by
      intro P86 Q86 hP86 hE86_220 x2 σ1 hx2 eN1 h
      unfold fX12_layCovers_l86 at h
      have J214 : ∀ (x2 : Int) (σ1 : St), inr x2 → σ1.2.2.2 = σ.2.2.2 → wpO (fX12_layCovers_j214 x1 x2 σ1) (onS P86 Q86) → Z κ (0, 0) (Qm κ ad σ enV okV X) 214 [(0, vo ad 12 (some 0)), (1, vi x1), (2, vi x2)] [] ad σ1 := by
        intro x2 σ1 hx2 eN1 h
        unfold fX12_layCovers_j214 at h
        refine z_rng (fun hI3 hJ4 => ?_)
        obtain ⟨hk5, h⟩ := wpO_ck.mp h
        refine z_iinc (lv2 := [(2, vi (x2 + 1)), (0, vo ad 12 (some 0)), (1, vi x1)]) C 2 dX12_layCovers_214 rfl (by decide) rfl ?_
        refine z_goto C 86 dX12_layCovers_217 (by decide) ?_
        refine z_sub [1, 2, 0] rfl ?_
        have h := wpO_some.mp h
        exact hP86 (x2 + 1) σ1 h hk5 eN1
      have J191 : ∀ (x2 : Int) (x3 : Int) (σ1 : St), inr x2 → inr x3 → σ1.2.2.2 = σ.2.2.2 → wpO (fX12_layCovers_j191 x1 x2 x3 σ1) (onS P86 Q86) → Z κ (0, 0) (Qm κ ad σ enV okV X) 191 [(0, vo ad 12 (some 0)), (1, vi x1), (2, vi x2), (3, vi x3)] [] ad σ1 := by
        intro x2 x3 σ1 hx2 hx3 eN1 h
        unfold fX12_layCovers_j191 at h
        have step : ∀ (P191 : (Int × St) → Prop) (Q191 : St → Prop), (∀ (x3 : Int) (σ1 : St), P191 ((x3, σ1)) → inr x3 → σ1.2.2.2 = σ.2.2.2 → Z κ (0, 0) (Qm κ ad σ enV okV X) 191 [(0, vo ad 12 (some 0)), (1, vi x1), (2, vi x2), (3, vi x3)] [] ad σ1) → (∀ (σ1 : St), Q191 (σ1) → σ1.2.2.2 = σ.2.2.2 → Z κ (0, 0) (Qm κ ad σ enV okV X) 214 [(0, vo ad 12 (some 0)), (1, vi x1), (2, vi x2)] [] ad σ1) → ∀ (x3 : Int) (σ1 : St), inr x3 → σ1.2.2.2 = σ.2.2.2 → wpO (fX12_layCovers_l191 x1 x2 x3 σ1) (onS P191 Q191) → Z κ (0, 0) (Qm κ ad σ enV okV X) 191 [(0, vo ad 12 (some 0)), (1, vi x1), (2, vi x2), (3, vi x3)] [] ad σ1 := by
          intro P191 Q191 hP191 hE191_214 x3 σ1 hx3 eN1 h
          unfold fX12_layCovers_l191 at h
          refine z_rng (fun hI6 hJ7 => ?_)
          refine z_iload_n C 3 dX12_layCovers_191 rfl ?_
          refine z_iload_n C 1 dX12_layCovers_192 rfl ?_
          refine z_icmp_ge C 214 hx3 hx1 dX12_layCovers_193 (by decide) (fun q8 => ?_) (fun q8 => ?_)
          · have h := (wpO_ite.mp h).1 q8
            refine z_sub [0, 1, 2] rfl ?_
            have h := wpO_some.mp h
            exact hE191_214 σ1 h eN1
          · have h := (wpO_ite.mp h).2 q8
            refine z_aload_n C 0 dX12_layCovers_196 rfl ?_
            refine z_gA T C li_X12_195 (sg_12 T) dX12_layCovers_197 ?_
            refine z_iload_n C 3 dX12_layCovers_200 rfl ?_
            refine z_aload_n C 0 dX12_layCovers_201 rfl ?_
            refine z_gA T C li_X12_198 (sg_12 T) dX12_layCovers_202 ?_
            refine z_iload_n C 3 dX12_layCovers_205 rfl ?_
            obtain ⟨hb9, h⟩ := wpO_ck.mp h
            refine z_bav (v := gI σ1 1375 0 x3.toNat) C ar_1375 (sg_1375 T) hx3 hb9 rfl dX12_layCovers_206 ?_
            obtain ⟨hb10, h⟩ := wpO_ck.mp h
            obtain ⟨hb11, h⟩ := wpO_ck.mp h
            refine z_bastore C ar_1374 (sg_1374 T) hx3 hb10 (hI6 1375 0 _) hb11 dX12_layCovers_207 ?_
            obtain ⟨hk12, h⟩ := wpO_ck.mp h
            refine z_iinc (lv2 := [(3, vi (x3 + 1)), (0, vo ad 12 (some 0)), (1, vi x1), (2, vi x2)]) C 3 dX12_layCovers_208 rfl (by decide) rfl ?_
            refine z_goto C 191 dX12_layCovers_211 (by decide) ?_
            refine z_sub [1, 2, 3, 0] rfl ?_
            have h := wpO_some.mp h
            exact hP191 (x3 + 1) (sI σ1 1374 0 x3.toNat (gI σ1 1375 0 x3.toNat)) h hk12 eN1
        exact wh_ind (P := fun s : (Int × St) => inr s.1 → s.2.2.2.2 = σ.2.2.2 → Z κ (0, 0) (Qm κ ad σ enV okV X) 191 [(0, vo ad 12 (some 0)), (1, vi x1), (2, vi x2), (3, vi s.1)] [] ad s.2) (fun s hs g0 g1 => step _ _ (fun _ _ hp => hp) (fun σ1 hq eN1 => J214 x2 σ1 hx2 eN1 hq) s.1 s.2 g0 g1 hs) ((x3, σ1)) (wpO_bnk.mp h) hx3 eN1
      have J189 : ∀ (x2 : Int) (σ1 : St), inr x2 → σ1.2.2.2 = σ.2.2.2 → wpO (fX12_layCovers_j189 x1 x2 σ1) (onS P86 Q86) → Z κ (0, 0) (Qm κ ad σ enV okV X) 189 [(0, vo ad 12 (some 0)), (1, vi x1), (2, vi x2)] [] ad σ1 := by
        intro x2 σ1 hx2 eN1 h
        unfold fX12_layCovers_j189 at h
        refine z_rng (fun hI13 hJ14 => ?_)
        refine z_iconst C dX12_layCovers_189 ?_
        refine z_istore_n (lv2 := [(3, vi 0), (0, vo ad 12 (some 0)), (1, vi x1), (2, vi x2)]) C dX12_layCovers_190 (by decide) rfl ?_
        refine z_sub [1, 2, 3, 0] rfl ?_
        exact J191 x2 0 σ1 hx2 (by decide) eN1 h
      have J93 : ∀ (x2 : Int) (x3 : Int) (σ1 : St), inr x2 → inr x3 → σ1.2.2.2 = σ.2.2.2 → wpO (fX12_layCovers_j93 x1 x2 x3 σ1) (onS P86 Q86) → Z κ (0, 0) (Qm κ ad σ enV okV X) 93 [(0, vo ad 12 (some 0)), (1, vi x1), (2, vi x2), (3, vi x3)] [] ad σ1 := by
        intro x2 x3 σ1 hx2 hx3 eN1 h
        unfold fX12_layCovers_j93 at h
        have step : ∀ (P93 : (Int × St) → Prop) (Q93 : St → Prop), (∀ (x3 : Int) (σ1 : St), P93 ((x3, σ1)) → inr x3 → σ1.2.2.2 = σ.2.2.2 → Z κ (0, 0) (Qm κ ad σ enV okV X) 93 [(0, vo ad 12 (some 0)), (1, vi x1), (2, vi x2), (3, vi x3)] [] ad σ1) → (∀ (σ1 : St), Q93 (σ1) → σ1.2.2.2 = σ.2.2.2 → Z κ (0, 0) (Qm κ ad σ enV okV X) 189 [(0, vo ad 12 (some 0)), (1, vi x1), (2, vi x2)] [] ad σ1) → ∀ (x3 : Int) (σ1 : St), inr x3 → σ1.2.2.2 = σ.2.2.2 → wpO (fX12_layCovers_l93 x1 x2 x3 σ1) (onS P93 Q93) → Z κ (0, 0) (Qm κ ad σ enV okV X) 93 [(0, vo ad 12 (some 0)), (1, vi x1), (2, vi x2), (3, vi x3)] [] ad σ1 := by
          intro P93 Q93 hP93 hE93_189 x3 σ1 hx3 eN1 h
          unfold fX12_layCovers_l93 at h
          have J183 : ∀ (x3 : Int) (σ1 : St), inr x3 → σ1.2.2.2 = σ.2.2.2 → wpO (fX12_layCovers_j183 x1 x2 x3 σ1) (onS P93 Q93) → Z κ (0, 0) (Qm κ ad σ enV okV X) 183 [(0, vo ad 12 (some 0)), (1, vi x1), (2, vi x2), (3, vi x3)] [] ad σ1 := by
            intro x3 σ1 hx3 eN1 h
            unfold fX12_layCovers_j183 at h
            refine z_rng (fun hI15 hJ16 => ?_)
            obtain ⟨hk17, h⟩ := wpO_ck.mp h
            refine z_iinc (lv2 := [(3, vi (x3 + 1)), (0, vo ad 12 (some 0)), (1, vi x1), (2, vi x2)]) C 3 dX12_layCovers_183 rfl (by decide) rfl ?_
            refine z_goto C 93 dX12_layCovers_186 (by decide) ?_
            refine z_sub [1, 2, 3, 0] rfl ?_
            have h := wpO_some.mp h
            exact hP93 (x3 + 1) σ1 h hk17 eN1
          have J108 : ∀ (x3 : Int) (x4 : Int) (σ1 : St), inr x3 → inr x4 → σ1.2.2.2 = σ.2.2.2 → wpO (fX12_layCovers_j108 x1 x2 x3 x4 σ1) (onS P93 Q93) → Z κ (0, 0) (Qm κ ad σ enV okV X) 108 [(0, vo ad 12 (some 0)), (1, vi x1), (2, vi x2), (3, vi x3), (4, vi x4)] [] ad σ1 := by
            intro x3 x4 σ1 hx3 hx4 eN1 h
            unfold fX12_layCovers_j108 at h
            have step : ∀ (P108 : (Int × St) → Prop) (Q108 : St → Prop), (∀ (x4 : Int) (σ1 : St), P108 ((x4, σ1)) → inr x4 → σ1.2.2.2 = σ.2.2.2 → Z κ (0, 0) (Qm κ ad σ enV okV X) 108 [(0, vo ad 12 (some 0)), (1, vi x1), (2, vi x2), (3, vi x3), (4, vi x4)] [] ad σ1) → (∀ (σ1 : St), Q108 (σ1) → σ1.2.2.2 = σ.2.2.2 → Z κ (0, 0) (Qm κ ad σ enV okV X) 183 [(0, vo ad 12 (some 0)), (1, vi x1), (2, vi x2), (3, vi x3)] [] ad σ1) → ∀ (x4 : Int) (σ1 : St), inr x4 → σ1.2.2.2 = σ.2.2.2 → wpO (fX12_layCovers_l108 x1 x2 x3 x4 σ1) (onS P108 Q108) → Z κ (0, 0) (Qm κ ad σ enV okV X) 108 [(0, vo ad 12 (some 0)), (1, vi x1), (2, vi x2), (3, vi x3), (4, vi x4)] [] ad σ1 := by
              intro P108 Q108 hP108 hE108_183 x4 σ1 hx4 eN1 h
              unfold fX12_layCovers_l108 at h
              have J178 : ∀ (s0 : Int) (σ1 : St), inr s0 → σ1.2.2.2 = σ.2.2.2 → wpO (fX12_layCovers_j178 x1 x2 x3 s0 σ1) (onS P108 Q108) → Z κ (0, 0) (Qm κ ad σ enV okV X) 178 [(0, vo ad 12 (some 0)), (1, vi x1), (2, vi x2), (3, vi x3)] [vi s0] ad σ1 := by
                intro s0 σ1 hs0 eN1 h
                unfold fX12_layCovers_j178 at h
                refine z_rng (fun hI18 hJ19 => ?_)
                refine z_istore (lv2 := [(4, vi s0), (0, vo ad 12 (some 0)), (1, vi x1), (2, vi x2), (3, vi x3)]) C dX12_layCovers_178 (by decide) rfl ?_
                refine z_goto C 108 dX12_layCovers_180 (by decide) ?_
                refine z_sub [1, 2, 3, 4, 0] rfl ?_
                have h := wpO_some.mp h
                exact hP108 s0 σ1 h hs0 eN1
              have J162 : ∀ (x4 : Int) (s1 : Int) (s2 : Int) (σ1 : St), inr x4 → inr s1 → inr s2 → σ1.2.2.2 = σ.2.2.2 → wpO (fX12_layCovers_j162 x1 x2 x3 x4 s1 s2 σ1) (onS P108 Q108) → Z κ (0, 0) (Qm κ ad σ enV okV X) 162 [(0, vo ad 12 (some 0)), (1, vi x1), (2, vi x2), (3, vi x3), (4, vi x4)] [vi s2, vi s1, vo ad 1375 (some 0)] ad σ1 := by
                intro x4 s1 s2 σ1 hx4 hs1 hs2 eN1 h
                unfold fX12_layCovers_j162 at h
                refine z_rng (fun hI20 hJ21 => ?_)
                obtain ⟨hb22, h⟩ := wpO_ck.mp h
                obtain ⟨hb23, h⟩ := wpO_ck.mp h
                refine z_bastore C ar_1375 (sg_1375 T) hs1 hb22 hs2 hb23 dX12_layCovers_162 ?_
                refine z_iload C 4 dX12_layCovers_163 rfl ?_
                refine z_if_ne C 172 hx4 dX12_layCovers_165 (by decide) (fun q24 => ?_) (fun q24 => ?_)
                · have h := (wpO_ite.mp h).2 q24
                  refine z_iload C 4 dX12_layCovers_172 rfl ?_
                  refine z_iconst C dX12_layCovers_174 ?_
                  obtain ⟨hk25, h⟩ := wpO_ck.mp h
                  refine z_isub C dX12_layCovers_175 ?_
                  refine z_iload_n C 3 dX12_layCovers_176 rfl ?_
                  refine z_iand C dX12_layCovers_177 ?_
                  refine z_sub [0, 1, 2, 3] rfl ?_
                  exact J178 (iand (x4 - 1) x3) (sI σ1 1375 0 s1.toNat s2) (inr_iand _ _) eN1 h
                · have h := (wpO_ite.mp h).1 q24
                  refine z_iconst C dX12_layCovers_168 ?_
                  refine z_goto C 178 dX12_layCovers_169 (by decide) ?_
                  refine z_sub [0, 1, 2, 3] rfl ?_
                  exact J178 ((-1)) (sI σ1 1375 0 s1.toNat s2) (by decide) eN1 h
              have J161 : ∀ (x4 : Int) (s1 : Int) (σ1 : St), inr x4 → inr s1 → σ1.2.2.2 = σ.2.2.2 → wpO (fX12_layCovers_j161 x1 x2 x3 x4 s1 σ1) (onS P108 Q108) → Z κ (0, 0) (Qm κ ad σ enV okV X) 161 [(0, vo ad 12 (some 0)), (1, vi x1), (2, vi x2), (3, vi x3), (4, vi x4)] [vi s1, vo ad 1375 (some 0)] ad σ1 := by
                intro x4 s1 σ1 hx4 hs1 eN1 h
                unfold fX12_layCovers_j161 at h
                refine z_rng (fun hI26 hJ27 => ?_)
                refine z_iconst C dX12_layCovers_161 ?_
                exact J162 x4 s1 0 σ1 hx4 hs1 (by decide) eN1 h
              refine z_rng (fun hI28 hJ29 => ?_)
              refine z_iload C 4 dX12_layCovers_108 rfl ?_
              refine z_if_lt C 183 hx4 dX12_layCovers_110 (by decide) (fun q30 => ?_) (fun q30 => ?_)
              · have h := (wpO_ite.mp h).1 q30
                refine z_sub [0, 1, 2, 3] rfl ?_
                have h := wpO_some.mp h
                exact hE108_183 σ1 h eN1
              · have h := (wpO_ite.mp h).2 q30
                refine z_aload_n C 0 dX12_layCovers_113 rfl ?_
                refine z_gA T C li_X12_198 (sg_12 T) dX12_layCovers_114 ?_
                refine z_iload_n C 3 dX12_layCovers_117 rfl ?_
                obtain ⟨hb31, h⟩ := wpO_ck.mp h
                refine z_bav (v := gI σ1 1375 0 x3.toNat) C ar_1375 (sg_1375 T) hx3 hb31 rfl dX12_layCovers_118 ?_
                refine z_if_ne C 183 (hI28 1375 0 _) dX12_layCovers_119 (by decide) (fun q32 => ?_) (fun q32 => ?_)
                · have h := (wpO_ite.mp h).2 q32
                  refine z_sub [0, 1, 2, 3] rfl ?_
                  have h := wpO_some.mp h
                  exact hE108_183 σ1 h eN1
                · have h := (wpO_ite.mp h).1 q32
                  refine z_aload_n C 0 dX12_layCovers_122 rfl ?_
                  refine z_gA T C li_X12_198 (sg_12 T) dX12_layCovers_123 ?_
                  refine z_iload_n C 3 dX12_layCovers_126 rfl ?_
                  refine z_aload_n C 0 dX12_layCovers_127 rfl ?_
                  refine z_gA T C li_X12_192 (sg_12 T) dX12_layCovers_128 ?_
                  refine z_sipush C dX12_layCovers_131 (by decide) ?_
                  refine z_iload_n C 2 dX12_layCovers_134 rfl ?_
                  obtain ⟨hk33, h⟩ := wpO_ck.mp h
                  refine z_imul C dX12_layCovers_135 ?_
                  refine z_iload C 4 dX12_layCovers_136 rfl ?_
                  obtain ⟨hk34, h⟩ := wpO_ck.mp h
                  refine z_iadd C dX12_layCovers_138 ?_
                  obtain ⟨hb35, h⟩ := wpO_ck.mp h
                  refine z_bav (v := gI σ1 1373 0 (((256 * x2) + x4).toNat)) C ar_1373 (sg_1373 T) hk34 hb35 rfl dX12_layCovers_139 ?_
                  refine z_if_eq C 161 (hI28 1373 0 _) dX12_layCovers_140 (by decide) (fun q36 => ?_) (fun q36 => ?_)
                  · have h := (wpO_ite.mp h).1 q36
                    exact J161 x4 x3 σ1 hx4 hx3 eN1 h
                  · have h := (wpO_ite.mp h).2 q36
                    refine z_aload_n C 0 dX12_layCovers_143 rfl ?_
                    refine z_gA T C li_X12_195 (sg_12 T) dX12_layCovers_144 ?_
                    refine z_iload_n C 3 dX12_layCovers_147 rfl ?_
                    refine z_iload C 4 dX12_layCovers_148 rfl ?_
                    refine z_iconst C dX12_layCovers_150 ?_
                    refine z_ixor C dX12_layCovers_151 ?_
                    refine z_iand C dX12_layCovers_152 ?_
                    obtain ⟨hb37, h⟩ := wpO_ck.mp h
                    refine z_bav (v := gI σ1 1374 0 ((iand x3 (ixor x4 ((-1)))).toNat)) C ar_1374 (sg_1374 T) (inr_iand _ _) hb37 rfl dX12_layCovers_153 ?_
                    refine z_if_eq C 161 (hI28 1374 0 _) dX12_layCovers_154 (by decide) (fun q38 => ?_) (fun q38 => ?_)
                    · have h := (wpO_ite.mp h).1 q38
                      exact J161 x4 x3 σ1 hx4 hx3 eN1 h
                    · have h := (wpO_ite.mp h).2 q38
                      refine z_iconst C dX12_layCovers_157 ?_
                      refine z_goto C 162 dX12_layCovers_158 (by decide) ?_
                      exact J162 x4 x3 1 σ1 hx4 hx3 (by decide) eN1 h
            exact wh_ind (P := fun s : (Int × St) => inr s.1 → s.2.2.2.2 = σ.2.2.2 → Z κ (0, 0) (Qm κ ad σ enV okV X) 108 [(0, vo ad 12 (some 0)), (1, vi x1), (2, vi x2), (3, vi x3), (4, vi s.1)] [] ad s.2) (fun s hs g0 g1 => step _ _ (fun _ _ hp => hp) (fun σ1 hq eN1 => J183 x3 σ1 hx3 eN1 hq) s.1 s.2 g0 g1 hs) ((x4, σ1)) (wpO_bnk.mp h) hx4 eN1
          refine z_rng (fun hI39 hJ40 => ?_)
          refine z_iload_n C 3 dX12_layCovers_93 rfl ?_
          refine z_iload_n C 1 dX12_layCovers_94 rfl ?_
          refine z_icmp_ge C 189 hx3 hx1 dX12_layCovers_95 (by decide) (fun q41 => ?_) (fun q41 => ?_)
          · have h := (wpO_ite.mp h).1 q41
            refine z_sub [0, 1, 2] rfl ?_
            have h := wpO_some.mp h
            exact hE93_189 σ1 h eN1
          · have h := (wpO_ite.mp h).2 q41
            refine z_aload_n C 0 dX12_layCovers_98 rfl ?_
            refine z_gA T C li_X12_198 (sg_12 T) dX12_layCovers_99 ?_
            refine z_iload_n C 3 dX12_layCovers_102 rfl ?_
            refine z_iconst C dX12_layCovers_103 ?_
            obtain ⟨hb42, h⟩ := wpO_ck.mp h
            refine z_bastore C ar_1375 (sg_1375 T) hx3 hb42 (by decide) (by decide) dX12_layCovers_104 ?_
            refine z_iload_n C 3 dX12_layCovers_105 rfl ?_
            refine z_istore (lv2 := [(4, vi x3), (0, vo ad 12 (some 0)), (1, vi x1), (2, vi x2), (3, vi x3)]) C dX12_layCovers_106 (by decide) rfl ?_
            refine z_sub [1, 2, 3, 4, 0] rfl ?_
            exact J108 x3 x3 (sI σ1 1375 0 x3.toNat 0) hx3 hx3 eN1 h
        exact wh_ind (P := fun s : (Int × St) => inr s.1 → s.2.2.2.2 = σ.2.2.2 → Z κ (0, 0) (Qm κ ad σ enV okV X) 93 [(0, vo ad 12 (some 0)), (1, vi x1), (2, vi x2), (3, vi s.1)] [] ad s.2) (fun s hs g0 g1 => step _ _ (fun _ _ hp => hp) (fun σ1 hq eN1 => J189 x2 σ1 hx2 eN1 hq) s.1 s.2 g0 g1 hs) ((x3, σ1)) (wpO_bnk.mp h) hx3 eN1
      refine z_rng (fun hI43 hJ44 => ?_)
      refine z_iload_n C 2 dX12_layCovers_86 rfl ?_
      refine z_iconst C dX12_layCovers_87 ?_
      refine z_icmp_ge C 220 hx2 (by decide) dX12_layCovers_88 (by decide) (fun q45 => ?_) (fun q45 => ?_)
      · have h := (wpO_ite.mp h).1 q45
        refine z_sub [] rfl ?_
        have h := wpO_some.mp h
        exact hE86_220 σ1 h eN1
      · have h := (wpO_ite.mp h).2 q45
        refine z_iconst C dX12_layCovers_91 ?_
        refine z_istore_n (lv2 := [(3, vi 0), (0, vo ad 12 (some 0)), (1, vi x1), (2, vi x2)]) C dX12_layCovers_92 (by decide) rfl ?_
        refine z_sub [1, 2, 3, 0] rfl ?_
        exact J93 x2 0 σ1 hx2 (by decide) eN1 h
    exact wh_ind (P := fun s : (Int × St) => inr s.1 → s.2.2.2.2 = σ.2.2.2 → Z κ (0, 0) (Qm κ ad σ enV okV X) 86 [(0, vo ad 12 (some 0)), (1, vi x1), (2, vi s.1)] [] ad s.2) (fun s hs g0 g1 => step _ _ (fun _ _ hp => hp) (fun σ1 hq eN1 => J220 σ1 eN1 hq) s.1 s.2 g0 g1 hs) ((x2, σ1)) (wpO_bnk.mp h) hx2 eN1
  have J84 : ∀ (x1 : Int) (σ1 : St), inr x1 → σ1.2.2.2 = σ.2.2.2 → wpO (fX12_layCovers_j84 x1 σ1) (fun q => X q.1 q.2) → Z κ (0, 0) (Qm κ ad σ enV okV X) 84 [(0, vo ad 12 (some 0)), (1, vi x1)] [] ad σ1 := by
    intro x1 σ1 hx1 eN1 h
    unfold fX12_layCovers_j84 at h
    refine z_rng (fun hI46 hJ47 => ?_)
    refine z_iconst C dX12_layCovers_84 ?_
    refine z_istore_n (lv2 := [(2, vi 0), (0, vo ad 12 (some 0)), (1, vi x1)]) C dX12_layCovers_85 (by decide) rfl ?_
    refine z_sub [1, 2, 0] rfl ?_
    exact J86 x1 0 σ1 hx1 (by decide) eN1 h
  have J58 : ∀ (x1 : Int) (x2 : Int) (σ1 : St), inr x1 → inr x2 → σ1.2.2.2 = σ.2.2.2 → wpO (fX12_layCovers_j58 x1 x2 σ1) (fun q => X q.1 q.2) → Z κ (0, 0) (Qm κ ad σ enV okV X) 58 [(0, vo ad 12 (some 0)), (1, vi x1), (2, vi x2)] [] ad σ1 := by
    intro x1 x2 σ1 hx1 hx2 eN1 h
    unfold fX12_layCovers_j58 at h
    have step : ∀ (P58 : (Int × St) → Prop) (Q58 : St → Prop), (∀ (x2 : Int) (σ1 : St), P58 ((x2, σ1)) → inr x2 → σ1.2.2.2 = σ.2.2.2 → Z κ (0, 0) (Qm κ ad σ enV okV X) 58 [(0, vo ad 12 (some 0)), (1, vi x1), (2, vi x2)] [] ad σ1) → (∀ (σ1 : St), Q58 (σ1) → σ1.2.2.2 = σ.2.2.2 → Z κ (0, 0) (Qm κ ad σ enV okV X) 84 [(0, vo ad 12 (some 0)), (1, vi x1)] [] ad σ1) → ∀ (x2 : Int) (σ1 : St), inr x2 → σ1.2.2.2 = σ.2.2.2 → wpO (fX12_layCovers_l58 x1 x2 σ1) (onS P58 Q58) → Z κ (0, 0) (Qm κ ad σ enV okV X) 58 [(0, vo ad 12 (some 0)), (1, vi x1), (2, vi x2)] [] ad σ1 := by
      intro P58 Q58 hP58 hE58_84 x2 σ1 hx2 eN1 h
      unfold fX12_layCovers_l58 at h
      have J77 : ∀ (x2 : Int) (s1 : Int) (s2 : Int) (σ1 : St), inr x2 → inr s1 → inr s2 → σ1.2.2.2 = σ.2.2.2 → wpO (fX12_layCovers_j77 x1 x2 s1 s2 σ1) (onS P58 Q58) → Z κ (0, 0) (Qm κ ad σ enV okV X) 77 [(0, vo ad 12 (some 0)), (1, vi x1), (2, vi x2)] [vi s2, vi s1, vo ad 1374 (some 0)] ad σ1 := by
        intro x2 s1 s2 σ1 hx2 hs1 hs2 eN1 h
        unfold fX12_layCovers_j77 at h
        refine z_rng (fun hI48 hJ49 => ?_)
        obtain ⟨hb50, h⟩ := wpO_ck.mp h
        obtain ⟨hb51, h⟩ := wpO_ck.mp h
        refine z_bastore C ar_1374 (sg_1374 T) hs1 hb50 hs2 hb51 dX12_layCovers_77 ?_
        obtain ⟨hk52, h⟩ := wpO_ck.mp h
        refine z_iinc (lv2 := [(2, vi (x2 + 1)), (0, vo ad 12 (some 0)), (1, vi x1)]) C 2 dX12_layCovers_78 rfl (by decide) rfl ?_
        refine z_goto C 58 dX12_layCovers_81 (by decide) ?_
        refine z_sub [1, 2, 0] rfl ?_
        have h := wpO_some.mp h
        exact hP58 (x2 + 1) (sI σ1 1374 0 s1.toNat s2) h hk52 eN1
      refine z_rng (fun hI53 hJ54 => ?_)
      refine z_iload_n C 2 dX12_layCovers_58 rfl ?_
      refine z_iload_n C 1 dX12_layCovers_59 rfl ?_
      refine z_icmp_ge C 84 hx2 hx1 dX12_layCovers_60 (by decide) (fun q55 => ?_) (fun q55 => ?_)
      · have h := (wpO_ite.mp h).1 q55
        refine z_sub [0, 1] rfl ?_
        have h := wpO_some.mp h
        exact hE58_84 σ1 h eN1
      · have h := (wpO_ite.mp h).2 q55
        refine z_aload_n C 0 dX12_layCovers_63 rfl ?_
        refine z_gA T C li_X12_195 (sg_12 T) dX12_layCovers_64 ?_
        refine z_iload_n C 2 dX12_layCovers_67 rfl ?_
        refine z_iload_n C 2 dX12_layCovers_68 rfl ?_
        refine z_if_ne C 76 hx2 dX12_layCovers_69 (by decide) (fun q56 => ?_) (fun q56 => ?_)
        · have h := (wpO_ite.mp h).2 q56
          refine z_iconst C dX12_layCovers_76 ?_
          exact J77 x2 x2 0 σ1 hx2 hx2 (by decide) eN1 h
        · have h := (wpO_ite.mp h).1 q56
          refine z_iconst C dX12_layCovers_72 ?_
          refine z_goto C 77 dX12_layCovers_73 (by decide) ?_
          exact J77 x2 x2 1 σ1 hx2 hx2 (by decide) eN1 h
    exact wh_ind (P := fun s : (Int × St) => inr s.1 → s.2.2.2.2 = σ.2.2.2 → Z κ (0, 0) (Qm κ ad σ enV okV X) 58 [(0, vo ad 12 (some 0)), (1, vi x1), (2, vi s.1)] [] ad s.2) (fun s hs g0 g1 => step _ _ (fun _ _ hp => hp) (fun σ1 hq eN1 => J84 x1 σ1 hx1 eN1 hq) s.1 s.2 g0 g1 hs) ((x2, σ1)) (wpO_bnk.mp h) hx2 eN1
  have J56 : ∀ (x1 : Int) (σ1 : St), inr x1 → σ1.2.2.2 = σ.2.2.2 → wpO (fX12_layCovers_j56 x1 σ1) (fun q => X q.1 q.2) → Z κ (0, 0) (Qm κ ad σ enV okV X) 56 [(0, vo ad 12 (some 0)), (1, vi x1)] [] ad σ1 := by
    intro x1 σ1 hx1 eN1 h
    unfold fX12_layCovers_j56 at h
    refine z_rng (fun hI57 hJ58 => ?_)
    refine z_iconst C dX12_layCovers_56 ?_
    refine z_istore_n (lv2 := [(2, vi 0), (0, vo ad 12 (some 0)), (1, vi x1)]) C dX12_layCovers_57 (by decide) rfl ?_
    refine z_sub [1, 2, 0] rfl ?_
    exact J58 x1 0 σ1 hx1 (by decide) eN1 h
  have J17 : ∀ (x1 : Int) (x2 : Int) (σ1 : St), inr x1 → inr x2 → σ1.2.2.2 = σ.2.2.2 → wpO (fX12_layCovers_j17 x1 x2 σ1) (fun q => X q.1 q.2) → Z κ (0, 0) (Qm κ ad σ enV okV X) 17 [(0, vo ad 12 (some 0)), (1, vi x1), (2, vi x2)] [] ad σ1 := by
    intro x1 x2 σ1 hx1 hx2 eN1 h
    unfold fX12_layCovers_j17 at h
    have step : ∀ (P17 : (Int × St) → Prop) (Q17 : St → Prop), (∀ (x2 : Int) (σ1 : St), P17 ((x2, σ1)) → inr x2 → σ1.2.2.2 = σ.2.2.2 → Z κ (0, 0) (Qm κ ad σ enV okV X) 17 [(0, vo ad 12 (some 0)), (1, vi x1), (2, vi x2)] [] ad σ1) → (∀ (σ1 : St), Q17 (σ1) → σ1.2.2.2 = σ.2.2.2 → Z κ (0, 0) (Qm κ ad σ enV okV X) 56 [(0, vo ad 12 (some 0)), (1, vi x1)] [] ad σ1) → ∀ (x2 : Int) (σ1 : St), inr x2 → σ1.2.2.2 = σ.2.2.2 → wpO (fX12_layCovers_l17 x1 x2 σ1) (onS P17 Q17) → Z κ (0, 0) (Qm κ ad σ enV okV X) 17 [(0, vo ad 12 (some 0)), (1, vi x1), (2, vi x2)] [] ad σ1 := by
      intro P17 Q17 hP17 hE17_56 x2 σ1 hx2 eN1 h
      unfold fX12_layCovers_l17 at h
      refine z_rng (fun hI59 hJ60 => ?_)
      refine z_iload_n C 2 dX12_layCovers_17 rfl ?_
      refine z_iconst C dX12_layCovers_18 ?_
      refine z_iload_n C 1 dX12_layCovers_19 rfl ?_
      obtain ⟨hk61, h⟩ := wpO_ck.mp h
      refine z_imul C dX12_layCovers_20 ?_
      refine z_icmp_ge C 56 hx2 hk61 dX12_layCovers_21 (by decide) (fun q62 => ?_) (fun q62 => ?_)
      · have h := (wpO_ite.mp h).1 q62
        refine z_sub [0, 1] rfl ?_
        have h := wpO_some.mp h
        exact hE17_56 σ1 h eN1
      · have h := (wpO_ite.mp h).2 q62
        refine z_aload_n C 0 dX12_layCovers_24 rfl ?_
        refine z_gA T C li_X12_192 (sg_12 T) dX12_layCovers_25 ?_
        refine z_sipush C dX12_layCovers_28 (by decide) ?_
        refine z_iload_n C 2 dX12_layCovers_31 rfl ?_
        refine z_iload_n C 1 dX12_layCovers_32 rfl ?_
        obtain ⟨h063, h⟩ := wpO_ck.mp h
        refine z_idiv C hx1 h063 dX12_layCovers_33 ?_
        obtain ⟨hk64, h⟩ := wpO_ck.mp h
        refine z_imul C dX12_layCovers_34 ?_
        refine z_iload_n C 2 dX12_layCovers_35 rfl ?_
        refine z_iload_n C 1 dX12_layCovers_36 rfl ?_
        obtain ⟨h065, h⟩ := wpO_ck.mp h
        refine z_irem C hx1 h065 dX12_layCovers_37 ?_
        obtain ⟨hk66, h⟩ := wpO_ck.mp h
        refine z_iadd C dX12_layCovers_38 ?_
        refine z_aload_n C 0 dX12_layCovers_39 rfl ?_
        refine z_iload_n C 2 dX12_layCovers_40 rfl ?_
        refine z_iload_n C 1 dX12_layCovers_41 rfl ?_
        obtain ⟨h067, h⟩ := wpO_ck.mp h
        refine z_idiv C hx1 h067 dX12_layCovers_42 ?_
        refine z_iload_n C 2 dX12_layCovers_43 rfl ?_
        refine z_iload_n C 1 dX12_layCovers_44 rfl ?_
        obtain ⟨h068, h⟩ := wpO_ck.mp h
        refine z_irem C hx1 h068 dX12_layCovers_45 ?_
        refine z_cVp (st := [vi ((256 * (idiv x2 x1)) + (irem x2 x1)), vo ad 1373 (some 0)]) T C (ct_X12_canGoTo (idiv x2 x1) (irem x2 x1) (inr_idiv _ _) (inr_irem _ _)) lm_X12_445 lv_vX12_canGoTo dX12_layCovers_46 [vi (idiv x2 x1), vi (irem x2 x1)] rfl rfl rfl rfl rfl (sg_12 T) trivial (by decide) (Nat.le_of_ble_eq_true rfl) csOK_0 h (fun r69 hr70 h => ?_)
        show Z κ (0, 0) _ 49 _ [vi r69, vi ((256 * (idiv x2 x1)) + (irem x2 x1)), vo ad 1373 (some 0)] ad σ1
        obtain ⟨hb71, h⟩ := wpO_ck.mp h
        refine z_bastore C ar_1373 (sg_1373 T) hk66 hb71 (inr_b hr70) hr70 dX12_layCovers_49 ?_
        obtain ⟨hk72, h⟩ := wpO_ck.mp h
        refine z_iinc (lv2 := [(2, vi (x2 + 1)), (0, vo ad 12 (some 0)), (1, vi x1)]) C 2 dX12_layCovers_50 rfl (by decide) rfl ?_
        refine z_goto C 17 dX12_layCovers_53 (by decide) ?_
        refine z_sub [1, 2, 0] rfl ?_
        have h := wpO_some.mp h
        exact hP17 (x2 + 1) (sI σ1 1373 0 (((256 * (idiv x2 x1)) + (irem x2 x1)).toNat) r69) h hk72 eN1
    exact wh_ind (P := fun s : (Int × St) => inr s.1 → s.2.2.2.2 = σ.2.2.2 → Z κ (0, 0) (Qm κ ad σ enV okV X) 17 [(0, vo ad 12 (some 0)), (1, vi x1), (2, vi s.1)] [] ad s.2) (fun s hs g0 g1 => step _ _ (fun _ _ hp => hp) (fun σ1 hq eN1 => J56 x1 σ1 hx1 eN1 hq) s.1 s.2 g0 g1 hs) ((x2, σ1)) (wpO_bnk.mp h) hx2 eN1
  show Z κ (0, 0) (Qm κ ad σ enV okV X) 0 [(0, vo ad 12 (some 0))] [] ad σ
  refine z_rng (fun hI73 hJ74 => ?_)
  refine z_aload_n C 0 dX12_layCovers_0 rfl ?_
  refine z_cV (st := []) T C ct_X12_layOrder lm_X12_439 lv_vX12_layOrder dX12_layCovers_1 [] rfl rfl rfl rfl rfl (sg_12 T) trivial (by decide) (Nat.le_of_ble_eq_true rfl) csOK_0 h (fun r75 σ77 hr76 eN78 h => ?_)
  show Z κ (0, 0) _ 4 _ [] ad σ77
  refine z_rng (fun hI79 hJ80 => ?_)
  refine z_aload_n C 0 dX12_layCovers_4 rfl ?_
  refine z_cV (st := []) T C ct_X12_layTimes lm_X12_442 lv_vX12_layTimes dX12_layCovers_5 [] rfl rfl rfl rfl rfl (sg_12 T) trivial (by decide) (Nat.le_of_ble_eq_true rfl) csOK_0 h (fun r81 σ83 hr82 eN84 h => ?_)
  have eN85 := eN84.trans eN78
  show Z κ (0, 0) _ 8 _ [] ad σ83
  refine z_rng (fun hI86 hJ87 => ?_)
  refine z_iconst C dX12_layCovers_8 ?_
  refine z_aload_n C 0 dX12_layCovers_9 rfl ?_
  refine z_gIv (v := gI σ83 1369 0 0) C li_X12_436 (sg_12 T) rfl dX12_layCovers_10 ?_
  refine z_ishl C dX12_layCovers_13 ?_
  refine z_istore_n (lv2 := [(1, vi (ishl 1 (gI σ83 1369 0 0))), (0, vo ad 12 (some 0))]) C dX12_layCovers_14 (by decide) rfl ?_
  refine z_iconst C dX12_layCovers_15 ?_
  refine z_istore_n (lv2 := [(2, vi 0), (1, vi (ishl 1 (gI σ83 1369 0 0))), (0, vo ad 12 (some 0))]) C dX12_layCovers_16 (by decide) rfl ?_
  refine z_sub [2, 1, 0] rfl ?_
  exact J17 (ishl 1 (gI σ83 1369 0 0)) 0 σ83 (inr_ishl _ _) (by decide) eN85 h
noncomputable def fX12_worthOf_j40 (x2 : Int) (σ : St) : Option Int :=
  some x2
noncomputable def fX12_worthOf_j32 (x1 : Int) (x3 : Int) (s0 : Int) (s1 : Int) (σ : St) : Option ((Int × Int) ⊕ Int) :=
  ck (inr (s0 + s1)) (ck (inr (x3 + 1)) (some (.inl ((s0 + s1, x3 + 1)))))
noncomputable def fX12_worthOf_l4 (x1 : Int) (σ : St) (x2 : Int) (x3 : Int) : Option ((Int × Int) ⊕ Int) :=
  if gI σ 1369 0 0 ≤ x3 then (some (.inr x2)) else (if iand (ishr x1 x3) 1 = 1 then (ck (0 ≤ x3 ∧ x3 < 8) (fX12_worthOf_j32 x1 x3 x2 (gI σ 1372 0 x3.toNat) σ)) else (fX12_worthOf_j32 x1 x3 x2 0 σ))
noncomputable def fX12_worthOf_j4 (x1 : Int) (x2 : Int) (x3 : Int) (σ : St) : Option Int :=
  bnk (wh (fun s => fX12_worthOf_l4 x1 σ s.1 s.2) ((x2, x3))) (fun e => fX12_worthOf_j40 e σ)
noncomputable def fX12_worthOf (x1 : Int) (σ : St) : Option Int :=
  fX12_worthOf_j4 x1 0 0 σ
set_option maxRecDepth 20000 in
set_option maxHeartbeats 4000000 in
theorem ct_X12_worthOf (x1 : Int) (hx1 : inr x1) : Ct yX12_worthOf cX12_worthOf 4 (some .int) 0 (fun ad => [vo ad 12 (some 0), vi x1]) (pu (fX12_worthOf x1)) enI okI (fun _ => True) := by
  refine Ct.of (by decide) (fun ad => Nat.le_of_ble_eq_true rfl) ?_
  intro κ ad σ X C T hpre h
  have C : Cx κ RX12 cX12_worthOf 4 (some .int) 0 := C
  have h := wpO_pu.mp h
  unfold fX12_worthOf at h
  have J40 : ∀ (x2 : Int), inr x2 → wpO (fX12_worthOf_j40 x2 σ) (fun r => X r σ) → Z κ (0, 0) (Qm κ ad σ enI okI X) 40 [(2, vi x2)] [] ad σ := by
    intro x2 hx2 h
    unfold fX12_worthOf_j40 at h
    refine z_rng (fun hI1 hJ2 => ?_)
    refine z_iload_n C 0 dX12_worthOf_40 rfl ?_
    have h := wpO_some.mp h
    exact z_ireturn T C dX12_worthOf_41 hx2 rfl h
  have J4 : ∀ (x1 : Int) (x2 : Int) (x3 : Int), inr x1 → inr x2 → inr x3 → wpO (fX12_worthOf_j4 x1 x2 x3 σ) (fun r => X r σ) → Z κ (0, 0) (Qm κ ad σ enI okI X) 4 [(0, vo ad 12 (some 0)), (1, vi x1), (2, vi x2), (3, vi x3)] [] ad σ := by
    intro x1 x2 x3 hx1 hx2 hx3 h
    unfold fX12_worthOf_j4 at h
    have step : ∀ (P4 : (Int × Int) → Prop) (Q4 : Int → Prop), (∀ (x2 : Int) (x3 : Int), P4 ((x2, x3)) → inr x2 → inr x3 → Z κ (0, 0) (Qm κ ad σ enI okI X) 4 [(0, vo ad 12 (some 0)), (1, vi x1), (2, vi x2), (3, vi x3)] [] ad σ) → (∀ (x2 : Int), Q4 (x2) → inr x2 → Z κ (0, 0) (Qm κ ad σ enI okI X) 40 [(2, vi x2)] [] ad σ) → ∀ (x2 : Int) (x3 : Int), inr x2 → inr x3 → wpO (fX12_worthOf_l4 x1 σ x2 x3) (onS P4 Q4) → Z κ (0, 0) (Qm κ ad σ enI okI X) 4 [(0, vo ad 12 (some 0)), (1, vi x1), (2, vi x2), (3, vi x3)] [] ad σ := by
      intro P4 Q4 hP4 hE4_40 x2 x3 hx2 hx3 h
      unfold fX12_worthOf_l4 at h
      have J32 : ∀ (x3 : Int) (s0 : Int) (s1 : Int), inr x3 → inr s0 → inr s1 → wpO (fX12_worthOf_j32 x1 x3 s0 s1 σ) (onS P4 Q4) → Z κ (0, 0) (Qm κ ad σ enI okI X) 32 [(0, vo ad 12 (some 0)), (1, vi x1), (3, vi x3)] [vi s1, vi s0] ad σ := by
        intro x3 s0 s1 hx3 hs0 hs1 h
        unfold fX12_worthOf_j32 at h
        refine z_rng (fun hI3 hJ4 => ?_)
        obtain ⟨hk5, h⟩ := wpO_ck.mp h
        refine z_iadd C dX12_worthOf_32 ?_
        refine z_istore_n (lv2 := [(2, vi (s0 + s1)), (0, vo ad 12 (some 0)), (1, vi x1), (3, vi x3)]) C dX12_worthOf_33 (by decide) rfl ?_
        obtain ⟨hk6, h⟩ := wpO_ck.mp h
        refine z_iinc (lv2 := [(3, vi (x3 + 1)), (2, vi (s0 + s1)), (0, vo ad 12 (some 0)), (1, vi x1)]) C 3 dX12_worthOf_34 rfl (by decide) rfl ?_
        refine z_goto C 4 dX12_worthOf_37 (by decide) ?_
        refine z_sub [2, 3, 1, 0] rfl ?_
        have h := wpO_some.mp h
        exact hP4 (s0 + s1) (x3 + 1) h hk5 hk6
      refine z_rng (fun hI7 hJ8 => ?_)
      refine z_iload_n C 3 dX12_worthOf_4 rfl ?_
      refine z_aload_n C 0 dX12_worthOf_5 rfl ?_
      refine z_gIv (v := gI σ 1369 0 0) C li_X12_436 (sg_12 T) rfl dX12_worthOf_6 ?_
      refine z_icmp_ge C 40 hx3 (hI7 1369 0 _) dX12_worthOf_9 (by decide) (fun q9 => ?_) (fun q9 => ?_)
      · have h := (wpO_ite.mp h).1 q9
        refine z_sub [2] rfl ?_
        have h := wpO_some.mp h
        exact hE4_40 x2 h hx2
      · have h := (wpO_ite.mp h).2 q9
        refine z_iload_n C 2 dX12_worthOf_12 rfl ?_
        refine z_iload_n C 1 dX12_worthOf_13 rfl ?_
        refine z_iload_n C 3 dX12_worthOf_14 rfl ?_
        refine z_ishr C dX12_worthOf_15 ?_
        refine z_iconst C dX12_worthOf_16 ?_
        refine z_iand C dX12_worthOf_17 ?_
        refine z_iconst C dX12_worthOf_18 ?_
        refine z_icmp_ne C 31 (inr_iand _ _) (by decide) dX12_worthOf_19 (by decide) (fun q10 => ?_) (fun q10 => ?_)
        · have h := (wpO_ite.mp h).2 q10
          refine z_iconst C dX12_worthOf_31 ?_
          refine z_sub [0, 1, 3] rfl ?_
          exact J32 x3 x2 0 hx3 hx2 (by decide) h
        · have h := (wpO_ite.mp h).1 q10
          refine z_aload_n C 0 dX12_worthOf_22 rfl ?_
          refine z_gA T C li_X12_189 (sg_12 T) dX12_worthOf_23 ?_
          refine z_iload_n C 3 dX12_worthOf_26 rfl ?_
          obtain ⟨hb11, h⟩ := wpO_ck.mp h
          refine z_iav (v := gI σ 1372 0 x3.toNat) C ar_1372 (sg_1372 T) hx3 hb11 rfl dX12_worthOf_27 ?_
          refine z_goto C 32 dX12_worthOf_28 (by decide) ?_
          refine z_sub [0, 1, 3] rfl ?_
          exact J32 x3 x2 (gI σ 1372 0 x3.toNat) hx3 hx2 (hI7 1372 0 _) h
    exact wh_ind (P := fun s : (Int × Int) => inr s.1 → inr s.2 → Z κ (0, 0) (Qm κ ad σ enI okI X) 4 [(0, vo ad 12 (some 0)), (1, vi x1), (2, vi s.1), (3, vi s.2)] [] ad σ) (fun s hs g0 g1 => step _ _ (fun _ _ hp => hp) (fun x2 hq hx2 => J40 x2 hx2 hq) s.1 s.2 g0 g1 hs) ((x2, x3)) (wpO_bnk.mp h) hx2 hx3
  show Z κ (0, 0) (Qm κ ad σ enI okI X) 0 [(0, vo ad 12 (some 0)), (1, vi x1)] [] ad σ
  refine z_rng (fun hI12 hJ13 => ?_)
  refine z_iconst C dX12_worthOf_0 ?_
  refine z_istore_n (lv2 := [(2, vi 0), (0, vo ad 12 (some 0)), (1, vi x1)]) C dX12_worthOf_1 (by decide) rfl ?_
  refine z_iconst C dX12_worthOf_2 ?_
  refine z_istore_n (lv2 := [(3, vi 0), (2, vi 0), (0, vo ad 12 (some 0)), (1, vi x1)]) C dX12_worthOf_3 (by decide) rfl ?_
  refine z_sub [2, 3, 1, 0] rfl ?_
  exact J4 x1 0 0 hx1 (by decide) (by decide) h
noncomputable def fX12_bestCover_j52 (x1 : Int) (σ1 : St) : Option (Int × St) :=
  some (x1, σ1)
noncomputable def fX12_bestCover_j45 (x2 : Int) (s0 : Int) (σ1 : St) : Option ((Int × Int) ⊕ Int) :=
  ck (inr (x2 + 1)) (some (.inl ((s0, x2 + 1))))
noncomputable def fX12_bestCover_j44 (x1 : Int) (x2 : Int) (σ1 : St) : Option ((Int × Int) ⊕ Int) :=
  fX12_bestCover_j45 x2 x1 σ1
noncomputable def fX12_bestCover_l8 (σ1 : St) (x1 : Int) (x2 : Int) : Option ((Int × Int) ⊕ Int) :=
  if ishl 1 (gI σ1 1369 0 0) ≤ x2 then (some (.inr x1)) else (ck (0 ≤ x2 ∧ x2 < 256) (if gI σ1 1374 0 x2.toNat = 0 then (fX12_bestCover_j44 x1 x2 σ1) else (bnk (fX12_worthOf x2 σ1) (fun r13 => if r13 ≤ x1 then (fX12_bestCover_j44 x1 x2 σ1) else (bnk (fX12_worthOf x2 σ1) (fun r16 => fX12_bestCover_j45 x2 r16 σ1))))))
noncomputable def fX12_bestCover_j8 (x1 : Int) (x2 : Int) (σ1 : St) : Option (Int × St) :=
  bnk (wh (fun s => fX12_bestCover_l8 σ1 s.1 s.2) ((x1, x2))) (fun e => fX12_bestCover_j52 e σ1)
noncomputable def fX12_bestCover (σ : St) : Option (Int × St) :=
  bnd (fX12_layCovers σ) (fun _ σ22 => fX12_bestCover_j8 0 0 σ22)
set_option maxRecDepth 20000 in
set_option maxHeartbeats 4000000 in
theorem ct_X12_bestCover  : Ct yX12_bestCover cX12_bestCover 3 (some .int) 4 (fun ad => [vo ad 12 (some 0)]) fX12_bestCover enI okI (fun _ => True) := by
  refine Ct.of (by decide) (fun ad => Nat.le_of_ble_eq_true rfl) ?_
  intro κ ad σ X C T hpre h
  have C : Cx κ RX12 cX12_bestCover 3 (some .int) 4 := C
  unfold fX12_bestCover at h
  have J52 : ∀ (x1 : Int) (σ1 : St), inr x1 → σ1.2.2.2 = σ.2.2.2 → wpO (fX12_bestCover_j52 x1 σ1) (fun q => X q.1 q.2) → Z κ (0, 0) (Qm κ ad σ enI okI X) 52 [(1, vi x1)] [] ad σ1 := by
    intro x1 σ1 hx1 eN1 h
    unfold fX12_bestCover_j52 at h
    refine z_rng (fun hI1 hJ2 => ?_)
    refine z_iload_n C 0 dX12_bestCover_52 rfl ?_
    have h := wpO_some.mp h
    exact z_ireturn T C dX12_bestCover_53 hx1 eN1 h
  have J8 : ∀ (x1 : Int) (x2 : Int) (σ1 : St), inr x1 → inr x2 → σ1.2.2.2 = σ.2.2.2 → wpO (fX12_bestCover_j8 x1 x2 σ1) (fun q => X q.1 q.2) → Z κ (0, 0) (Qm κ ad σ enI okI X) 8 [(0, vo ad 12 (some 0)), (1, vi x1), (2, vi x2)] [] ad σ1 := by
    intro x1 x2 σ1 hx1 hx2 eN1 h
    unfold fX12_bestCover_j8 at h
    have step : ∀ (P8 : (Int × Int) → Prop) (Q8 : Int → Prop), (∀ (x1 : Int) (x2 : Int), P8 ((x1, x2)) → inr x1 → inr x2 → Z κ (0, 0) (Qm κ ad σ enI okI X) 8 [(0, vo ad 12 (some 0)), (1, vi x1), (2, vi x2)] [] ad σ1) → (∀ (x1 : Int), Q8 (x1) → inr x1 → Z κ (0, 0) (Qm κ ad σ enI okI X) 52 [(1, vi x1)] [] ad σ1) → ∀ (x1 : Int) (x2 : Int), inr x1 → inr x2 → wpO (fX12_bestCover_l8 σ1 x1 x2) (onS P8 Q8) → Z κ (0, 0) (Qm κ ad σ enI okI X) 8 [(0, vo ad 12 (some 0)), (1, vi x1), (2, vi x2)] [] ad σ1 := by
      intro P8 Q8 hP8 hE8_52 x1 x2 hx1 hx2 h
      unfold fX12_bestCover_l8 at h
      have J45 : ∀ (x2 : Int) (s0 : Int), inr x2 → inr s0 → wpO (fX12_bestCover_j45 x2 s0 σ1) (onS P8 Q8) → Z κ (0, 0) (Qm κ ad σ enI okI X) 45 [(0, vo ad 12 (some 0)), (2, vi x2)] [vi s0] ad σ1 := by
        intro x2 s0 hx2 hs0 h
        unfold fX12_bestCover_j45 at h
        refine z_rng (fun hI3 hJ4 => ?_)
        refine z_istore_n (lv2 := [(1, vi s0), (0, vo ad 12 (some 0)), (2, vi x2)]) C dX12_bestCover_45 (by decide) rfl ?_
        obtain ⟨hk5, h⟩ := wpO_ck.mp h
        refine z_iinc (lv2 := [(2, vi (x2 + 1)), (1, vi s0), (0, vo ad 12 (some 0))]) C 2 dX12_bestCover_46 rfl (by decide) rfl ?_
        refine z_goto C 8 dX12_bestCover_49 (by decide) ?_
        refine z_sub [2, 1, 0] rfl ?_
        have h := wpO_some.mp h
        exact hP8 s0 (x2 + 1) h hs0 hk5
      have J44 : ∀ (x1 : Int) (x2 : Int), inr x1 → inr x2 → wpO (fX12_bestCover_j44 x1 x2 σ1) (onS P8 Q8) → Z κ (0, 0) (Qm κ ad σ enI okI X) 44 [(0, vo ad 12 (some 0)), (1, vi x1), (2, vi x2)] [] ad σ1 := by
        intro x1 x2 hx1 hx2 h
        unfold fX12_bestCover_j44 at h
        refine z_rng (fun hI6 hJ7 => ?_)
        refine z_iload_n C 1 dX12_bestCover_44 rfl ?_
        refine z_sub [0, 2] rfl ?_
        exact J45 x2 x1 hx2 hx1 h
      refine z_rng (fun hI8 hJ9 => ?_)
      refine z_iload_n C 2 dX12_bestCover_8 rfl ?_
      refine z_iconst C dX12_bestCover_9 ?_
      refine z_aload_n C 0 dX12_bestCover_10 rfl ?_
      refine z_gIv (v := gI σ1 1369 0 0) C li_X12_436 (sg_12 T) rfl dX12_bestCover_11 ?_
      refine z_ishl C dX12_bestCover_14 ?_
      refine z_icmp_ge C 52 hx2 (inr_ishl _ _) dX12_bestCover_15 (by decide) (fun q10 => ?_) (fun q10 => ?_)
      · have h := (wpO_ite.mp h).1 q10
        refine z_sub [1] rfl ?_
        have h := wpO_some.mp h
        exact hE8_52 x1 h hx1
      · have h := (wpO_ite.mp h).2 q10
        refine z_aload_n C 0 dX12_bestCover_18 rfl ?_
        refine z_gA T C li_X12_195 (sg_12 T) dX12_bestCover_19 ?_
        refine z_iload_n C 2 dX12_bestCover_22 rfl ?_
        obtain ⟨hb11, h⟩ := wpO_ck.mp h
        refine z_bav (v := gI σ1 1374 0 x2.toNat) C ar_1374 (sg_1374 T) hx2 hb11 rfl dX12_bestCover_23 ?_
        refine z_if_eq C 44 (hI8 1374 0 _) dX12_bestCover_24 (by decide) (fun q12 => ?_) (fun q12 => ?_)
        · have h := (wpO_ite.mp h).1 q12
          exact J44 x1 x2 hx1 hx2 h
        · have h := (wpO_ite.mp h).2 q12
          refine z_aload_n C 0 dX12_bestCover_27 rfl ?_
          refine z_iload_n C 2 dX12_bestCover_28 rfl ?_
          refine z_cVp (st := []) T C (ct_X12_worthOf x2 hx2) lm_X12_451 lv_vX12_worthOf dX12_bestCover_29 [vi x2] rfl rfl rfl rfl rfl (sg_12 T) trivial (by decide) (Nat.le_of_ble_eq_true rfl) csOK_0 h (fun r13 hr14 h => ?_)
          show Z κ (0, 0) _ 32 _ [vi r13] ad σ1
          refine z_iload_n C 1 dX12_bestCover_32 rfl ?_
          refine z_icmp_le C 44 hr14 hx1 dX12_bestCover_33 (by decide) (fun q15 => ?_) (fun q15 => ?_)
          · have h := (wpO_ite.mp h).1 q15
            exact J44 x1 x2 hx1 hx2 h
          · have h := (wpO_ite.mp h).2 q15
            refine z_aload_n C 0 dX12_bestCover_36 rfl ?_
            refine z_iload_n C 2 dX12_bestCover_37 rfl ?_
            refine z_cVp (st := []) T C (ct_X12_worthOf x2 hx2) lm_X12_451 lv_vX12_worthOf dX12_bestCover_38 [vi x2] rfl rfl rfl rfl rfl (sg_12 T) trivial (by decide) (Nat.le_of_ble_eq_true rfl) csOK_0 h (fun r16 hr17 h => ?_)
            show Z κ (0, 0) _ 41 _ [vi r16] ad σ1
            refine z_goto C 45 dX12_bestCover_41 (by decide) ?_
            refine z_sub [0, 2] rfl ?_
            exact J45 x2 r16 hx2 hr17 h
    exact wh_ind (P := fun s : (Int × Int) => inr s.1 → inr s.2 → Z κ (0, 0) (Qm κ ad σ enI okI X) 8 [(0, vo ad 12 (some 0)), (1, vi s.1), (2, vi s.2)] [] ad σ1) (fun s hs g0 g1 => step _ _ (fun _ _ hp => hp) (fun x1 hq hx1 => J52 x1 σ1 hx1 eN1 hq) s.1 s.2 g0 g1 hs) ((x1, x2)) (wpO_bnk.mp h) hx1 hx2
  show Z κ (0, 0) (Qm κ ad σ enI okI X) 0 [(0, vo ad 12 (some 0))] [] ad σ
  refine z_rng (fun hI18 hJ19 => ?_)
  refine z_aload_n C 0 dX12_bestCover_0 rfl ?_
  refine z_cV (st := []) T C ct_X12_layCovers lm_X12_448 lv_vX12_layCovers dX12_bestCover_1 [] rfl rfl rfl rfl rfl (sg_12 T) trivial (by decide) (Nat.le_of_ble_eq_true rfl) csOK_0 h (fun r20 σ22 hr21 eN23 h => ?_)
  show Z κ (0, 0) _ 4 _ [] ad σ22
  refine z_rng (fun hI24 hJ25 => ?_)
  refine z_iconst C dX12_bestCover_4 ?_
  refine z_istore_n (lv2 := [(1, vi 0), (0, vo ad 12 (some 0))]) C dX12_bestCover_5 (by decide) rfl ?_
  refine z_iconst C dX12_bestCover_6 ?_
  refine z_istore_n (lv2 := [(2, vi 0), (1, vi 0), (0, vo ad 12 (some 0))]) C dX12_bestCover_7 (by decide) rfl ?_
  refine z_sub [2, 1, 0] rfl ?_
  exact J8 0 0 σ22 (by decide) (by decide) eN23 h
noncomputable def fX12_was (x0 : Int) (x1 : Int) : Option Int :=
  if x0 = (-9) then (some 0) else (if x1 < x0 then (some 0) else (some 1))
set_option maxRecDepth 20000 in
set_option maxHeartbeats 4000000 in
theorem ct_X12_was (x0 : Int) (x1 : Int) (hx0 : inr x0) (hx1 : inr x1) : Ct yX12_was cX12_was 2 (some .boolean) 0 (fun ad => [vi x0, vi x1]) (pu (fun _ => fX12_was x0 x1)) enI okB (fun _ => True) := by
  refine Ct.of (by decide) (fun ad => Nat.le_of_ble_eq_true rfl) ?_
  intro κ ad σ X C T hpre h
  have C : Cx κ RX12 cX12_was 2 (some .boolean) 0 := C
  have h := wpO_pu.mp h
  unfold fX12_was at h
  show Z κ (0, 0) (Qm κ ad σ enI okB X) 0 [(0, vi x0), (1, vi x1)] [] ad σ
  refine z_iload_n C 0 dX12_was_0 rfl ?_
  refine z_bipush C dX12_was_1 (by decide) ?_
  refine z_icmp_eq C 15 hx0 (by decide) dX12_was_3 (by decide) (fun q1 => ?_) (fun q1 => ?_)
  · have h := (wpO_ite.mp h).1 q1
    refine z_iconst C dX12_was_15 ?_
    have h := wpO_some.mp h
    exact z_breturn T C dX12_was_16 (by decide) rfl h
  · have h := (wpO_ite.mp h).2 q1
    refine z_iload_n C 0 dX12_was_6 rfl ?_
    refine z_iload_n C 1 dX12_was_7 rfl ?_
    refine z_icmp_gt C 15 hx0 hx1 dX12_was_8 (by decide) (fun q2 => ?_) (fun q2 => ?_)
    · have h := (wpO_ite.mp h).1 q2
      refine z_iconst C dX12_was_15 ?_
      have h := wpO_some.mp h
      exact z_breturn T C dX12_was_16 (by decide) rfl h
    · have h := (wpO_ite.mp h).2 q2
      refine z_iconst C dX12_was_11 ?_
      refine z_goto C 16 dX12_was_12 (by decide) ?_
      have h := wpO_some.mp h
      exact z_breturn T C dX12_was_16 (by decide) rfl h
noncomputable def fX12_whereOf (x1 : Int) (x2 : Int) (σ : St) : Option Int :=
  ck (0 ≤ x1 ∧ x1 < 40) (bnk (fX12_was (gI σ 1320 0 x1.toNat) x2) (fun r4 => if r4 = 0 then (ck (0 ≤ x1 ∧ x1 < 40) (bnk (fX12_was (gI σ 1319 0 x1.toNat) x2) (fun r8 => if r8 = 0 then (ck (0 ≤ x1 ∧ x1 < 40) (bnk (fX12_was (gI σ 1318 0 x1.toNat) x2) (fun r12 => if r12 = 0 then (ck (0 ≤ x1 ∧ x1 < 40) (if x2 < gI σ 1317 0 x1.toNat then (some 0) else (some 1))) else (some 2)))) else (some 3)))) else (some 4)))
set_option maxRecDepth 20000 in
set_option maxHeartbeats 4000000 in
theorem ct_X12_whereOf (x1 : Int) (x2 : Int) (hx1 : inr x1) (hx2 : inr x2) : Ct yX12_whereOf cX12_whereOf 3 (some .int) 1 (fun ad => [vo ad 12 (some 0), vi x1, vi x2]) (pu (fX12_whereOf x1 x2)) enI okI (fun _ => True) := by
  refine Ct.of (by decide) (fun ad => Nat.le_of_ble_eq_true rfl) ?_
  intro κ ad σ X C T hpre h
  have C : Cx κ RX12 cX12_whereOf 3 (some .int) 1 := C
  have h := wpO_pu.mp h
  unfold fX12_whereOf at h
  show Z κ (0, 0) (Qm κ ad σ enI okI X) 0 [(0, vo ad 12 (some 0)), (1, vi x1), (2, vi x2)] [] ad σ
  refine z_rng (fun hI1 hJ2 => ?_)
  refine z_aload_n C 0 dX12_whereOf_0 rfl ?_
  refine z_gA T C li_X12_62 (sg_12 T) dX12_whereOf_1 ?_
  refine z_iload_n C 1 dX12_whereOf_4 rfl ?_
  obtain ⟨hb3, h⟩ := wpO_ck.mp h
  refine z_iav (v := gI σ 1320 0 x1.toNat) C ar_1320 (sg_1320 T) hx1 hb3 rfl dX12_whereOf_5 ?_
  refine z_iload_n C 2 dX12_whereOf_6 rfl ?_
  refine z_cSp (st := []) T C (ct_X12_was (gI σ 1320 0 x1.toNat) x2 (hI1 1320 0 _) hx2) lm_X12_293 ls_X12_was dX12_whereOf_7 rfl rfl trivial (by decide) (Nat.le_of_ble_eq_true rfl) csOK_0 h (fun r4 hr5 h => ?_)
  show Z κ (0, 0) _ 10 _ [vi r4] ad σ
  refine z_if_eq C 17 (inr_b hr5) dX12_whereOf_10 (by decide) (fun q6 => ?_) (fun q6 => ?_)
  · have h := (wpO_ite.mp h).1 q6
    refine z_aload_n C 0 dX12_whereOf_17 rfl ?_
    refine z_gA T C li_X12_59 (sg_12 T) dX12_whereOf_18 ?_
    refine z_iload_n C 1 dX12_whereOf_21 rfl ?_
    obtain ⟨hb7, h⟩ := wpO_ck.mp h
    refine z_iav (v := gI σ 1319 0 x1.toNat) C ar_1319 (sg_1319 T) hx1 hb7 rfl dX12_whereOf_22 ?_
    refine z_iload_n C 2 dX12_whereOf_23 rfl ?_
    refine z_cSp (st := []) T C (ct_X12_was (gI σ 1319 0 x1.toNat) x2 (hI1 1319 0 _) hx2) lm_X12_293 ls_X12_was dX12_whereOf_24 rfl rfl trivial (by decide) (Nat.le_of_ble_eq_true rfl) csOK_0 h (fun r8 hr9 h => ?_)
    show Z κ (0, 0) _ 27 _ [vi r8] ad σ
    refine z_if_eq C 34 (inr_b hr9) dX12_whereOf_27 (by decide) (fun q10 => ?_) (fun q10 => ?_)
    · have h := (wpO_ite.mp h).1 q10
      refine z_aload_n C 0 dX12_whereOf_34 rfl ?_
      refine z_gA T C li_X12_56 (sg_12 T) dX12_whereOf_35 ?_
      refine z_iload_n C 1 dX12_whereOf_38 rfl ?_
      obtain ⟨hb11, h⟩ := wpO_ck.mp h
      refine z_iav (v := gI σ 1318 0 x1.toNat) C ar_1318 (sg_1318 T) hx1 hb11 rfl dX12_whereOf_39 ?_
      refine z_iload_n C 2 dX12_whereOf_40 rfl ?_
      refine z_cSp (st := []) T C (ct_X12_was (gI σ 1318 0 x1.toNat) x2 (hI1 1318 0 _) hx2) lm_X12_293 ls_X12_was dX12_whereOf_41 rfl rfl trivial (by decide) (Nat.le_of_ble_eq_true rfl) csOK_0 h (fun r12 hr13 h => ?_)
      show Z κ (0, 0) _ 44 _ [vi r12] ad σ
      refine z_if_eq C 51 (inr_b hr13) dX12_whereOf_44 (by decide) (fun q14 => ?_) (fun q14 => ?_)
      · have h := (wpO_ite.mp h).1 q14
        refine z_aload_n C 0 dX12_whereOf_51 rfl ?_
        refine z_gA T C li_X12_53 (sg_12 T) dX12_whereOf_52 ?_
        refine z_iload_n C 1 dX12_whereOf_55 rfl ?_
        obtain ⟨hb15, h⟩ := wpO_ck.mp h
        refine z_iav (v := gI σ 1317 0 x1.toNat) C ar_1317 (sg_1317 T) hx1 hb15 rfl dX12_whereOf_56 ?_
        refine z_iload_n C 2 dX12_whereOf_57 rfl ?_
        refine z_icmp_gt C 65 (hI1 1317 0 _) hx2 dX12_whereOf_58 (by decide) (fun q16 => ?_) (fun q16 => ?_)
        · have h := (wpO_ite.mp h).1 q16
          refine z_iconst C dX12_whereOf_65 ?_
          have h := wpO_some.mp h
          exact z_ireturn T C dX12_whereOf_66 (by decide) rfl h
        · have h := (wpO_ite.mp h).2 q16
          refine z_iconst C dX12_whereOf_61 ?_
          refine z_goto C 66 dX12_whereOf_62 (by decide) ?_
          have h := wpO_some.mp h
          exact z_ireturn T C dX12_whereOf_66 (by decide) rfl h
      · have h := (wpO_ite.mp h).2 q14
        refine z_iconst C dX12_whereOf_47 ?_
        refine z_goto C 66 dX12_whereOf_48 (by decide) ?_
        have h := wpO_some.mp h
        exact z_ireturn T C dX12_whereOf_66 (by decide) rfl h
    · have h := (wpO_ite.mp h).2 q10
      refine z_iconst C dX12_whereOf_30 ?_
      refine z_goto C 66 dX12_whereOf_31 (by decide) ?_
      have h := wpO_some.mp h
      exact z_ireturn T C dX12_whereOf_66 (by decide) rfl h
  · have h := (wpO_ite.mp h).2 q6
    refine z_iconst C dX12_whereOf_13 ?_
    refine z_goto C 66 dX12_whereOf_14 (by decide) ?_
    have h := wpO_some.mp h
    exact z_ireturn T C dX12_whereOf_66 (by decide) rfl h
noncomputable def fX12_come (x1 : Int) (σ : St) : Option (Int × St) :=
  bnk (fX12_isShot x1 σ) (fun r3 => if r3 = 0 then (some ((-1), σ)) else (bnk (fX12_whereOf x1 (gI σ 1300 0 0) σ) (fun r6 => if r6 = 2 then (ck (0 ≤ x1 ∧ x1 < 40) (if gI σ 1321 0 x1.toNat ≤ gI σ 1300 0 0 then (ck (0 ≤ x1 ∧ x1 < 40) (ck (0 ≤ x1 ∧ x1 < 40) (ck (inr ((gI σ 1300 0 0) - (gI σ 1321 0 x1.toNat))) (some ((gI σ 1300 0 0) - (gI σ 1321 0 x1.toNat), sI σ 1319 0 x1.toNat (gI σ 1300 0 0)))))) else (some ((-3), σ)))) else (some ((-3), σ)))))
set_option maxRecDepth 20000 in
set_option maxHeartbeats 4000000 in
theorem ct_X12_come (x1 : Int) (hx1 : inr x1) : Ct yX12_come cX12_come 2 (some .int) 2 (fun ad => [vo ad 12 (some 0), vi x1]) (fX12_come x1) enI okI (fun _ => True) := by
  refine Ct.of (by decide) (fun ad => Nat.le_of_ble_eq_true rfl) ?_
  intro κ ad σ X C T hpre h
  have C : Cx κ RX12 cX12_come 2 (some .int) 2 := C
  unfold fX12_come at h
  show Z κ (0, 0) (Qm κ ad σ enI okI X) 0 [(0, vo ad 12 (some 0)), (1, vi x1)] [] ad σ
  refine z_rng (fun hI1 hJ2 => ?_)
  refine z_aload_n C 0 dX12_come_0 rfl ?_
  refine z_iload_n C 1 dX12_come_1 rfl ?_
  refine z_cVp (st := []) T C (ct_X12_isShot x1 hx1) lm_X12_290 lv_vX12_isShot dX12_come_2 [vi x1] rfl rfl rfl rfl rfl (sg_12 T) trivial (by decide) (Nat.le_of_ble_eq_true rfl) csOK_0 h (fun r3 hr4 h => ?_)
  show Z κ (0, 0) _ 5 _ [vi r3] ad σ
  refine z_if_ne C 10 (inr_b hr4) dX12_come_5 (by decide) (fun q5 => ?_) (fun q5 => ?_)
  · have h := (wpO_ite.mp h).2 q5
    refine z_aload_n C 0 dX12_come_10 rfl ?_
    refine z_iload_n C 1 dX12_come_11 rfl ?_
    refine z_aload_n C 0 dX12_come_12 rfl ?_
    refine z_gIv (v := gI σ 1300 0 0) C li_X12_255 (sg_12 T) rfl dX12_come_13 ?_
    refine z_cVp (st := []) T C (ct_X12_whereOf x1 (gI σ 1300 0 0) hx1 (hI1 1300 0 _)) lm_X12_297 lv_vX12_whereOf dX12_come_16 [vi x1, vi (gI σ 1300 0 0)] rfl rfl rfl rfl rfl (sg_12 T) trivial (by decide) (Nat.le_of_ble_eq_true rfl) csOK_0 h (fun r6 hr7 h => ?_)
    show Z κ (0, 0) _ 19 _ [vi r6] ad σ
    refine z_iconst C dX12_come_19 ?_
    refine z_icmp_ne C 36 hr7 (by decide) dX12_come_20 (by decide) (fun q8 => ?_) (fun q8 => ?_)
    · have h := (wpO_ite.mp h).2 q8
      refine z_bipush C dX12_come_36 (by decide) ?_
      have h := wpO_some.mp h
      exact z_ireturn T C dX12_come_38 (by decide) rfl h
    · have h := (wpO_ite.mp h).1 q8
      refine z_aload_n C 0 dX12_come_23 rfl ?_
      refine z_gA T C li_X12_65 (sg_12 T) dX12_come_24 ?_
      refine z_iload_n C 1 dX12_come_27 rfl ?_
      obtain ⟨hb9, h⟩ := wpO_ck.mp h
      refine z_iav (v := gI σ 1321 0 x1.toNat) C ar_1321 (sg_1321 T) hx1 hb9 rfl dX12_come_28 ?_
      refine z_aload_n C 0 dX12_come_29 rfl ?_
      refine z_gIv (v := gI σ 1300 0 0) C li_X12_255 (sg_12 T) rfl dX12_come_30 ?_
      refine z_icmp_le C 39 (hI1 1321 0 _) (hI1 1300 0 _) dX12_come_33 (by decide) (fun q10 => ?_) (fun q10 => ?_)
      · have h := (wpO_ite.mp h).1 q10
        refine z_aload_n C 0 dX12_come_39 rfl ?_
        refine z_gA T C li_X12_59 (sg_12 T) dX12_come_40 ?_
        refine z_iload_n C 1 dX12_come_43 rfl ?_
        refine z_aload_n C 0 dX12_come_44 rfl ?_
        refine z_gIv (v := gI σ 1300 0 0) C li_X12_255 (sg_12 T) rfl dX12_come_45 ?_
        obtain ⟨hb11, h⟩ := wpO_ck.mp h
        refine z_iastore C ar_1319 (sg_1319 T) hx1 hb11 (hI1 1300 0 _) dX12_come_48 ?_
        refine z_aload_n C 0 dX12_come_49 rfl ?_
        refine z_gIv (v := gI σ 1300 0 0) C li_X12_255 (sg_12 T) (gn (by decide) rfl) dX12_come_50 ?_
        refine z_aload_n C 0 dX12_come_53 rfl ?_
        refine z_gA T C li_X12_65 (sg_12 T) dX12_come_54 ?_
        refine z_iload_n C 1 dX12_come_57 rfl ?_
        obtain ⟨hb12, h⟩ := wpO_ck.mp h
        refine z_iav (v := gI σ 1321 0 x1.toNat) C ar_1321 (sg_1321 T) hx1 hb12 (gn (by decide) rfl) dX12_come_58 ?_
        obtain ⟨hk13, h⟩ := wpO_ck.mp h
        refine z_isub C dX12_come_59 ?_
        have h := wpO_some.mp h
        exact z_ireturn T C dX12_come_60 hk13 rfl h
      · have h := (wpO_ite.mp h).2 q10
        refine z_bipush C dX12_come_36 (by decide) ?_
        have h := wpO_some.mp h
        exact z_ireturn T C dX12_come_38 (by decide) rfl h
  · have h := (wpO_ite.mp h).1 q5
    refine z_iconst C dX12_come_8 ?_
    have h := wpO_some.mp h
    exact z_ireturn T C dX12_come_9 (by decide) rfl h
noncomputable def fX12_cost_j66 (x2 : Int) (σ : St) : Option Int :=
  some x2
noncomputable def fX12_cost_l14 (x1 : Int) (σ : St) (x2 : Int) (x3 : Int) : Option ((Int × Int) ⊕ Int) :=
  ck (0 ≤ x1 ∧ x1 < 8) (if gI σ 1331 0 x1.toNat ≤ x3 then (some (.inr x2)) else (ck (inr (6 * x1)) (ck (inr ((6 * x1) + x3)) (ck (0 ≤ (6 * x1) + x3 ∧ (6 * x1) + x3 < 48) (ck (0 ≤ gI σ 1332 0 (((6 * x1) + x3).toNat) ∧ gI σ 1332 0 (((6 * x1) + x3).toNat) < 40) (ck (0 ≤ gI σ 1332 0 (((6 * x1) + x3).toNat) ∧ gI σ 1332 0 (((6 * x1) + x3).toNat) < 40) (ck (0 ≤ gI σ 1316 0 ((gI σ 1332 0 (((6 * x1) + x3).toNat)).toNat) ∧ gI σ 1316 0 ((gI σ 1332 0 (((6 * x1) + x3).toNat)).toNat) < 3) (ck (inr ((gI σ 1313 0 ((gI σ 1332 0 (((6 * x1) + x3).toNat)).toNat)) * (gI σ 1336 0 ((gI σ 1316 0 ((gI σ 1332 0 (((6 * x1) + x3).toNat)).toNat)).toNat)))) (ck (inr (x2 + ((gI σ 1313 0 ((gI σ 1332 0 (((6 * x1) + x3).toNat)).toNat)) * (gI σ 1336 0 ((gI σ 1316 0 ((gI σ 1332 0 (((6 * x1) + x3).toNat)).toNat)).toNat))))) (ck (inr (x3 + 1)) (some (.inl ((x2 + ((gI σ 1313 0 ((gI σ 1332 0 (((6 * x1) + x3).toNat)).toNat)) * (gI σ 1336 0 ((gI σ 1316 0 ((gI σ 1332 0 (((6 * x1) + x3).toNat)).toNat)).toNat))), x3 + 1))))))))))))))
noncomputable def fX12_cost_j14 (x1 : Int) (x2 : Int) (x3 : Int) (σ : St) : Option Int :=
  bnk (wh (fun s => fX12_cost_l14 x1 σ s.1 s.2) ((x2, x3))) (fun e => fX12_cost_j66 e σ)
noncomputable def fX12_cost (x1 : Int) (σ : St) : Option Int :=
  bnk (fX12_isStory x1 σ) (fun r18 => if r18 = 0 then (some ((-1))) else (fX12_cost_j14 x1 0 0 σ))
set_option maxRecDepth 20000 in
set_option maxHeartbeats 4000000 in
theorem ct_X12_cost (x1 : Int) (hx1 : inr x1) : Ct yX12_cost cX12_cost 5 (some .int) 2 (fun ad => [vo ad 12 (some 0), vi x1]) (pu (fX12_cost x1)) enI okI (fun _ => True) := by
  refine Ct.of (by decide) (fun ad => Nat.le_of_ble_eq_true rfl) ?_
  intro κ ad σ X C T hpre h
  have C : Cx κ RX12 cX12_cost 5 (some .int) 2 := C
  have h := wpO_pu.mp h
  unfold fX12_cost at h
  have J66 : ∀ (x2 : Int), inr x2 → wpO (fX12_cost_j66 x2 σ) (fun r => X r σ) → Z κ (0, 0) (Qm κ ad σ enI okI X) 66 [(2, vi x2)] [] ad σ := by
    intro x2 hx2 h
    unfold fX12_cost_j66 at h
    refine z_rng (fun hI1 hJ2 => ?_)
    refine z_iload_n C 0 dX12_cost_66 rfl ?_
    have h := wpO_some.mp h
    exact z_ireturn T C dX12_cost_67 hx2 rfl h
  have J14 : ∀ (x1 : Int) (x2 : Int) (x3 : Int), inr x1 → inr x2 → inr x3 → wpO (fX12_cost_j14 x1 x2 x3 σ) (fun r => X r σ) → Z κ (0, 0) (Qm κ ad σ enI okI X) 14 [(0, vo ad 12 (some 0)), (1, vi x1), (2, vi x2), (3, vi x3)] [] ad σ := by
    intro x1 x2 x3 hx1 hx2 hx3 h
    unfold fX12_cost_j14 at h
    have step : ∀ (P14 : (Int × Int) → Prop) (Q14 : Int → Prop), (∀ (x2 : Int) (x3 : Int), P14 ((x2, x3)) → inr x2 → inr x3 → Z κ (0, 0) (Qm κ ad σ enI okI X) 14 [(0, vo ad 12 (some 0)), (1, vi x1), (2, vi x2), (3, vi x3)] [] ad σ) → (∀ (x2 : Int), Q14 (x2) → inr x2 → Z κ (0, 0) (Qm κ ad σ enI okI X) 66 [(2, vi x2)] [] ad σ) → ∀ (x2 : Int) (x3 : Int), inr x2 → inr x3 → wpO (fX12_cost_l14 x1 σ x2 x3) (onS P14 Q14) → Z κ (0, 0) (Qm κ ad σ enI okI X) 14 [(0, vo ad 12 (some 0)), (1, vi x1), (2, vi x2), (3, vi x3)] [] ad σ := by
      intro P14 Q14 hP14 hE14_66 x2 x3 hx2 hx3 h
      unfold fX12_cost_l14 at h
      refine z_rng (fun hI3 hJ4 => ?_)
      refine z_iload_n C 3 dX12_cost_14 rfl ?_
      refine z_aload_n C 0 dX12_cost_15 rfl ?_
      refine z_gA T C li_X12_92 (sg_12 T) dX12_cost_16 ?_
      refine z_iload_n C 1 dX12_cost_19 rfl ?_
      obtain ⟨hb5, h⟩ := wpO_ck.mp h
      refine z_iav (v := gI σ 1331 0 x1.toNat) C ar_1331 (sg_1331 T) hx1 hb5 rfl dX12_cost_20 ?_
      refine z_icmp_ge C 66 hx3 (hI3 1331 0 _) dX12_cost_21 (by decide) (fun q6 => ?_) (fun q6 => ?_)
      · have h := (wpO_ite.mp h).1 q6
        refine z_sub [2] rfl ?_
        have h := wpO_some.mp h
        exact hE14_66 x2 h hx2
      · have h := (wpO_ite.mp h).2 q6
        refine z_aload_n C 0 dX12_cost_24 rfl ?_
        refine z_gA T C li_X12_95 (sg_12 T) dX12_cost_25 ?_
        refine z_bipush C dX12_cost_28 (by decide) ?_
        refine z_iload_n C 1 dX12_cost_30 rfl ?_
        obtain ⟨hk7, h⟩ := wpO_ck.mp h
        refine z_imul C dX12_cost_31 ?_
        refine z_iload_n C 3 dX12_cost_32 rfl ?_
        obtain ⟨hk8, h⟩ := wpO_ck.mp h
        refine z_iadd C dX12_cost_33 ?_
        obtain ⟨hb9, h⟩ := wpO_ck.mp h
        refine z_iav (v := gI σ 1332 0 (((6 * x1) + x3).toNat)) C ar_1332 (sg_1332 T) hk8 hb9 rfl dX12_cost_34 ?_
        refine z_istore (lv2 := [(4, vi (gI σ 1332 0 (((6 * x1) + x3).toNat))), (0, vo ad 12 (some 0)), (1, vi x1), (2, vi x2), (3, vi x3)]) C dX12_cost_35 (by decide) rfl ?_
        refine z_iload_n C 3 dX12_cost_37 rfl ?_
        refine z_aload_n C 1 dX12_cost_38 rfl ?_
        refine z_gA T C li_X12_41 (sg_12 T) dX12_cost_39 ?_
        refine z_iload C 0 dX12_cost_42 rfl ?_
        obtain ⟨hb10, h⟩ := wpO_ck.mp h
        refine z_iav (v := gI σ 1313 0 ((gI σ 1332 0 (((6 * x1) + x3).toNat)).toNat)) C ar_1313 (sg_1313 T) (hI3 1332 0 _) hb10 rfl dX12_cost_44 ?_
        refine z_aload_n C 1 dX12_cost_45 rfl ?_
        refine z_gA T C li_X12_108 (sg_12 T) dX12_cost_46 ?_
        refine z_aload_n C 1 dX12_cost_49 rfl ?_
        refine z_gA T C li_X12_50 (sg_12 T) dX12_cost_50 ?_
        refine z_iload C 0 dX12_cost_53 rfl ?_
        obtain ⟨hb11, h⟩ := wpO_ck.mp h
        refine z_iav (v := gI σ 1316 0 ((gI σ 1332 0 (((6 * x1) + x3).toNat)).toNat)) C ar_1316 (sg_1316 T) (hI3 1332 0 _) hb11 rfl dX12_cost_55 ?_
        obtain ⟨hb12, h⟩ := wpO_ck.mp h
        refine z_iav (v := gI σ 1336 0 ((gI σ 1316 0 ((gI σ 1332 0 (((6 * x1) + x3).toNat)).toNat)).toNat)) C ar_1336 (sg_1336 T) (hI3 1316 0 _) hb12 rfl dX12_cost_56 ?_
        obtain ⟨hk13, h⟩ := wpO_ck.mp h
        refine z_imul C dX12_cost_57 ?_
        obtain ⟨hk14, h⟩ := wpO_ck.mp h
        refine z_iadd C dX12_cost_58 ?_
        refine z_istore_n (lv2 := [(2, vi (x2 + ((gI σ 1313 0 ((gI σ 1332 0 (((6 * x1) + x3).toNat)).toNat)) * (gI σ 1336 0 ((gI σ 1316 0 ((gI σ 1332 0 (((6 * x1) + x3).toNat)).toNat)).toNat))))), (4, vi (gI σ 1332 0 (((6 * x1) + x3).toNat))), (0, vo ad 12 (some 0)), (1, vi x1), (3, vi x3)]) C dX12_cost_59 (by decide) rfl ?_
        obtain ⟨hk15, h⟩ := wpO_ck.mp h
        refine z_iinc (lv2 := [(3, vi (x3 + 1)), (2, vi (x2 + ((gI σ 1313 0 ((gI σ 1332 0 (((6 * x1) + x3).toNat)).toNat)) * (gI σ 1336 0 ((gI σ 1316 0 ((gI σ 1332 0 (((6 * x1) + x3).toNat)).toNat)).toNat))))), (4, vi (gI σ 1332 0 (((6 * x1) + x3).toNat))), (0, vo ad 12 (some 0)), (1, vi x1)]) C 4 dX12_cost_60 rfl (by decide) rfl ?_
        refine z_goto C 14 dX12_cost_63 (by decide) ?_
        refine z_sub [3, 4, 1, 0] rfl ?_
        have h := wpO_some.mp h
        exact hP14 (x2 + ((gI σ 1313 0 ((gI σ 1332 0 (((6 * x1) + x3).toNat)).toNat)) * (gI σ 1336 0 ((gI σ 1316 0 ((gI σ 1332 0 (((6 * x1) + x3).toNat)).toNat)).toNat)))) (x3 + 1) h hk14 hk15
    exact wh_ind (P := fun s : (Int × Int) => inr s.1 → inr s.2 → Z κ (0, 0) (Qm κ ad σ enI okI X) 14 [(0, vo ad 12 (some 0)), (1, vi x1), (2, vi s.1), (3, vi s.2)] [] ad σ) (fun s hs g0 g1 => step _ _ (fun _ _ hp => hp) (fun x2 hq hx2 => J66 x2 hx2 hq) s.1 s.2 g0 g1 hs) ((x2, x3)) (wpO_bnk.mp h) hx2 hx3
  show Z κ (0, 0) (Qm κ ad σ enI okI X) 0 [(0, vo ad 12 (some 0)), (1, vi x1)] [] ad σ
  refine z_rng (fun hI16 hJ17 => ?_)
  refine z_aload_n C 0 dX12_cost_0 rfl ?_
  refine z_iload_n C 1 dX12_cost_1 rfl ?_
  refine z_cVp (st := []) T C (ct_X12_isStory x1 hx1) lm_X12_316 lv_vX12_isStory dX12_cost_2 [vi x1] rfl rfl rfl rfl rfl (sg_12 T) trivial (by decide) (Nat.le_of_ble_eq_true rfl) csOK_0 h (fun r18 hr19 h => ?_)
  show Z κ (0, 0) _ 5 _ [vi r18] ad σ
  refine z_if_ne C 10 (inr_b hr19) dX12_cost_5 (by decide) (fun q20 => ?_) (fun q20 => ?_)
  · have h := (wpO_ite.mp h).2 q20
    refine z_iconst C dX12_cost_10 ?_
    refine z_istore_n (lv2 := [(2, vi 0), (0, vo ad 12 (some 0)), (1, vi x1)]) C dX12_cost_11 (by decide) rfl ?_
    refine z_iconst C dX12_cost_12 ?_
    refine z_istore_n (lv2 := [(3, vi 0), (2, vi 0), (0, vo ad 12 (some 0)), (1, vi x1)]) C dX12_cost_13 (by decide) rfl ?_
    refine z_sub [2, 3, 1, 0] rfl ?_
    exact J14 x1 0 0 hx1 (by decide) (by decide) h
  · have h := (wpO_ite.mp h).1 q20
    refine z_iconst C dX12_cost_8 ?_
    have h := wpO_some.mp h
    exact z_ireturn T C dX12_cost_9 (by decide) rfl h
noncomputable def fX12_count_j39 (x1 : Int) (x2 : Int) (σ : St) : Option Int :=
  if x1 = 0 then (some (gI σ 1310 0 0)) else (if x1 = 1 then (some x2) else (if x1 = 2 then (some (gI σ 1326 0 0)) else (if x1 = 3 then (some (gI σ 1337 0 0)) else (if x1 = 4 then (some (gI σ 1349 0 0)) else (if x1 = 5 then (some (gI σ 1369 0 0)) else (if x1 = 6 then (some (gI σ 1378 0 0)) else (if x1 = 7 then (some (gI σ 1300 0 0)) else (some ((-2))))))))))
noncomputable def fX12_count_j31 (x1 : Int) (x3 : Int) (s0 : Int) (s1 : Int) (σ : St) : Option ((Int × Int) ⊕ Int) :=
  ck (inr (s0 + s1)) (ck (inr (x3 + 1)) (some (.inl ((s0 + s1, x3 + 1)))))
noncomputable def fX12_count_l4 (x1 : Int) (σ : St) (x2 : Int) (x3 : Int) : Option ((Int × Int) ⊕ Int) :=
  if gI σ 1310 0 0 ≤ x3 then (some (.inr x2)) else (bnk (fX12_whereOf x3 (gI σ 1300 0 0) σ) (fun r18 => if r18 = 3 then (fX12_count_j31 x1 x3 x2 1 σ) else (fX12_count_j31 x1 x3 x2 0 σ)))
noncomputable def fX12_count_j4 (x1 : Int) (x2 : Int) (x3 : Int) (σ : St) : Option Int :=
  bnk (wh (fun s => fX12_count_l4 x1 σ s.1 s.2) ((x2, x3))) (fun e => fX12_count_j39 x1 e σ)
noncomputable def fX12_count (x1 : Int) (σ : St) : Option Int :=
  fX12_count_j4 x1 0 0 σ
set_option maxRecDepth 20000 in
set_option maxHeartbeats 4000000 in
theorem ct_X12_count (x1 : Int) (hx1 : inr x1) : Ct yX12_count cX12_count 4 (some .int) 2 (fun ad => [vo ad 12 (some 0), vi x1]) (pu (fX12_count x1)) enI okI (fun _ => True) := by
  refine Ct.of (by decide) (fun ad => Nat.le_of_ble_eq_true rfl) ?_
  intro κ ad σ X C T hpre h
  have C : Cx κ RX12 cX12_count 4 (some .int) 2 := C
  have h := wpO_pu.mp h
  unfold fX12_count at h
  have J39 : ∀ (x1 : Int) (x2 : Int), inr x1 → inr x2 → wpO (fX12_count_j39 x1 x2 σ) (fun r => X r σ) → Z κ (0, 0) (Qm κ ad σ enI okI X) 39 [(0, vo ad 12 (some 0)), (1, vi x1), (2, vi x2)] [] ad σ := by
    intro x1 x2 hx1 hx2 h
    unfold fX12_count_j39 at h
    refine z_rng (fun hI1 hJ2 => ?_)
    refine z_iload_n C 1 dX12_count_39 rfl ?_
    by_cases q3 : x1 = 0
    · have h := (wpO_ite.mp h).1 q3
      refine z_tableIn (off := 48) C 88 hx1 dX12_count_40 (by omega) (by omega) (by rw [q3]; rfl) (by decide) ?_
      refine z_aload_n C 0 dX12_count_88 rfl ?_
      refine z_gIv (v := gI σ 1310 0 0) C li_X12_279 (sg_12 T) rfl dX12_count_89 ?_
      have h := wpO_some.mp h
      exact z_ireturn T C dX12_count_92 (hI1 1310 0 _) rfl h
    have h := (wpO_ite.mp h).2 q3
    by_cases q4 : x1 = 1
    · have h := (wpO_ite.mp h).1 q4
      refine z_tableIn (off := 53) C 93 hx1 dX12_count_40 (by omega) (by omega) (by rw [q4]; rfl) (by decide) ?_
      refine z_iload_n C 2 dX12_count_93 rfl ?_
      have h := wpO_some.mp h
      exact z_ireturn T C dX12_count_94 hx2 rfl h
    have h := (wpO_ite.mp h).2 q4
    by_cases q5 : x1 = 2
    · have h := (wpO_ite.mp h).1 q5
      refine z_tableIn (off := 55) C 95 hx1 dX12_count_40 (by omega) (by omega) (by rw [q5]; rfl) (by decide) ?_
      refine z_aload_n C 0 dX12_count_95 rfl ?_
      refine z_gIv (v := gI σ 1326 0 0) C li_X12_311 (sg_12 T) rfl dX12_count_96 ?_
      have h := wpO_some.mp h
      exact z_ireturn T C dX12_count_99 (hI1 1326 0 _) rfl h
    have h := (wpO_ite.mp h).2 q5
    by_cases q6 : x1 = 3
    · have h := (wpO_ite.mp h).1 q6
      refine z_tableIn (off := 60) C 100 hx1 dX12_count_40 (by omega) (by omega) (by rw [q6]; rfl) (by decide) ?_
      refine z_aload_n C 0 dX12_count_100 rfl ?_
      refine z_gIv (v := gI σ 1337 0 0) C li_X12_336 (sg_12 T) rfl dX12_count_101 ?_
      have h := wpO_some.mp h
      exact z_ireturn T C dX12_count_104 (hI1 1337 0 _) rfl h
    have h := (wpO_ite.mp h).2 q6
    by_cases q7 : x1 = 4
    · have h := (wpO_ite.mp h).1 q7
      refine z_tableIn (off := 65) C 105 hx1 dX12_count_40 (by omega) (by omega) (by rw [q7]; rfl) (by decide) ?_
      refine z_aload_n C 0 dX12_count_105 rfl ?_
      refine z_gIv (v := gI σ 1349 0 0) C li_X12_397 (sg_12 T) rfl dX12_count_106 ?_
      have h := wpO_some.mp h
      exact z_ireturn T C dX12_count_109 (hI1 1349 0 _) rfl h
    have h := (wpO_ite.mp h).2 q7
    by_cases q8 : x1 = 5
    · have h := (wpO_ite.mp h).1 q8
      refine z_tableIn (off := 70) C 110 hx1 dX12_count_40 (by omega) (by omega) (by rw [q8]; rfl) (by decide) ?_
      refine z_aload_n C 0 dX12_count_110 rfl ?_
      refine z_gIv (v := gI σ 1369 0 0) C li_X12_436 (sg_12 T) rfl dX12_count_111 ?_
      have h := wpO_some.mp h
      exact z_ireturn T C dX12_count_114 (hI1 1369 0 _) rfl h
    have h := (wpO_ite.mp h).2 q8
    by_cases q9 : x1 = 6
    · have h := (wpO_ite.mp h).1 q9
      refine z_tableIn (off := 75) C 115 hx1 dX12_count_40 (by omega) (by omega) (by rw [q9]; rfl) (by decide) ?_
      refine z_aload_n C 0 dX12_count_115 rfl ?_
      refine z_gIv (v := gI σ 1378 0 0) C li_X12_460 (sg_12 T) rfl dX12_count_116 ?_
      have h := wpO_some.mp h
      exact z_ireturn T C dX12_count_119 (hI1 1378 0 _) rfl h
    have h := (wpO_ite.mp h).2 q9
    by_cases q10 : x1 = 7
    · have h := (wpO_ite.mp h).1 q10
      refine z_tableIn (off := 80) C 120 hx1 dX12_count_40 (by omega) (by omega) (by rw [q10]; rfl) (by decide) ?_
      refine z_aload_n C 0 dX12_count_120 rfl ?_
      refine z_gIv (v := gI σ 1300 0 0) C li_X12_255 (sg_12 T) rfl dX12_count_121 ?_
      have h := wpO_some.mp h
      exact z_ireturn T C dX12_count_124 (hI1 1300 0 _) rfl h
    have h := (wpO_ite.mp h).2 q10
    refine z_tableOut C 125 hx1 dX12_count_40 (by omega) (by decide) ?_
    refine z_bipush C dX12_count_125 (by decide) ?_
    have h := wpO_some.mp h
    exact z_ireturn T C dX12_count_127 (by decide) rfl h
  have J4 : ∀ (x1 : Int) (x2 : Int) (x3 : Int), inr x1 → inr x2 → inr x3 → wpO (fX12_count_j4 x1 x2 x3 σ) (fun r => X r σ) → Z κ (0, 0) (Qm κ ad σ enI okI X) 4 [(0, vo ad 12 (some 0)), (1, vi x1), (2, vi x2), (3, vi x3)] [] ad σ := by
    intro x1 x2 x3 hx1 hx2 hx3 h
    unfold fX12_count_j4 at h
    have step : ∀ (P4 : (Int × Int) → Prop) (Q4 : Int → Prop), (∀ (x2 : Int) (x3 : Int), P4 ((x2, x3)) → inr x2 → inr x3 → Z κ (0, 0) (Qm κ ad σ enI okI X) 4 [(0, vo ad 12 (some 0)), (1, vi x1), (2, vi x2), (3, vi x3)] [] ad σ) → (∀ (x2 : Int), Q4 (x2) → inr x2 → Z κ (0, 0) (Qm κ ad σ enI okI X) 39 [(0, vo ad 12 (some 0)), (1, vi x1), (2, vi x2)] [] ad σ) → ∀ (x2 : Int) (x3 : Int), inr x2 → inr x3 → wpO (fX12_count_l4 x1 σ x2 x3) (onS P4 Q4) → Z κ (0, 0) (Qm κ ad σ enI okI X) 4 [(0, vo ad 12 (some 0)), (1, vi x1), (2, vi x2), (3, vi x3)] [] ad σ := by
      intro P4 Q4 hP4 hE4_39 x2 x3 hx2 hx3 h
      unfold fX12_count_l4 at h
      have J31 : ∀ (x3 : Int) (s0 : Int) (s1 : Int), inr x3 → inr s0 → inr s1 → wpO (fX12_count_j31 x1 x3 s0 s1 σ) (onS P4 Q4) → Z κ (0, 0) (Qm κ ad σ enI okI X) 31 [(0, vo ad 12 (some 0)), (1, vi x1), (3, vi x3)] [vi s1, vi s0] ad σ := by
        intro x3 s0 s1 hx3 hs0 hs1 h
        unfold fX12_count_j31 at h
        refine z_rng (fun hI11 hJ12 => ?_)
        obtain ⟨hk13, h⟩ := wpO_ck.mp h
        refine z_iadd C dX12_count_31 ?_
        refine z_istore_n (lv2 := [(2, vi (s0 + s1)), (0, vo ad 12 (some 0)), (1, vi x1), (3, vi x3)]) C dX12_count_32 (by decide) rfl ?_
        obtain ⟨hk14, h⟩ := wpO_ck.mp h
        refine z_iinc (lv2 := [(3, vi (x3 + 1)), (2, vi (s0 + s1)), (0, vo ad 12 (some 0)), (1, vi x1)]) C 3 dX12_count_33 rfl (by decide) rfl ?_
        refine z_goto C 4 dX12_count_36 (by decide) ?_
        refine z_sub [2, 3, 1, 0] rfl ?_
        have h := wpO_some.mp h
        exact hP4 (s0 + s1) (x3 + 1) h hk13 hk14
      refine z_rng (fun hI15 hJ16 => ?_)
      refine z_iload_n C 3 dX12_count_4 rfl ?_
      refine z_aload_n C 0 dX12_count_5 rfl ?_
      refine z_gIv (v := gI σ 1310 0 0) C li_X12_279 (sg_12 T) rfl dX12_count_6 ?_
      refine z_icmp_ge C 39 hx3 (hI15 1310 0 _) dX12_count_9 (by decide) (fun q17 => ?_) (fun q17 => ?_)
      · have h := (wpO_ite.mp h).1 q17
        refine z_sub [0, 1, 2] rfl ?_
        have h := wpO_some.mp h
        exact hE4_39 x2 h hx2
      · have h := (wpO_ite.mp h).2 q17
        refine z_iload_n C 2 dX12_count_12 rfl ?_
        refine z_aload_n C 0 dX12_count_13 rfl ?_
        refine z_iload_n C 3 dX12_count_14 rfl ?_
        refine z_aload_n C 0 dX12_count_15 rfl ?_
        refine z_gIv (v := gI σ 1300 0 0) C li_X12_255 (sg_12 T) rfl dX12_count_16 ?_
        refine z_cVp (st := [vi x2]) T C (ct_X12_whereOf x3 (gI σ 1300 0 0) hx3 (hI15 1300 0 _)) lm_X12_297 lv_vX12_whereOf dX12_count_19 [vi x3, vi (gI σ 1300 0 0)] rfl rfl rfl rfl rfl (sg_12 T) trivial (by decide) (Nat.le_of_ble_eq_true rfl) csOK_0 h (fun r18 hr19 h => ?_)
        show Z κ (0, 0) _ 22 _ [vi r18, vi x2] ad σ
        refine z_iconst C dX12_count_22 ?_
        refine z_icmp_ne C 30 hr19 (by decide) dX12_count_23 (by decide) (fun q20 => ?_) (fun q20 => ?_)
        · have h := (wpO_ite.mp h).2 q20
          refine z_iconst C dX12_count_30 ?_
          refine z_sub [0, 1, 3] rfl ?_
          exact J31 x3 x2 0 hx3 hx2 (by decide) h
        · have h := (wpO_ite.mp h).1 q20
          refine z_iconst C dX12_count_26 ?_
          refine z_goto C 31 dX12_count_27 (by decide) ?_
          refine z_sub [0, 1, 3] rfl ?_
          exact J31 x3 x2 1 hx3 hx2 (by decide) h
    exact wh_ind (P := fun s : (Int × Int) => inr s.1 → inr s.2 → Z κ (0, 0) (Qm κ ad σ enI okI X) 4 [(0, vo ad 12 (some 0)), (1, vi x1), (2, vi s.1), (3, vi s.2)] [] ad σ) (fun s hs g0 g1 => step _ _ (fun _ _ hp => hp) (fun x2 hq hx2 => J39 x1 x2 hx1 hx2 hq) s.1 s.2 g0 g1 hs) ((x2, x3)) (wpO_bnk.mp h) hx2 hx3
  show Z κ (0, 0) (Qm κ ad σ enI okI X) 0 [(0, vo ad 12 (some 0)), (1, vi x1)] [] ad σ
  refine z_rng (fun hI21 hJ22 => ?_)
  refine z_iconst C dX12_count_0 ?_
  refine z_istore_n (lv2 := [(2, vi 0), (0, vo ad 12 (some 0)), (1, vi x1)]) C dX12_count_1 (by decide) rfl ?_
  refine z_iconst C dX12_count_2 ?_
  refine z_istore_n (lv2 := [(3, vi 0), (2, vi 0), (0, vo ad 12 (some 0)), (1, vi x1)]) C dX12_count_3 (by decide) rfl ?_
  refine z_sub [2, 3, 1, 0] rfl ?_
  exact J4 x1 0 0 hx1 (by decide) (by decide) h
noncomputable def fX12_cover (σ : St) : Option (Int × St) :=
  bnd (fX12_bestCover σ) (fun r3 σ5 => some (r3, σ5))
set_option maxRecDepth 20000 in
set_option maxHeartbeats 4000000 in
theorem ct_X12_cover  : Ct yX12_cover cX12_cover 1 (some .int) 5 (fun ad => [vo ad 12 (some 0)]) fX12_cover enI okI (fun _ => True) := by
  refine Ct.of (by decide) (fun ad => Nat.le_of_ble_eq_true rfl) ?_
  intro κ ad σ X C T hpre h
  have C : Cx κ RX12 cX12_cover 1 (some .int) 5 := C
  unfold fX12_cover at h
  show Z κ (0, 0) (Qm κ ad σ enI okI X) 0 [(0, vo ad 12 (some 0))] [] ad σ
  refine z_rng (fun hI1 hJ2 => ?_)
  refine z_aload_n C 0 dX12_cover_0 rfl ?_
  refine z_cV (st := []) T C ct_X12_bestCover lm_X12_454 lv_vX12_bestCover dX12_cover_1 [] rfl rfl rfl rfl rfl (sg_12 T) trivial (by decide) (Nat.le_of_ble_eq_true rfl) csOK_0 h (fun r3 σ5 hr4 eN6 h => ?_)
  show Z κ (0, 0) _ 4 _ [vi r3] ad σ5
  refine z_rng (fun hI7 hJ8 => ?_)
  have h := wpO_some.mp h
  exact z_ireturn T C dX12_cover_4 hr4 eN6 h
noncomputable def fX12_covered_j117 (x3 : Int) (x4 : Int) (σ1 : St) : Option (Int × St) :=
  if x4 = 0 then (if x3 = 0 then (some (0, σ1)) else (some (1, σ1))) else (some (2, σ1))
noncomputable def fX12_covered_j111 (x1 : Int) (x2 : Int) (x3 : Int) (x4 : Int) (x5 : Int) (σ1 : St) : Option ((Int × Int × Int) ⊕ (Int × Int)) :=
  ck (inr (x5 + 1)) (some (.inl ((x3, x4, x5 + 1))))
noncomputable def fX12_covered_j109 (x1 : Int) (x2 : Int) (x3 : Int) (x5 : Int) (s0 : Int) (σ1 : St) : Option ((Int × Int × Int) ⊕ (Int × Int)) :=
  fX12_covered_j111 x1 x2 x3 s0 x5 σ1
noncomputable def fX12_covered_j108 (x1 : Int) (x2 : Int) (x3 : Int) (x5 : Int) (σ1 : St) : Option ((Int × Int × Int) ⊕ (Int × Int)) :=
  fX12_covered_j109 x1 x2 x3 x5 0 σ1
noncomputable def fX12_covered_j93 (x1 : Int) (x2 : Int) (x4 : Int) (x5 : Int) (x6 : Int) (s0 : Int) (σ1 : St) : Option ((Int × Int × Int) ⊕ (Int × Int)) :=
  if x4 = 0 then (fX12_covered_j108 x1 x2 s0 x5 σ1) else (if x6 = 0 then (fX12_covered_j108 x1 x2 s0 x5 σ1) else (fX12_covered_j109 x1 x2 s0 x5 1 σ1))
noncomputable def fX12_covered_j88 (x1 : Int) (x2 : Int) (x4 : Int) (x5 : Int) (x6 : Int) (σ1 : St) : Option ((Int × Int × Int) ⊕ (Int × Int)) :=
  fX12_covered_j93 x1 x2 x4 x5 x6 1 σ1
noncomputable def fX12_covered_j77 (x1 : Int) (x2 : Int) (x3 : Int) (x4 : Int) (x5 : Int) (s0 : Int) (σ1 : St) : Option ((Int × Int × Int) ⊕ (Int × Int)) :=
  if x3 = 0 then (if s0 = 0 then (fX12_covered_j93 x1 x2 x4 x5 s0 0 σ1) else (fX12_covered_j88 x1 x2 x4 x5 s0 σ1)) else (fX12_covered_j88 x1 x2 x4 x5 s0 σ1)
noncomputable def fX12_covered_l31 (x1 : Int) (x2 : Int) (σ1 : St) (x3 : Int) (x4 : Int) (x5 : Int) : Option ((Int × Int × Int) ⊕ (Int × Int)) :=
  if ishl 1 (gI σ1 1369 0 0) ≤ x5 then (some (.inr ((x3, x4)))) else (ck (0 ≤ x5 ∧ x5 < 256) (if gI σ1 1374 0 x5.toNat = 0 then (fX12_covered_j111 x1 x2 x3 x4 x5 σ1) else (bnk (fX12_worthOf x5 σ1) (fun r27 => if r27 = x2 then (if iand (ishr x5 x1) 1 = 1 then (fX12_covered_j77 x1 x2 x3 x4 x5 1 σ1) else (fX12_covered_j77 x1 x2 x3 x4 x5 0 σ1)) else (fX12_covered_j111 x1 x2 x3 x4 x5 σ1)))))
noncomputable def fX12_covered_j31 (x1 : Int) (x2 : Int) (x3 : Int) (x4 : Int) (x5 : Int) (σ1 : St) : Option (Int × St) :=
  bnk (wh (fun s => fX12_covered_l31 x1 x2 σ1 s.1 s.2.1 s.2.2) ((x3, x4, x5))) (fun e => fX12_covered_j117 e.1 e.2 σ1)
noncomputable def fX12_covered (x1 : Int) (σ : St) : Option (Int × St) :=
  ck (inr ((gI σ 1369 0 0) - 1)) (bnk (fX12_in x1 0 ((gI σ 1369 0 0) - 1)) (fun r34 => if r34 = 0 then (some ((-1), σ)) else (bnd (fX12_bestCover σ) (fun r37 σ39 => fX12_covered_j31 x1 r37 0 1 0 σ39))))
set_option maxRecDepth 20000 in
set_option maxHeartbeats 4000000 in
theorem ct_X12_covered (x1 : Int) (hx1 : inr x1) : Ct yX12_covered cX12_covered 7 (some .int) 5 (fun ad => [vo ad 12 (some 0), vi x1]) (fX12_covered x1) enI okI (fun _ => True) := by
  refine Ct.of (by decide) (fun ad => Nat.le_of_ble_eq_true rfl) ?_
  intro κ ad σ X C T hpre h
  have C : Cx κ RX12 cX12_covered 7 (some .int) 5 := C
  unfold fX12_covered at h
  have J117 : ∀ (x3 : Int) (x4 : Int) (σ1 : St), inr x3 → inr x4 → σ1.2.2.2 = σ.2.2.2 → wpO (fX12_covered_j117 x3 x4 σ1) (fun q => X q.1 q.2) → Z κ (0, 0) (Qm κ ad σ enI okI X) 117 [(3, vi x3), (4, vi x4)] [] ad σ1 := by
    intro x3 x4 σ1 hx3 hx4 eN1 h
    unfold fX12_covered_j117 at h
    refine z_rng (fun hI1 hJ2 => ?_)
    refine z_iload C 1 dX12_covered_117 rfl ?_
    refine z_if_eq C 126 hx4 dX12_covered_119 (by decide) (fun q3 => ?_) (fun q3 => ?_)
    · have h := (wpO_ite.mp h).1 q3
      refine z_iload_n C 0 dX12_covered_126 rfl ?_
      refine z_if_eq C 134 hx3 dX12_covered_127 (by decide) (fun q4 => ?_) (fun q4 => ?_)
      · have h := (wpO_ite.mp h).1 q4
        refine z_iconst C dX12_covered_134 ?_
        have h := wpO_some.mp h
        exact z_ireturn T C dX12_covered_135 (by decide) eN1 h
      · have h := (wpO_ite.mp h).2 q4
        refine z_iconst C dX12_covered_130 ?_
        refine z_goto C 135 dX12_covered_131 (by decide) ?_
        have h := wpO_some.mp h
        exact z_ireturn T C dX12_covered_135 (by decide) eN1 h
    · have h := (wpO_ite.mp h).2 q3
      refine z_iconst C dX12_covered_122 ?_
      refine z_goto C 135 dX12_covered_123 (by decide) ?_
      have h := wpO_some.mp h
      exact z_ireturn T C dX12_covered_135 (by decide) eN1 h
  have J31 : ∀ (x1 : Int) (x2 : Int) (x3 : Int) (x4 : Int) (x5 : Int) (σ1 : St), inr x1 → inr x2 → inr x3 → inr x4 → inr x5 → σ1.2.2.2 = σ.2.2.2 → wpO (fX12_covered_j31 x1 x2 x3 x4 x5 σ1) (fun q => X q.1 q.2) → Z κ (0, 0) (Qm κ ad σ enI okI X) 31 [(0, vo ad 12 (some 0)), (1, vi x1), (2, vi x2), (3, vi x3), (4, vi x4), (5, vi x5)] [] ad σ1 := by
    intro x1 x2 x3 x4 x5 σ1 hx1 hx2 hx3 hx4 hx5 eN1 h
    unfold fX12_covered_j31 at h
    have step : ∀ (P31 : (Int × Int × Int) → Prop) (Q31 : (Int × Int) → Prop), (∀ (x3 : Int) (x4 : Int) (x5 : Int), P31 ((x3, x4, x5)) → inr x3 → inr x4 → inr x5 → Z κ (0, 0) (Qm κ ad σ enI okI X) 31 [(0, vo ad 12 (some 0)), (1, vi x1), (2, vi x2), (3, vi x3), (4, vi x4), (5, vi x5)] [] ad σ1) → (∀ (x3 : Int) (x4 : Int), Q31 ((x3, x4)) → inr x3 → inr x4 → Z κ (0, 0) (Qm κ ad σ enI okI X) 117 [(3, vi x3), (4, vi x4)] [] ad σ1) → ∀ (x3 : Int) (x4 : Int) (x5 : Int), inr x3 → inr x4 → inr x5 → wpO (fX12_covered_l31 x1 x2 σ1 x3 x4 x5) (onS P31 Q31) → Z κ (0, 0) (Qm κ ad σ enI okI X) 31 [(0, vo ad 12 (some 0)), (1, vi x1), (2, vi x2), (3, vi x3), (4, vi x4), (5, vi x5)] [] ad σ1 := by
      intro P31 Q31 hP31 hE31_117 x3 x4 x5 hx3 hx4 hx5 h
      unfold fX12_covered_l31 at h
      have J111 : ∀ (x3 : Int) (x4 : Int) (x5 : Int), inr x3 → inr x4 → inr x5 → wpO (fX12_covered_j111 x1 x2 x3 x4 x5 σ1) (onS P31 Q31) → Z κ (0, 0) (Qm κ ad σ enI okI X) 111 [(0, vo ad 12 (some 0)), (1, vi x1), (2, vi x2), (3, vi x3), (4, vi x4), (5, vi x5)] [] ad σ1 := by
        intro x3 x4 x5 hx3 hx4 hx5 h
        unfold fX12_covered_j111 at h
        refine z_rng (fun hI5 hJ6 => ?_)
        obtain ⟨hk7, h⟩ := wpO_ck.mp h
        refine z_iinc (lv2 := [(5, vi (x5 + 1)), (0, vo ad 12 (some 0)), (1, vi x1), (2, vi x2), (3, vi x3), (4, vi x4)]) C 5 dX12_covered_111 rfl (by decide) rfl ?_
        refine z_goto C 31 dX12_covered_114 (by decide) ?_
        refine z_sub [1, 2, 3, 4, 5, 0] rfl ?_
        have h := wpO_some.mp h
        exact hP31 x3 x4 (x5 + 1) h hx3 hx4 hk7
      have J109 : ∀ (x3 : Int) (x5 : Int) (s0 : Int), inr x3 → inr x5 → inr s0 → wpO (fX12_covered_j109 x1 x2 x3 x5 s0 σ1) (onS P31 Q31) → Z κ (0, 0) (Qm κ ad σ enI okI X) 109 [(0, vo ad 12 (some 0)), (1, vi x1), (2, vi x2), (3, vi x3), (5, vi x5)] [vi s0] ad σ1 := by
        intro x3 x5 s0 hx3 hx5 hs0 h
        unfold fX12_covered_j109 at h
        refine z_rng (fun hI8 hJ9 => ?_)
        refine z_istore (lv2 := [(4, vi s0), (0, vo ad 12 (some 0)), (1, vi x1), (2, vi x2), (3, vi x3), (5, vi x5)]) C dX12_covered_109 (by decide) rfl ?_
        refine z_sub [1, 2, 3, 4, 0, 5] rfl ?_
        exact J111 x3 s0 x5 hx3 hs0 hx5 h
      have J108 : ∀ (x3 : Int) (x5 : Int), inr x3 → inr x5 → wpO (fX12_covered_j108 x1 x2 x3 x5 σ1) (onS P31 Q31) → Z κ (0, 0) (Qm κ ad σ enI okI X) 108 [(0, vo ad 12 (some 0)), (1, vi x1), (2, vi x2), (3, vi x3), (5, vi x5)] [] ad σ1 := by
        intro x3 x5 hx3 hx5 h
        unfold fX12_covered_j108 at h
        refine z_rng (fun hI10 hJ11 => ?_)
        refine z_iconst C dX12_covered_108 ?_
        exact J109 x3 x5 0 hx3 hx5 (by decide) h
      have J93 : ∀ (x4 : Int) (x5 : Int) (x6 : Int) (s0 : Int), inr x4 → inr x5 → inr x6 → inr s0 → wpO (fX12_covered_j93 x1 x2 x4 x5 x6 s0 σ1) (onS P31 Q31) → Z κ (0, 0) (Qm κ ad σ enI okI X) 93 [(0, vo ad 12 (some 0)), (1, vi x1), (2, vi x2), (4, vi x4), (5, vi x5), (6, vi x6)] [vi s0] ad σ1 := by
        intro x4 x5 x6 s0 hx4 hx5 hx6 hs0 h
        unfold fX12_covered_j93 at h
        refine z_rng (fun hI12 hJ13 => ?_)
        refine z_istore_n (lv2 := [(3, vi s0), (0, vo ad 12 (some 0)), (1, vi x1), (2, vi x2), (4, vi x4), (5, vi x5), (6, vi x6)]) C dX12_covered_93 (by decide) rfl ?_
        refine z_iload C 4 dX12_covered_94 rfl ?_
        refine z_if_eq C 108 hx4 dX12_covered_96 (by decide) (fun q14 => ?_) (fun q14 => ?_)
        · have h := (wpO_ite.mp h).1 q14
          refine z_sub [1, 2, 3, 0, 5] rfl ?_
          exact J108 s0 x5 hs0 hx5 h
        · have h := (wpO_ite.mp h).2 q14
          refine z_iload C 6 dX12_covered_99 rfl ?_
          refine z_if_eq C 108 hx6 dX12_covered_101 (by decide) (fun q15 => ?_) (fun q15 => ?_)
          · have h := (wpO_ite.mp h).1 q15
            refine z_sub [1, 2, 3, 0, 5] rfl ?_
            exact J108 s0 x5 hs0 hx5 h
          · have h := (wpO_ite.mp h).2 q15
            refine z_iconst C dX12_covered_104 ?_
            refine z_goto C 109 dX12_covered_105 (by decide) ?_
            refine z_sub [1, 2, 3, 0, 5] rfl ?_
            exact J109 s0 x5 1 hs0 hx5 (by decide) h
      have J88 : ∀ (x4 : Int) (x5 : Int) (x6 : Int), inr x4 → inr x5 → inr x6 → wpO (fX12_covered_j88 x1 x2 x4 x5 x6 σ1) (onS P31 Q31) → Z κ (0, 0) (Qm κ ad σ enI okI X) 88 [(0, vo ad 12 (some 0)), (1, vi x1), (2, vi x2), (4, vi x4), (5, vi x5), (6, vi x6)] [] ad σ1 := by
        intro x4 x5 x6 hx4 hx5 hx6 h
        unfold fX12_covered_j88 at h
        refine z_rng (fun hI16 hJ17 => ?_)
        refine z_iconst C dX12_covered_88 ?_
        refine z_goto C 93 dX12_covered_89 (by decide) ?_
        exact J93 x4 x5 x6 1 hx4 hx5 hx6 (by decide) h
      have J77 : ∀ (x3 : Int) (x4 : Int) (x5 : Int) (s0 : Int), inr x3 → inr x4 → inr x5 → inr s0 → wpO (fX12_covered_j77 x1 x2 x3 x4 x5 s0 σ1) (onS P31 Q31) → Z κ (0, 0) (Qm κ ad σ enI okI X) 77 [(0, vo ad 12 (some 0)), (1, vi x1), (2, vi x2), (3, vi x3), (4, vi x4), (5, vi x5)] [vi s0] ad σ1 := by
        intro x3 x4 x5 s0 hx3 hx4 hx5 hs0 h
        unfold fX12_covered_j77 at h
        refine z_rng (fun hI18 hJ19 => ?_)
        refine z_istore (lv2 := [(6, vi s0), (0, vo ad 12 (some 0)), (1, vi x1), (2, vi x2), (3, vi x3), (4, vi x4), (5, vi x5)]) C dX12_covered_77 (by decide) rfl ?_
        refine z_iload_n C 4 dX12_covered_79 rfl ?_
        refine z_if_ne C 88 hx3 dX12_covered_80 (by decide) (fun q20 => ?_) (fun q20 => ?_)
        · have h := (wpO_ite.mp h).2 q20
          refine z_sub [1, 2, 3, 5, 6, 0] rfl ?_
          exact J88 x4 x5 s0 hx4 hx5 hs0 h
        · have h := (wpO_ite.mp h).1 q20
          refine z_iload C 0 dX12_covered_83 rfl ?_
          refine z_if_eq C 92 hs0 dX12_covered_85 (by decide) (fun q21 => ?_) (fun q21 => ?_)
          · have h := (wpO_ite.mp h).1 q21
            refine z_iconst C dX12_covered_92 ?_
            refine z_sub [1, 2, 3, 5, 6, 0] rfl ?_
            exact J93 x4 x5 s0 0 hx4 hx5 hs0 (by decide) h
          · have h := (wpO_ite.mp h).2 q21
            refine z_sub [1, 2, 3, 5, 6, 0] rfl ?_
            exact J88 x4 x5 s0 hx4 hx5 hs0 h
      refine z_rng (fun hI22 hJ23 => ?_)
      refine z_iload C 5 dX12_covered_31 rfl ?_
      refine z_iconst C dX12_covered_33 ?_
      refine z_aload_n C 0 dX12_covered_34 rfl ?_
      refine z_gIv (v := gI σ1 1369 0 0) C li_X12_436 (sg_12 T) rfl dX12_covered_35 ?_
      refine z_ishl C dX12_covered_38 ?_
      refine z_icmp_ge C 117 hx5 (inr_ishl _ _) dX12_covered_39 (by decide) (fun q24 => ?_) (fun q24 => ?_)
      · have h := (wpO_ite.mp h).1 q24
        refine z_sub [3, 4] rfl ?_
        have h := wpO_some.mp h
        exact hE31_117 x3 x4 h hx3 hx4
      · have h := (wpO_ite.mp h).2 q24
        refine z_aload_n C 0 dX12_covered_42 rfl ?_
        refine z_gA T C li_X12_195 (sg_12 T) dX12_covered_43 ?_
        refine z_iload C 5 dX12_covered_46 rfl ?_
        obtain ⟨hb25, h⟩ := wpO_ck.mp h
        refine z_bav (v := gI σ1 1374 0 x5.toNat) C ar_1374 (sg_1374 T) hx5 hb25 rfl dX12_covered_48 ?_
        refine z_if_eq C 111 (hI22 1374 0 _) dX12_covered_49 (by decide) (fun q26 => ?_) (fun q26 => ?_)
        · have h := (wpO_ite.mp h).1 q26
          exact J111 x3 x4 x5 hx3 hx4 hx5 h
        · have h := (wpO_ite.mp h).2 q26
          refine z_aload_n C 0 dX12_covered_52 rfl ?_
          refine z_iload C 5 dX12_covered_53 rfl ?_
          refine z_cVp (st := []) T C (ct_X12_worthOf x5 hx5) lm_X12_451 lv_vX12_worthOf dX12_covered_55 [vi x5] rfl rfl rfl rfl rfl (sg_12 T) trivial (by decide) (Nat.le_of_ble_eq_true rfl) csOK_0 h (fun r27 hr28 h => ?_)
          show Z κ (0, 0) _ 58 _ [vi r27] ad σ1
          refine z_iload_n C 2 dX12_covered_58 rfl ?_
          refine z_icmp_ne C 111 hr28 hx2 dX12_covered_59 (by decide) (fun q29 => ?_) (fun q29 => ?_)
          · have h := (wpO_ite.mp h).2 q29
            exact J111 x3 x4 x5 hx3 hx4 hx5 h
          · have h := (wpO_ite.mp h).1 q29
            refine z_iload C 5 dX12_covered_62 rfl ?_
            refine z_iload_n C 1 dX12_covered_64 rfl ?_
            refine z_ishr C dX12_covered_65 ?_
            refine z_iconst C dX12_covered_66 ?_
            refine z_iand C dX12_covered_67 ?_
            refine z_iconst C dX12_covered_68 ?_
            refine z_icmp_ne C 76 (inr_iand _ _) (by decide) dX12_covered_69 (by decide) (fun q30 => ?_) (fun q30 => ?_)
            · have h := (wpO_ite.mp h).2 q30
              refine z_iconst C dX12_covered_76 ?_
              exact J77 x3 x4 x5 0 hx3 hx4 hx5 (by decide) h
            · have h := (wpO_ite.mp h).1 q30
              refine z_iconst C dX12_covered_72 ?_
              refine z_goto C 77 dX12_covered_73 (by decide) ?_
              exact J77 x3 x4 x5 1 hx3 hx4 hx5 (by decide) h
    exact wh_ind (P := fun s : (Int × Int × Int) => inr s.1 → inr s.2.1 → inr s.2.2 → Z κ (0, 0) (Qm κ ad σ enI okI X) 31 [(0, vo ad 12 (some 0)), (1, vi x1), (2, vi x2), (3, vi s.1), (4, vi s.2.1), (5, vi s.2.2)] [] ad σ1) (fun s hs g0 g1 g2 => step _ _ (fun _ _ _ hp => hp) (fun x3 x4 hq hx3 hx4 => J117 x3 x4 σ1 hx3 hx4 eN1 hq) s.1 s.2.1 s.2.2 g0 g1 g2 hs) ((x3, x4, x5)) (wpO_bnk.mp h) hx3 hx4 hx5
  show Z κ (0, 0) (Qm κ ad σ enI okI X) 0 [(0, vo ad 12 (some 0)), (1, vi x1)] [] ad σ
  refine z_rng (fun hI31 hJ32 => ?_)
  refine z_iload_n C 1 dX12_covered_0 rfl ?_
  refine z_i2l C hx1 dX12_covered_1 ?_
  refine z_lconst (z := 0) C dX12_covered_2 (by decide) ?_
  refine z_aload_n C 0 dX12_covered_3 rfl ?_
  refine z_gIv (v := gI σ 1369 0 0) C li_X12_436 (sg_12 T) rfl dX12_covered_4 ?_
  refine z_iconst C dX12_covered_7 ?_
  obtain ⟨hk33, h⟩ := wpO_ck.mp h
  refine z_isub C dX12_covered_8 ?_
  refine z_i2l C hk33 dX12_covered_9 ?_
  refine z_cSp (st := []) T C (ct_X12_in x1 0 ((gI σ 1369 0 0) - 1) (inq_i hx1) (by decide) (inq_i hk33)) lm_X12_245 ls_X12_in dX12_covered_10 rfl rfl trivial (by decide) (Nat.le_of_ble_eq_true rfl) csOK_0 h (fun r34 hr35 h => ?_)
  show Z κ (0, 0) _ 13 _ [vi r34] ad σ
  refine z_if_ne C 18 (inr_b hr35) dX12_covered_13 (by decide) (fun q36 => ?_) (fun q36 => ?_)
  · have h := (wpO_ite.mp h).2 q36
    refine z_aload_n C 0 dX12_covered_18 rfl ?_
    refine z_cV (st := []) T C ct_X12_bestCover lm_X12_454 lv_vX12_bestCover dX12_covered_19 [] rfl rfl rfl rfl rfl (sg_12 T) trivial (by decide) (Nat.le_of_ble_eq_true rfl) csOK_0 h (fun r37 σ39 hr38 eN40 h => ?_)
    show Z κ (0, 0) _ 22 _ [vi r37] ad σ39
    refine z_rng (fun hI41 hJ42 => ?_)
    refine z_istore_n (lv2 := [(2, vi r37), (0, vo ad 12 (some 0)), (1, vi x1)]) C dX12_covered_22 (by decide) rfl ?_
    refine z_iconst C dX12_covered_23 ?_
    refine z_istore_n (lv2 := [(3, vi 0), (2, vi r37), (0, vo ad 12 (some 0)), (1, vi x1)]) C dX12_covered_24 (by decide) rfl ?_
    refine z_iconst C dX12_covered_25 ?_
    refine z_istore (lv2 := [(4, vi 1), (3, vi 0), (2, vi r37), (0, vo ad 12 (some 0)), (1, vi x1)]) C dX12_covered_26 (by decide) rfl ?_
    refine z_iconst C dX12_covered_28 ?_
    refine z_istore (lv2 := [(5, vi 0), (4, vi 1), (3, vi 0), (2, vi r37), (0, vo ad 12 (some 0)), (1, vi x1)]) C dX12_covered_29 (by decide) rfl ?_
    refine z_sub [4, 5, 3, 2, 1, 0] rfl ?_
    exact J31 x1 r37 0 1 0 σ39 hx1 hr38 (by decide) (by decide) (by decide) eN40 h
  · have h := (wpO_ite.mp h).1 q36
    refine z_iconst C dX12_covered_16 ?_
    have h := wpO_some.mp h
    exact z_ireturn T C dX12_covered_17 (by decide) rfl h
noncomputable def fX12_cut_j99 (x3 : Int) (σ1 : St) : Option (Int × St) :=
  some (x3, σ1)
noncomputable def fX12_cut_l56 (x1 : Int) (x3 : Int) (x4 : Int) (σ1 : St) : Option ((Int × St) ⊕ St) :=
  ck (0 ≤ x1 ∧ x1 < 8) (if gI σ1 1331 0 x1.toNat ≤ x4 then (some (.inr σ1)) else (ck (inr (6 * x1)) (ck (inr ((6 * x1) + x4)) (ck (inr (6 * x1)) (ck (inr ((6 * x1) + x4)) (ck (inr (((6 * x1) + x4) + 1)) (ck (0 ≤ ((6 * x1) + x4) + 1 ∧ ((6 * x1) + x4) + 1 < 48) (ck (0 ≤ (6 * x1) + x4 ∧ (6 * x1) + x4 < 48) (ck (inr (x4 + 1)) (some (.inl ((x4 + 1, sI σ1 1332 0 (((6 * x1) + x4).toNat) (gI σ1 1332 0 ((((6 * x1) + x4) + 1).toNat)))))))))))))))
noncomputable def fX12_cut_j56 (x1 : Int) (x3 : Int) (x4 : Int) (σ1 : St) : Option (Int × St) :=
  bnk (wh (fun s => fX12_cut_l56 x1 x3 s.1 s.2) ((x4, σ1))) (fun e => fX12_cut_j99 x3 e)
noncomputable def fX12_cut (x1 : Int) (x2 : Int) (σ : St) : Option (Int × St) :=
  bnk (fX12_isStory x1 σ) (fun r17 => if r17 = 0 then (some ((-1), σ)) else (ck (0 ≤ x1 ∧ x1 < 8) (ck (inr ((gI σ 1331 0 x1.toNat) - 1)) (bnk (fX12_in x2 0 ((gI σ 1331 0 x1.toNat) - 1)) (fun r22 => if r22 = 0 then (some ((-2), σ)) else (ck (inr (6 * x1)) (ck (inr ((6 * x1) + x2)) (ck (0 ≤ (6 * x1) + x2 ∧ (6 * x1) + x2 < 48) (ck (0 ≤ x1 ∧ x1 < 8) (ck (inr ((gI σ 1331 0 x1.toNat) - 1)) (ck (0 ≤ x1 ∧ x1 < 8) (fX12_cut_j56 x1 (gI σ 1332 0 (((6 * x1) + x2).toNat)) x2 (sI σ 1331 0 x1.toNat ((gI σ 1331 0 x1.toNat) - 1))))))))))))))
set_option maxRecDepth 20000 in
set_option maxHeartbeats 4000000 in
theorem ct_X12_cut (x1 : Int) (x2 : Int) (hx1 : inr x1) (hx2 : inr x2) : Ct yX12_cut cX12_cut 5 (some .int) 2 (fun ad => [vo ad 12 (some 0), vi x1, vi x2]) (fX12_cut x1 x2) enI okI (fun _ => True) := by
  refine Ct.of (by decide) (fun ad => Nat.le_of_ble_eq_true rfl) ?_
  intro κ ad σ X C T hpre h
  have C : Cx κ RX12 cX12_cut 5 (some .int) 2 := C
  unfold fX12_cut at h
  have J99 : ∀ (x3 : Int) (σ1 : St), inr x3 → σ1.2.2.2 = σ.2.2.2 → wpO (fX12_cut_j99 x3 σ1) (fun q => X q.1 q.2) → Z κ (0, 0) (Qm κ ad σ enI okI X) 99 [(3, vi x3)] [] ad σ1 := by
    intro x3 σ1 hx3 eN1 h
    unfold fX12_cut_j99 at h
    refine z_rng (fun hI1 hJ2 => ?_)
    refine z_iload_n C 0 dX12_cut_99 rfl ?_
    have h := wpO_some.mp h
    exact z_ireturn T C dX12_cut_100 hx3 eN1 h
  have J56 : ∀ (x1 : Int) (x3 : Int) (x4 : Int) (σ1 : St), inr x1 → inr x3 → inr x4 → σ1.2.2.2 = σ.2.2.2 → wpO (fX12_cut_j56 x1 x3 x4 σ1) (fun q => X q.1 q.2) → Z κ (0, 0) (Qm κ ad σ enI okI X) 56 [(0, vo ad 12 (some 0)), (1, vi x1), (3, vi x3), (4, vi x4)] [] ad σ1 := by
    intro x1 x3 x4 σ1 hx1 hx3 hx4 eN1 h
    unfold fX12_cut_j56 at h
    have step : ∀ (P56 : (Int × St) → Prop) (Q56 : St → Prop), (∀ (x4 : Int) (σ1 : St), P56 ((x4, σ1)) → inr x4 → σ1.2.2.2 = σ.2.2.2 → Z κ (0, 0) (Qm κ ad σ enI okI X) 56 [(0, vo ad 12 (some 0)), (1, vi x1), (3, vi x3), (4, vi x4)] [] ad σ1) → (∀ (σ1 : St), Q56 (σ1) → σ1.2.2.2 = σ.2.2.2 → Z κ (0, 0) (Qm κ ad σ enI okI X) 99 [(3, vi x3)] [] ad σ1) → ∀ (x4 : Int) (σ1 : St), inr x4 → σ1.2.2.2 = σ.2.2.2 → wpO (fX12_cut_l56 x1 x3 x4 σ1) (onS P56 Q56) → Z κ (0, 0) (Qm κ ad σ enI okI X) 56 [(0, vo ad 12 (some 0)), (1, vi x1), (3, vi x3), (4, vi x4)] [] ad σ1 := by
      intro P56 Q56 hP56 hE56_99 x4 σ1 hx4 eN1 h
      unfold fX12_cut_l56 at h
      refine z_rng (fun hI3 hJ4 => ?_)
      refine z_iload C 3 dX12_cut_56 rfl ?_
      refine z_aload_n C 0 dX12_cut_58 rfl ?_
      refine z_gA T C li_X12_92 (sg_12 T) dX12_cut_59 ?_
      refine z_iload_n C 1 dX12_cut_62 rfl ?_
      obtain ⟨hb5, h⟩ := wpO_ck.mp h
      refine z_iav (v := gI σ1 1331 0 x1.toNat) C ar_1331 (sg_1331 T) hx1 hb5 rfl dX12_cut_63 ?_
      refine z_icmp_ge C 99 hx4 (hI3 1331 0 _) dX12_cut_64 (by decide) (fun q6 => ?_) (fun q6 => ?_)
      · have h := (wpO_ite.mp h).1 q6
        refine z_sub [2] rfl ?_
        have h := wpO_some.mp h
        exact hE56_99 σ1 h eN1
      · have h := (wpO_ite.mp h).2 q6
        refine z_aload_n C 0 dX12_cut_67 rfl ?_
        refine z_gA T C li_X12_95 (sg_12 T) dX12_cut_68 ?_
        refine z_bipush C dX12_cut_71 (by decide) ?_
        refine z_iload_n C 1 dX12_cut_73 rfl ?_
        obtain ⟨hk7, h⟩ := wpO_ck.mp h
        refine z_imul C dX12_cut_74 ?_
        refine z_iload C 3 dX12_cut_75 rfl ?_
        obtain ⟨hk8, h⟩ := wpO_ck.mp h
        refine z_iadd C dX12_cut_77 ?_
        refine z_aload_n C 0 dX12_cut_78 rfl ?_
        refine z_gA T C li_X12_95 (sg_12 T) dX12_cut_79 ?_
        refine z_bipush C dX12_cut_82 (by decide) ?_
        refine z_iload_n C 1 dX12_cut_84 rfl ?_
        obtain ⟨hk9, h⟩ := wpO_ck.mp h
        refine z_imul C dX12_cut_85 ?_
        refine z_iload C 3 dX12_cut_86 rfl ?_
        obtain ⟨hk10, h⟩ := wpO_ck.mp h
        refine z_iadd C dX12_cut_88 ?_
        refine z_iconst C dX12_cut_89 ?_
        obtain ⟨hk11, h⟩ := wpO_ck.mp h
        refine z_iadd C dX12_cut_90 ?_
        obtain ⟨hb12, h⟩ := wpO_ck.mp h
        refine z_iav (v := gI σ1 1332 0 ((((6 * x1) + x4) + 1).toNat)) C ar_1332 (sg_1332 T) hk11 hb12 rfl dX12_cut_91 ?_
        obtain ⟨hb13, h⟩ := wpO_ck.mp h
        refine z_iastore C ar_1332 (sg_1332 T) hk8 hb13 (hI3 1332 0 _) dX12_cut_92 ?_
        obtain ⟨hk14, h⟩ := wpO_ck.mp h
        refine z_iinc (lv2 := [(4, vi (x4 + 1)), (0, vo ad 12 (some 0)), (1, vi x1), (3, vi x3)]) C 3 dX12_cut_93 rfl (by decide) rfl ?_
        refine z_goto C 56 dX12_cut_96 (by decide) ?_
        refine z_sub [1, 2, 3, 0] rfl ?_
        have h := wpO_some.mp h
        exact hP56 (x4 + 1) (sI σ1 1332 0 (((6 * x1) + x4).toNat) (gI σ1 1332 0 ((((6 * x1) + x4) + 1).toNat))) h hk14 eN1
    exact wh_ind (P := fun s : (Int × St) => inr s.1 → s.2.2.2.2 = σ.2.2.2 → Z κ (0, 0) (Qm κ ad σ enI okI X) 56 [(0, vo ad 12 (some 0)), (1, vi x1), (3, vi x3), (4, vi s.1)] [] ad s.2) (fun s hs g0 g1 => step _ _ (fun _ _ hp => hp) (fun σ1 hq eN1 => J99 x3 σ1 hx3 eN1 hq) s.1 s.2 g0 g1 hs) ((x4, σ1)) (wpO_bnk.mp h) hx4 eN1
  show Z κ (0, 0) (Qm κ ad σ enI okI X) 0 [(0, vo ad 12 (some 0)), (1, vi x1), (2, vi x2)] [] ad σ
  refine z_rng (fun hI15 hJ16 => ?_)
  refine z_aload_n C 0 dX12_cut_0 rfl ?_
  refine z_iload_n C 1 dX12_cut_1 rfl ?_
  refine z_cVp (st := []) T C (ct_X12_isStory x1 hx1) lm_X12_316 lv_vX12_isStory dX12_cut_2 [vi x1] rfl rfl rfl rfl rfl (sg_12 T) trivial (by decide) (Nat.le_of_ble_eq_true rfl) csOK_0 h (fun r17 hr18 h => ?_)
  show Z κ (0, 0) _ 5 _ [vi r17] ad σ
  refine z_if_ne C 10 (inr_b hr18) dX12_cut_5 (by decide) (fun q19 => ?_) (fun q19 => ?_)
  · have h := (wpO_ite.mp h).2 q19
    refine z_iload_n C 2 dX12_cut_10 rfl ?_
    refine z_i2l C hx2 dX12_cut_11 ?_
    refine z_lconst (z := 0) C dX12_cut_12 (by decide) ?_
    refine z_aload_n C 0 dX12_cut_13 rfl ?_
    refine z_gA T C li_X12_92 (sg_12 T) dX12_cut_14 ?_
    refine z_iload_n C 1 dX12_cut_17 rfl ?_
    obtain ⟨hb20, h⟩ := wpO_ck.mp h
    refine z_iav (v := gI σ 1331 0 x1.toNat) C ar_1331 (sg_1331 T) hx1 hb20 rfl dX12_cut_18 ?_
    refine z_iconst C dX12_cut_19 ?_
    obtain ⟨hk21, h⟩ := wpO_ck.mp h
    refine z_isub C dX12_cut_20 ?_
    refine z_i2l C hk21 dX12_cut_21 ?_
    refine z_cSp (st := []) T C (ct_X12_in x2 0 ((gI σ 1331 0 x1.toNat) - 1) (inq_i hx2) (by decide) (inq_i hk21)) lm_X12_245 ls_X12_in dX12_cut_22 rfl rfl trivial (by decide) (Nat.le_of_ble_eq_true rfl) csOK_0 h (fun r22 hr23 h => ?_)
    show Z κ (0, 0) _ 25 _ [vi r22] ad σ
    refine z_if_ne C 31 (inr_b hr23) dX12_cut_25 (by decide) (fun q24 => ?_) (fun q24 => ?_)
    · have h := (wpO_ite.mp h).2 q24
      refine z_aload_n C 0 dX12_cut_31 rfl ?_
      refine z_gA T C li_X12_95 (sg_12 T) dX12_cut_32 ?_
      refine z_bipush C dX12_cut_35 (by decide) ?_
      refine z_iload_n C 1 dX12_cut_37 rfl ?_
      obtain ⟨hk25, h⟩ := wpO_ck.mp h
      refine z_imul C dX12_cut_38 ?_
      refine z_iload_n C 2 dX12_cut_39 rfl ?_
      obtain ⟨hk26, h⟩ := wpO_ck.mp h
      refine z_iadd C dX12_cut_40 ?_
      obtain ⟨hb27, h⟩ := wpO_ck.mp h
      refine z_iav (v := gI σ 1332 0 (((6 * x1) + x2).toNat)) C ar_1332 (sg_1332 T) hk26 hb27 rfl dX12_cut_41 ?_
      refine z_istore_n (lv2 := [(3, vi (gI σ 1332 0 (((6 * x1) + x2).toNat))), (0, vo ad 12 (some 0)), (1, vi x1), (2, vi x2)]) C dX12_cut_42 (by decide) rfl ?_
      refine z_aload_n C 1 dX12_cut_43 rfl ?_
      refine z_gA T C li_X12_92 (sg_12 T) dX12_cut_44 ?_
      refine z_iload_n C 2 dX12_cut_47 rfl ?_
      refine z_dup2 C dX12_cut_48 rfl rfl ?_
      obtain ⟨hb28, h⟩ := wpO_ck.mp h
      refine z_iav (v := gI σ 1331 0 x1.toNat) C ar_1331 (sg_1331 T) hx1 hb28 rfl dX12_cut_49 ?_
      refine z_iconst C dX12_cut_50 ?_
      obtain ⟨hk29, h⟩ := wpO_ck.mp h
      refine z_isub C dX12_cut_51 ?_
      obtain ⟨hb30, h⟩ := wpO_ck.mp h
      refine z_iastore C ar_1331 (sg_1331 T) hx1 hb30 hk29 dX12_cut_52 ?_
      refine z_iload_n C 3 dX12_cut_53 rfl ?_
      refine z_istore (lv2 := [(4, vi x2), (3, vi (gI σ 1332 0 (((6 * x1) + x2).toNat))), (0, vo ad 12 (some 0)), (1, vi x1), (2, vi x2)]) C dX12_cut_54 (by decide) rfl ?_
      refine z_sub [2, 3, 1, 0] rfl ?_
      exact J56 x1 (gI σ 1332 0 (((6 * x1) + x2).toNat)) x2 (sI σ 1331 0 x1.toNat ((gI σ 1331 0 x1.toNat) - 1)) hx1 (hI15 1332 0 _) hx2 rfl h
    · have h := (wpO_ite.mp h).1 q24
      refine z_bipush C dX12_cut_28 (by decide) ?_
      have h := wpO_some.mp h
      exact z_ireturn T C dX12_cut_30 (by decide) rfl h
  · have h := (wpO_ite.mp h).1 q19
    refine z_iconst C dX12_cut_8 ?_
    have h := wpO_some.mp h
    exact z_ireturn T C dX12_cut_9 (by decide) rfl h
noncomputable def fX12_disorderOf_j75 (σ : St) : Option Int :=
  some ((-9))
noncomputable def fX12_disorderOf_j67 (x2 : Int) (σ : St) : Option Int :=
  some x2
noncomputable def fX12_disorderOf_l2 (x1 : Int) (σ : St) (x2 : Int) : Option (Int ⊕ (Int ⊕ Unit)) :=
  ck (0 ≤ x1 ∧ x1 < 8) (if gI σ 1331 0 x1.toNat ≤ x2 then (some (.inr (.inr (())))) else (ck (inr (6 * x1)) (ck (inr ((6 * x1) + x2)) (ck (inr (((6 * x1) + x2) - 1)) (ck (0 ≤ ((6 * x1) + x2) - 1 ∧ ((6 * x1) + x2) - 1 < 48) (ck (0 ≤ gI σ 1332 0 ((((6 * x1) + x2) - 1).toNat) ∧ gI σ 1332 0 ((((6 * x1) + x2) - 1).toNat) < 40) (ck (inr (6 * x1)) (ck (inr ((6 * x1) + x2)) (ck (0 ≤ (6 * x1) + x2 ∧ (6 * x1) + x2 < 48) (ck (0 ≤ gI σ 1332 0 (((6 * x1) + x2).toNat) ∧ gI σ 1332 0 (((6 * x1) + x2).toNat) < 40) (if gI σ 1312 0 ((gI σ 1332 0 (((6 * x1) + x2).toNat)).toNat) < gI σ 1312 0 ((gI σ 1332 0 ((((6 * x1) + x2) - 1).toNat)).toNat) then (some (.inr (.inl x2))) else (if idiv (gI σ 1312 0 ((gI σ 1332 0 (((6 * x1) + x2).toNat)).toNat)) 24 = idiv (gI σ 1312 0 ((gI σ 1332 0 ((((6 * x1) + x2) - 1).toNat)).toNat)) 24 then (ck (inr (x2 + 1)) (some (.inl (x2 + 1)))) else (some (.inr (.inl x2)))))))))))))))
noncomputable def fX12_disorderOf_j2 (x1 : Int) (x2 : Int) (σ : St) : Option Int :=
  bnk (wh (fun s => fX12_disorderOf_l2 x1 σ s) x2) (fun e => Sum.elim (fun a0 => fX12_disorderOf_j67 a0 σ) (fun b0 => fX12_disorderOf_j75 σ) e)
noncomputable def fX12_disorderOf (x1 : Int) (σ : St) : Option Int :=
  fX12_disorderOf_j2 x1 1 σ
set_option maxRecDepth 20000 in
set_option maxHeartbeats 4000000 in
theorem ct_X12_disorderOf (x1 : Int) (hx1 : inr x1) : Ct yX12_disorderOf cX12_disorderOf 5 (some .int) 0 (fun ad => [vo ad 12 (some 0), vi x1]) (pu (fX12_disorderOf x1)) enI okI (fun _ => True) := by
  refine Ct.of (by decide) (fun ad => Nat.le_of_ble_eq_true rfl) ?_
  intro κ ad σ X C T hpre h
  have C : Cx κ RX12 cX12_disorderOf 5 (some .int) 0 := C
  have h := wpO_pu.mp h
  unfold fX12_disorderOf at h
  have J75 : wpO (fX12_disorderOf_j75 σ) (fun r => X r σ) → Z κ (0, 0) (Qm κ ad σ enI okI X) 75 [] [] ad σ := by
    intro h
    unfold fX12_disorderOf_j75 at h
    refine z_rng (fun hI1 hJ2 => ?_)
    refine z_bipush C dX12_disorderOf_75 (by decide) ?_
    have h := wpO_some.mp h
    exact z_ireturn T C dX12_disorderOf_77 (by decide) rfl h
  have J67 : ∀ (x2 : Int), inr x2 → wpO (fX12_disorderOf_j67 x2 σ) (fun r => X r σ) → Z κ (0, 0) (Qm κ ad σ enI okI X) 67 [(2, vi x2)] [] ad σ := by
    intro x2 hx2 h
    unfold fX12_disorderOf_j67 at h
    refine z_rng (fun hI3 hJ4 => ?_)
    refine z_iload_n C 0 dX12_disorderOf_67 rfl ?_
    have h := wpO_some.mp h
    exact z_ireturn T C dX12_disorderOf_68 hx2 rfl h
  have J2 : ∀ (x1 : Int) (x2 : Int), inr x1 → inr x2 → wpO (fX12_disorderOf_j2 x1 x2 σ) (fun r => X r σ) → Z κ (0, 0) (Qm κ ad σ enI okI X) 2 [(0, vo ad 12 (some 0)), (1, vi x1), (2, vi x2)] [] ad σ := by
    intro x1 x2 hx1 hx2 h
    unfold fX12_disorderOf_j2 at h
    have step : ∀ (P2 : Int → Prop) (Q2 : (Int ⊕ Unit) → Prop), (∀ (x2 : Int), P2 x2 → inr x2 → Z κ (0, 0) (Qm κ ad σ enI okI X) 2 [(0, vo ad 12 (some 0)), (1, vi x1), (2, vi x2)] [] ad σ) → (∀ (x2 : Int), Q2 (.inl x2) → inr x2 → Z κ (0, 0) (Qm κ ad σ enI okI X) 67 [(2, vi x2)] [] ad σ) → (Q2 (.inr (())) → Z κ (0, 0) (Qm κ ad σ enI okI X) 75 [] [] ad σ) → ∀ (x2 : Int), inr x2 → wpO (fX12_disorderOf_l2 x1 σ x2) (onS P2 Q2) → Z κ (0, 0) (Qm κ ad σ enI okI X) 2 [(0, vo ad 12 (some 0)), (1, vi x1), (2, vi x2)] [] ad σ := by
      intro P2 Q2 hP2 hE2_67 hE2_75 x2 hx2 h
      unfold fX12_disorderOf_l2 at h
      refine z_rng (fun hI5 hJ6 => ?_)
      refine z_iload_n C 2 dX12_disorderOf_2 rfl ?_
      refine z_aload_n C 0 dX12_disorderOf_3 rfl ?_
      refine z_gA T C li_X12_92 (sg_12 T) dX12_disorderOf_4 ?_
      refine z_iload_n C 1 dX12_disorderOf_7 rfl ?_
      obtain ⟨hb7, h⟩ := wpO_ck.mp h
      refine z_iav (v := gI σ 1331 0 x1.toNat) C ar_1331 (sg_1331 T) hx1 hb7 rfl dX12_disorderOf_8 ?_
      refine z_icmp_ge C 75 hx2 (hI5 1331 0 _) dX12_disorderOf_9 (by decide) (fun q8 => ?_) (fun q8 => ?_)
      · have h := (wpO_ite.mp h).1 q8
        refine z_sub [] rfl ?_
        have h := wpO_some.mp h
        exact hE2_75 h
      · have h := (wpO_ite.mp h).2 q8
        refine z_aload_n C 0 dX12_disorderOf_12 rfl ?_
        refine z_gA T C li_X12_38 (sg_12 T) dX12_disorderOf_13 ?_
        refine z_aload_n C 0 dX12_disorderOf_16 rfl ?_
        refine z_gA T C li_X12_95 (sg_12 T) dX12_disorderOf_17 ?_
        refine z_bipush C dX12_disorderOf_20 (by decide) ?_
        refine z_iload_n C 1 dX12_disorderOf_22 rfl ?_
        obtain ⟨hk9, h⟩ := wpO_ck.mp h
        refine z_imul C dX12_disorderOf_23 ?_
        refine z_iload_n C 2 dX12_disorderOf_24 rfl ?_
        obtain ⟨hk10, h⟩ := wpO_ck.mp h
        refine z_iadd C dX12_disorderOf_25 ?_
        refine z_iconst C dX12_disorderOf_26 ?_
        obtain ⟨hk11, h⟩ := wpO_ck.mp h
        refine z_isub C dX12_disorderOf_27 ?_
        obtain ⟨hb12, h⟩ := wpO_ck.mp h
        refine z_iav (v := gI σ 1332 0 ((((6 * x1) + x2) - 1).toNat)) C ar_1332 (sg_1332 T) hk11 hb12 rfl dX12_disorderOf_28 ?_
        obtain ⟨hb13, h⟩ := wpO_ck.mp h
        refine z_iav (v := gI σ 1312 0 ((gI σ 1332 0 ((((6 * x1) + x2) - 1).toNat)).toNat)) C ar_1312 (sg_1312 T) (hI5 1332 0 _) hb13 rfl dX12_disorderOf_29 ?_
        refine z_istore_n (lv2 := [(3, vi (gI σ 1312 0 ((gI σ 1332 0 ((((6 * x1) + x2) - 1).toNat)).toNat))), (0, vo ad 12 (some 0)), (1, vi x1), (2, vi x2)]) C dX12_disorderOf_30 (by decide) rfl ?_
        refine z_aload_n C 1 dX12_disorderOf_31 rfl ?_
        refine z_gA T C li_X12_38 (sg_12 T) dX12_disorderOf_32 ?_
        refine z_aload_n C 1 dX12_disorderOf_35 rfl ?_
        refine z_gA T C li_X12_95 (sg_12 T) dX12_disorderOf_36 ?_
        refine z_bipush C dX12_disorderOf_39 (by decide) ?_
        refine z_iload_n C 2 dX12_disorderOf_41 rfl ?_
        obtain ⟨hk14, h⟩ := wpO_ck.mp h
        refine z_imul C dX12_disorderOf_42 ?_
        refine z_iload_n C 3 dX12_disorderOf_43 rfl ?_
        obtain ⟨hk15, h⟩ := wpO_ck.mp h
        refine z_iadd C dX12_disorderOf_44 ?_
        obtain ⟨hb16, h⟩ := wpO_ck.mp h
        refine z_iav (v := gI σ 1332 0 (((6 * x1) + x2).toNat)) C ar_1332 (sg_1332 T) hk15 hb16 rfl dX12_disorderOf_45 ?_
        obtain ⟨hb17, h⟩ := wpO_ck.mp h
        refine z_iav (v := gI σ 1312 0 ((gI σ 1332 0 (((6 * x1) + x2).toNat)).toNat)) C ar_1312 (sg_1312 T) (hI5 1332 0 _) hb17 rfl dX12_disorderOf_46 ?_
        refine z_istore (lv2 := [(4, vi (gI σ 1312 0 ((gI σ 1332 0 (((6 * x1) + x2).toNat)).toNat))), (3, vi (gI σ 1312 0 ((gI σ 1332 0 ((((6 * x1) + x2) - 1).toNat)).toNat))), (0, vo ad 12 (some 0)), (1, vi x1), (2, vi x2)]) C dX12_disorderOf_47 (by decide) rfl ?_
        refine z_iload C 0 dX12_disorderOf_49 rfl ?_
        refine z_iload_n C 1 dX12_disorderOf_51 rfl ?_
        refine z_icmp_lt C 67 (hI5 1312 0 _) (hI5 1312 0 _) dX12_disorderOf_52 (by decide) (fun q18 => ?_) (fun q18 => ?_)
        · have h := (wpO_ite.mp h).1 q18
          refine z_sub [4] rfl ?_
          have h := wpO_some.mp h
          exact hE2_67 x2 h hx2
        · have h := (wpO_ite.mp h).2 q18
          refine z_iload C 0 dX12_disorderOf_55 rfl ?_
          refine z_bipush C dX12_disorderOf_57 (by decide) ?_
          refine z_idiv C (by decide) (by decide) dX12_disorderOf_59 ?_
          refine z_iload_n C 1 dX12_disorderOf_60 rfl ?_
          refine z_bipush C dX12_disorderOf_61 (by decide) ?_
          refine z_idiv C (by decide) (by decide) dX12_disorderOf_63 ?_
          refine z_icmp_eq C 69 (inr_idiv _ _) (inr_idiv _ _) dX12_disorderOf_64 (by decide) (fun q19 => ?_) (fun q19 => ?_)
          · have h := (wpO_ite.mp h).1 q19
            obtain ⟨hk20, h⟩ := wpO_ck.mp h
            refine z_iinc (lv2 := [(2, vi (x2 + 1)), (4, vi (gI σ 1312 0 ((gI σ 1332 0 (((6 * x1) + x2).toNat)).toNat))), (3, vi (gI σ 1312 0 ((gI σ 1332 0 ((((6 * x1) + x2) - 1).toNat)).toNat))), (0, vo ad 12 (some 0)), (1, vi x1)]) C 4 dX12_disorderOf_69 rfl (by decide) rfl ?_
            refine z_goto C 2 dX12_disorderOf_72 (by decide) ?_
            refine z_sub [3, 4, 0] rfl ?_
            have h := wpO_some.mp h
            exact hP2 (x2 + 1) h hk20
          · have h := (wpO_ite.mp h).2 q19
            refine z_sub [4] rfl ?_
            have h := wpO_some.mp h
            exact hE2_67 x2 h hx2
    exact wh_ind (P := fun s : Int => inr s → Z κ (0, 0) (Qm κ ad σ enI okI X) 2 [(0, vo ad 12 (some 0)), (1, vi x1), (2, vi s)] [] ad σ) (fun s hs g0 => step _ _ (fun _ hp => hp) (fun x2 hq hx2 => J67 x2 hx2 hq) (fun hq => J75 hq) s g0 hs) x2 (wpO_bnk.mp h) hx2
  show Z κ (0, 0) (Qm κ ad σ enI okI X) 0 [(0, vo ad 12 (some 0)), (1, vi x1)] [] ad σ
  refine z_rng (fun hI21 hJ22 => ?_)
  refine z_iconst C dX12_disorderOf_0 ?_
  refine z_istore_n (lv2 := [(2, vi 1), (0, vo ad 12 (some 0)), (1, vi x1)]) C dX12_disorderOf_1 (by decide) rfl ?_
  refine z_sub [1, 2, 0] rfl ?_
  exact J2 x1 1 hx1 (by decide) h
noncomputable def fX12_earns (x1 : Int) (x2 : Int) (σ : St) : Option Int :=
  ck (0 ≤ x1 ∧ x1 < 8) (ck (0 ≤ x2 ∧ x2 < 9) (ck (inr ((gI σ 1381 0 x1.toNat) * (gI σ 1382 0 x2.toNat))) (some (idiv ((gI σ 1381 0 x1.toNat) * (gI σ 1382 0 x2.toNat)) 100))))
set_option maxRecDepth 20000 in
set_option maxHeartbeats 4000000 in
theorem ct_X12_earns (x1 : Int) (x2 : Int) (hx1 : inr x1) (hx2 : inr x2) : Ct yX12_earns cX12_earns 3 (some .int) 0 (fun ad => [vo ad 12 (some 0), vi x1, vi x2]) (pu (fX12_earns x1 x2)) enI okI (fun _ => True) := by
  refine Ct.of (by decide) (fun ad => Nat.le_of_ble_eq_true rfl) ?_
  intro κ ad σ X C T hpre h
  have C : Cx κ RX12 cX12_earns 3 (some .int) 0 := C
  have h := wpO_pu.mp h
  unfold fX12_earns at h
  show Z κ (0, 0) (Qm κ ad σ enI okI X) 0 [(0, vo ad 12 (some 0)), (1, vi x1), (2, vi x2)] [] ad σ
  refine z_rng (fun hI1 hJ2 => ?_)
  refine z_aload_n C 0 dX12_earns_0 rfl ?_
  refine z_gA T C li_X12_213 (sg_12 T) dX12_earns_1 ?_
  refine z_iload_n C 1 dX12_earns_4 rfl ?_
  obtain ⟨hb3, h⟩ := wpO_ck.mp h
  refine z_iav (v := gI σ 1381 0 x1.toNat) C ar_1381 (sg_1381 T) hx1 hb3 rfl dX12_earns_5 ?_
  refine z_aload_n C 0 dX12_earns_6 rfl ?_
  refine z_gA T C li_X12_216 (sg_12 T) dX12_earns_7 ?_
  refine z_iload_n C 2 dX12_earns_10 rfl ?_
  obtain ⟨hb4, h⟩ := wpO_ck.mp h
  refine z_iav (v := gI σ 1382 0 x2.toNat) C ar_1382 (sg_1382 T) hx2 hb4 rfl dX12_earns_11 ?_
  obtain ⟨hk5, h⟩ := wpO_ck.mp h
  refine z_imul C dX12_earns_12 ?_
  refine z_bipush C dX12_earns_13 (by decide) ?_
  refine z_idiv C (by decide) (by decide) dX12_earns_15 ?_
  have h := wpO_some.mp h
  exact z_ireturn T C dX12_earns_16 (inr_idiv _ _) rfl h
noncomputable def fX12_edge (x1 : Int) (x2 : Int) (x3 : Int) (x4 : Int) (σ : St) : Option (Unit × St) :=
  ck (0 ≤ gI σ 1384 0 0 ∧ gI σ 1384 0 0 < 200) (ck (0 ≤ gI σ 1384 0 0 ∧ gI σ 1384 0 0 < 200) (ck (0 ≤ gI σ 1384 0 0 ∧ gI σ 1384 0 0 < 200) (ck (0 ≤ gI σ 1384 0 0 ∧ gI σ 1384 0 0 < 200) (ck (inr ((gI σ 1384 0 0) + 1)) (ck (0 ≤ (gI σ 1384 0 0) + 1 ∧ (gI σ 1384 0 0) + 1 < 200) (ck (inr ((gI σ 1384 0 0) + 1)) (ck (0 ≤ (gI σ 1384 0 0) + 1 ∧ (gI σ 1384 0 0) + 1 < 200) (ck (inr ((gI σ 1384 0 0) + 1)) (ck (0 ≤ (gI σ 1384 0 0) + 1 ∧ (gI σ 1384 0 0) + 1 < 200) (ck (inr ((gI σ 1384 0 0) + 1)) (ck (inr (-x4)) (ck (0 ≤ (gI σ 1384 0 0) + 1 ∧ (gI σ 1384 0 0) + 1 < 200) (ck (inr ((gI σ 1384 0 0) + 2)) (some ((), sI (sI (sI (sI (sI (sI (sI (sI (sI σ 1385 0 ((gI σ 1384 0 0).toNat) x1) 1386 0 ((gI σ 1384 0 0).toNat) x2) 1387 0 ((gI σ 1384 0 0).toNat) x3) 1388 0 ((gI σ 1384 0 0).toNat) x4) 1385 0 (((gI σ 1384 0 0) + 1).toNat) x2) 1386 0 (((gI σ 1384 0 0) + 1).toNat) x1) 1387 0 (((gI σ 1384 0 0) + 1).toNat) 0) 1388 0 (((gI σ 1384 0 0) + 1).toNat) (-x4)) 1384 0 0 ((gI σ 1384 0 0) + 2))))))))))))))))
set_option maxRecDepth 20000 in
set_option maxHeartbeats 4000000 in
theorem ct_X12_edge (x1 : Int) (x2 : Int) (x3 : Int) (x4 : Int) (hx1 : inr x1) (hx2 : inr x2) (hx3 : inr x3) (hx4 : inr x4) : Ct yX12_edge cX12_edge 5 none 0 (fun ad => [vo ad 12 (some 0), vi x1, vi x2, vi x3, vi x4]) (fX12_edge x1 x2 x3 x4) enV okV (fun _ => True) := by
  refine Ct.of (by decide) (fun ad => Nat.le_of_ble_eq_true rfl) ?_
  intro κ ad σ X C T hpre h
  have C : Cx κ RX12 cX12_edge 5 none 0 := C
  unfold fX12_edge at h
  show Z κ (0, 0) (Qm κ ad σ enV okV X) 0 [(0, vo ad 12 (some 0)), (1, vi x1), (2, vi x2), (3, vi x3), (4, vi x4)] [] ad σ
  refine z_rng (fun hI1 hJ2 => ?_)
  refine z_aload_n C 0 dX12_edge_0 rfl ?_
  refine z_gA T C li_X12_222 (sg_12 T) dX12_edge_1 ?_
  refine z_aload_n C 0 dX12_edge_4 rfl ?_
  refine z_gIv (v := gI σ 1384 0 0) C li_X12_465 (sg_12 T) rfl dX12_edge_5 ?_
  refine z_iload_n C 1 dX12_edge_8 rfl ?_
  obtain ⟨hb3, h⟩ := wpO_ck.mp h
  refine z_iastore C ar_1385 (sg_1385 T) (hI1 1384 0 _) hb3 hx1 dX12_edge_9 ?_
  refine z_aload_n C 0 dX12_edge_10 rfl ?_
  refine z_gA T C li_X12_225 (sg_12 T) dX12_edge_11 ?_
  refine z_aload_n C 0 dX12_edge_14 rfl ?_
  refine z_gIv (v := gI σ 1384 0 0) C li_X12_465 (sg_12 T) (gn (by decide) rfl) dX12_edge_15 ?_
  refine z_iload_n C 2 dX12_edge_18 rfl ?_
  obtain ⟨hb4, h⟩ := wpO_ck.mp h
  refine z_iastore C ar_1386 (sg_1386 T) (hI1 1384 0 _) hb4 hx2 dX12_edge_19 ?_
  refine z_aload_n C 0 dX12_edge_20 rfl ?_
  refine z_gA T C li_X12_228 (sg_12 T) dX12_edge_21 ?_
  refine z_aload_n C 0 dX12_edge_24 rfl ?_
  refine z_gIv (v := gI σ 1384 0 0) C li_X12_465 (sg_12 T) (gn (by decide) (gn (by decide) rfl)) dX12_edge_25 ?_
  refine z_iload_n C 3 dX12_edge_28 rfl ?_
  obtain ⟨hb5, h⟩ := wpO_ck.mp h
  refine z_iastore C ar_1387 (sg_1387 T) (hI1 1384 0 _) hb5 hx3 dX12_edge_29 ?_
  refine z_aload_n C 0 dX12_edge_30 rfl ?_
  refine z_gA T C li_X12_231 (sg_12 T) dX12_edge_31 ?_
  refine z_aload_n C 0 dX12_edge_34 rfl ?_
  refine z_gIv (v := gI σ 1384 0 0) C li_X12_465 (sg_12 T) (gn (by decide) (gn (by decide) (gn (by decide) rfl))) dX12_edge_35 ?_
  refine z_iload C 4 dX12_edge_38 rfl ?_
  obtain ⟨hb6, h⟩ := wpO_ck.mp h
  refine z_iastore C ar_1388 (sg_1388 T) (hI1 1384 0 _) hb6 hx4 dX12_edge_40 ?_
  refine z_aload_n C 0 dX12_edge_41 rfl ?_
  refine z_gA T C li_X12_222 (sg_12 T) dX12_edge_42 ?_
  refine z_aload_n C 0 dX12_edge_45 rfl ?_
  refine z_gIv (v := gI σ 1384 0 0) C li_X12_465 (sg_12 T) (gn (by decide) (gn (by decide) (gn (by decide) (gn (by decide) rfl)))) dX12_edge_46 ?_
  refine z_iconst C dX12_edge_49 ?_
  obtain ⟨hk7, h⟩ := wpO_ck.mp h
  refine z_iadd C dX12_edge_50 ?_
  refine z_iload_n C 2 dX12_edge_51 rfl ?_
  obtain ⟨hb8, h⟩ := wpO_ck.mp h
  refine z_iastore C ar_1385 (sg_1385 T) hk7 hb8 hx2 dX12_edge_52 ?_
  refine z_aload_n C 0 dX12_edge_53 rfl ?_
  refine z_gA T C li_X12_225 (sg_12 T) dX12_edge_54 ?_
  refine z_aload_n C 0 dX12_edge_57 rfl ?_
  refine z_gIv (v := gI σ 1384 0 0) C li_X12_465 (sg_12 T) (gn (by decide) (gn (by decide) (gn (by decide) (gn (by decide) (gn (by decide) rfl))))) dX12_edge_58 ?_
  refine z_iconst C dX12_edge_61 ?_
  obtain ⟨hk9, h⟩ := wpO_ck.mp h
  refine z_iadd C dX12_edge_62 ?_
  refine z_iload_n C 1 dX12_edge_63 rfl ?_
  obtain ⟨hb10, h⟩ := wpO_ck.mp h
  refine z_iastore C ar_1386 (sg_1386 T) hk9 hb10 hx1 dX12_edge_64 ?_
  refine z_aload_n C 0 dX12_edge_65 rfl ?_
  refine z_gA T C li_X12_228 (sg_12 T) dX12_edge_66 ?_
  refine z_aload_n C 0 dX12_edge_69 rfl ?_
  refine z_gIv (v := gI σ 1384 0 0) C li_X12_465 (sg_12 T) (gn (by decide) (gn (by decide) (gn (by decide) (gn (by decide) (gn (by decide) (gn (by decide) rfl)))))) dX12_edge_70 ?_
  refine z_iconst C dX12_edge_73 ?_
  obtain ⟨hk11, h⟩ := wpO_ck.mp h
  refine z_iadd C dX12_edge_74 ?_
  refine z_iconst C dX12_edge_75 ?_
  obtain ⟨hb12, h⟩ := wpO_ck.mp h
  refine z_iastore C ar_1387 (sg_1387 T) hk11 hb12 (by decide) dX12_edge_76 ?_
  refine z_aload_n C 0 dX12_edge_77 rfl ?_
  refine z_gA T C li_X12_231 (sg_12 T) dX12_edge_78 ?_
  refine z_aload_n C 0 dX12_edge_81 rfl ?_
  refine z_gIv (v := gI σ 1384 0 0) C li_X12_465 (sg_12 T) (gn (by decide) (gn (by decide) (gn (by decide) (gn (by decide) (gn (by decide) (gn (by decide) (gn (by decide) rfl))))))) dX12_edge_82 ?_
  refine z_iconst C dX12_edge_85 ?_
  obtain ⟨hk13, h⟩ := wpO_ck.mp h
  refine z_iadd C dX12_edge_86 ?_
  refine z_iload C 4 dX12_edge_87 rfl ?_
  obtain ⟨hk14, h⟩ := wpO_ck.mp h
  refine z_ineg C dX12_edge_89 ?_
  obtain ⟨hb15, h⟩ := wpO_ck.mp h
  refine z_iastore C ar_1388 (sg_1388 T) hk13 hb15 hk14 dX12_edge_90 ?_
  refine z_aload_n C 0 dX12_edge_91 rfl ?_
  refine z_dup C dX12_edge_92 rfl ?_
  refine z_gIv (v := gI σ 1384 0 0) C li_X12_465 (sg_12 T) (gn (by decide) (gn (by decide) (gn (by decide) (gn (by decide) (gn (by decide) (gn (by decide) (gn (by decide) (gn (by decide) rfl)))))))) dX12_edge_93 ?_
  refine z_iconst C dX12_edge_96 ?_
  obtain ⟨hk16, h⟩ := wpO_ck.mp h
  refine z_iadd C dX12_edge_97 ?_
  refine z_pI C lq_X12_465 (sg_12 T) hk16 dX12_edge_98 ?_
  have h := wpO_some.mp h
  exact z_return T C dX12_edge_101 rfl h
noncomputable def fX12_layFar_j144 (σ1 : St) : Option (Int × St) :=
  if 0 ≤ gI σ1 1389 0 1 then (some (0, σ1)) else (some (1, σ1))
noncomputable def fX12_layFar_j141 (x1 : Int) (σ1 : St) : Option ((Int × St) ⊕ St) :=
  some (.inl ((x1, σ1)))
noncomputable def fX12_layFar_j135 (x1 : Int) (x2 : Int) (σ1 : St) : Option ((Int × Int × St) ⊕ (Int × St)) :=
  ck (inr (x2 + 1)) (some (.inl ((x1, x2 + 1, σ1))))
noncomputable def fX12_layFar_l41 (x1 : Int) (x2 : Int) (σ1 : St) : Option ((Int × Int × St) ⊕ (Int × St)) :=
  if gI σ1 1384 0 0 ≤ x2 then (some (.inr ((x1, σ1)))) else (ck (0 ≤ x2 ∧ x2 < 200) (ck (0 ≤ gI σ1 1385 0 x2.toNat ∧ gI σ1 1385 0 x2.toNat < 19) (ck (0 ≤ x2 ∧ x2 < 200) (ck (inr ((gI σ1 1389 0 ((gI σ1 1385 0 x2.toNat).toNat)) + (gI σ1 1388 0 x2.toNat))) (ck (0 ≤ x2 ∧ x2 < 200) (if gI σ1 1387 0 x2.toNat ≤ 0 then (fX12_layFar_j135 x1 x2 σ1) else (ck (0 ≤ x2 ∧ x2 < 200) (ck (0 ≤ gI σ1 1385 0 x2.toNat ∧ gI σ1 1385 0 x2.toNat < 19) (if 1000000 ≤ gI σ1 1389 0 ((gI σ1 1385 0 x2.toNat).toNat) then (fX12_layFar_j135 x1 x2 σ1) else (ck (0 ≤ x2 ∧ x2 < 200) (ck (0 ≤ gI σ1 1386 0 x2.toNat ∧ gI σ1 1386 0 x2.toNat < 19) (if gI σ1 1389 0 ((gI σ1 1386 0 x2.toNat).toNat) ≤ (gI σ1 1389 0 ((gI σ1 1385 0 x2.toNat).toNat)) + (gI σ1 1388 0 x2.toNat) then (fX12_layFar_j135 x1 x2 σ1) else (ck (0 ≤ x2 ∧ x2 < 200) (ck (0 ≤ gI σ1 1386 0 x2.toNat ∧ gI σ1 1386 0 x2.toNat < 19) (ck (0 ≤ x2 ∧ x2 < 200) (ck (0 ≤ gI σ1 1386 0 x2.toNat ∧ gI σ1 1386 0 x2.toNat < 19) (fX12_layFar_j135 1 x2 (sI (sI σ1 1389 0 ((gI σ1 1386 0 x2.toNat).toNat) ((gI σ1 1389 0 ((gI σ1 1385 0 x2.toNat).toNat)) + (gI σ1 1388 0 x2.toNat))) 1390 0 ((gI σ1 1386 0 x2.toNat).toNat) x2))))))))))))))))))
noncomputable def fX12_layFar_j41 (x1 : Int) (x2 : Int) (σ1 : St) : Option ((Int × St) ⊕ St) :=
  bnk (wh (fun s => fX12_layFar_l41 s.1 s.2.1 s.2.2) ((x1, x2, σ1))) (fun e => fX12_layFar_j141 e.1 e.2)
noncomputable def fX12_layFar_l33 (x1 : Int) (σ1 : St) : Option ((Int × St) ⊕ St) :=
  if x1 = 0 then (some (.inr σ1)) else (fX12_layFar_j41 0 0 σ1)
noncomputable def fX12_layFar_j33 (x1 : Int) (σ1 : St) : Option (Int × St) :=
  bnk (wh (fun s => fX12_layFar_l33 s.1 s.2) ((x1, σ1))) (fun e => fX12_layFar_j144 e)
noncomputable def fX12_layFar_j31 (σ1 : St) : Option (Int × St) :=
  fX12_layFar_j33 1 σ1
noncomputable def fX12_layFar_j24 (x1 : Int) (s1 : Int) (s2 : Int) (σ1 : St) : Option ((Int × St) ⊕ St) :=
  ck (0 ≤ s1 ∧ s1 < 19) (ck (inr (x1 + 1)) (some (.inl ((x1 + 1, sI σ1 1389 0 s1.toNat s2)))))
noncomputable def fX12_layFar_l2 (x1 : Int) (σ1 : St) : Option ((Int × St) ⊕ St) :=
  if 19 ≤ x1 then (some (.inr σ1)) else (if x1 = 0 then (fX12_layFar_j24 x1 x1 0 σ1) else (fX12_layFar_j24 x1 x1 1000000 σ1))
noncomputable def fX12_layFar_j2 (x1 : Int) (σ1 : St) : Option (Int × St) :=
  bnk (wh (fun s => fX12_layFar_l2 s.1 s.2) ((x1, σ1))) (fun e => fX12_layFar_j31 e)
noncomputable def fX12_layFar (σ : St) : Option (Int × St) :=
  fX12_layFar_j2 0 σ
set_option maxRecDepth 20000 in
set_option maxHeartbeats 4000000 in
theorem ct_X12_layFar  : Ct yX12_layFar cX12_layFar 4 (some .boolean) 0 (fun ad => [vo ad 12 (some 0)]) fX12_layFar enI okB (fun _ => True) := by
  refine Ct.of (by decide) (fun ad => Nat.le_of_ble_eq_true rfl) ?_
  intro κ ad σ X C T hpre h
  have C : Cx κ RX12 cX12_layFar 4 (some .boolean) 0 := C
  unfold fX12_layFar at h
  have J144 : ∀ (σ1 : St), σ1.2.2.2 = σ.2.2.2 → wpO (fX12_layFar_j144 σ1) (fun q => X q.1 q.2) → Z κ (0, 0) (Qm κ ad σ enI okB X) 144 [(0, vo ad 12 (some 0))] [] ad σ1 := by
    intro σ1 eN1 h
    unfold fX12_layFar_j144 at h
    refine z_rng (fun hI1 hJ2 => ?_)
    refine z_aload_n C 0 dX12_layFar_144 rfl ?_
    refine z_gA T C li_X12_234 (sg_12 T) dX12_layFar_145 ?_
    refine z_iconst C dX12_layFar_148 ?_
    refine z_iav (v := gI σ1 1389 0 1) C ar_1389 (sg_1389 T) (by decide) (by decide) rfl dX12_layFar_149 ?_
    refine z_if_ge C 157 (hI1 1389 0 _) dX12_layFar_150 (by decide) (fun q3 => ?_) (fun q3 => ?_)
    · have h := (wpO_ite.mp h).1 q3
      refine z_iconst C dX12_layFar_157 ?_
      have h := wpO_some.mp h
      exact z_breturn T C dX12_layFar_158 (by decide) eN1 h
    · have h := (wpO_ite.mp h).2 q3
      refine z_iconst C dX12_layFar_153 ?_
      refine z_goto C 158 dX12_layFar_154 (by decide) ?_
      have h := wpO_some.mp h
      exact z_breturn T C dX12_layFar_158 (by decide) eN1 h
  have J33 : ∀ (x1 : Int) (σ1 : St), inr x1 → σ1.2.2.2 = σ.2.2.2 → wpO (fX12_layFar_j33 x1 σ1) (fun q => X q.1 q.2) → Z κ (0, 0) (Qm κ ad σ enI okB X) 33 [(0, vo ad 12 (some 0)), (1, vi x1)] [] ad σ1 := by
    intro x1 σ1 hx1 eN1 h
    unfold fX12_layFar_j33 at h
    have step : ∀ (P33 : (Int × St) → Prop) (Q33 : St → Prop), (∀ (x1 : Int) (σ1 : St), P33 ((x1, σ1)) → inr x1 → σ1.2.2.2 = σ.2.2.2 → Z κ (0, 0) (Qm κ ad σ enI okB X) 33 [(0, vo ad 12 (some 0)), (1, vi x1)] [] ad σ1) → (∀ (σ1 : St), Q33 (σ1) → σ1.2.2.2 = σ.2.2.2 → Z κ (0, 0) (Qm κ ad σ enI okB X) 144 [(0, vo ad 12 (some 0))] [] ad σ1) → ∀ (x1 : Int) (σ1 : St), inr x1 → σ1.2.2.2 = σ.2.2.2 → wpO (fX12_layFar_l33 x1 σ1) (onS P33 Q33) → Z κ (0, 0) (Qm κ ad σ enI okB X) 33 [(0, vo ad 12 (some 0)), (1, vi x1)] [] ad σ1 := by
      intro P33 Q33 hP33 hE33_144 x1 σ1 hx1 eN1 h
      unfold fX12_layFar_l33 at h
      have J141 : ∀ (x1 : Int) (σ1 : St), inr x1 → σ1.2.2.2 = σ.2.2.2 → wpO (fX12_layFar_j141 x1 σ1) (onS P33 Q33) → Z κ (0, 0) (Qm κ ad σ enI okB X) 141 [(0, vo ad 12 (some 0)), (1, vi x1)] [] ad σ1 := by
        intro x1 σ1 hx1 eN1 h
        unfold fX12_layFar_j141 at h
        refine z_rng (fun hI4 hJ5 => ?_)
        refine z_goto C 33 dX12_layFar_141 (by decide) ?_
        have h := wpO_some.mp h
        exact hP33 x1 σ1 h hx1 eN1
      have J41 : ∀ (x1 : Int) (x2 : Int) (σ1 : St), inr x1 → inr x2 → σ1.2.2.2 = σ.2.2.2 → wpO (fX12_layFar_j41 x1 x2 σ1) (onS P33 Q33) → Z κ (0, 0) (Qm κ ad σ enI okB X) 41 [(0, vo ad 12 (some 0)), (1, vi x1), (2, vi x2)] [] ad σ1 := by
        intro x1 x2 σ1 hx1 hx2 eN1 h
        unfold fX12_layFar_j41 at h
        have step : ∀ (P41 : (Int × Int × St) → Prop) (Q41 : (Int × St) → Prop), (∀ (x1 : Int) (x2 : Int) (σ1 : St), P41 ((x1, x2, σ1)) → inr x1 → inr x2 → σ1.2.2.2 = σ.2.2.2 → Z κ (0, 0) (Qm κ ad σ enI okB X) 41 [(0, vo ad 12 (some 0)), (1, vi x1), (2, vi x2)] [] ad σ1) → (∀ (x1 : Int) (σ1 : St), Q41 ((x1, σ1)) → inr x1 → σ1.2.2.2 = σ.2.2.2 → Z κ (0, 0) (Qm κ ad σ enI okB X) 141 [(0, vo ad 12 (some 0)), (1, vi x1)] [] ad σ1) → ∀ (x1 : Int) (x2 : Int) (σ1 : St), inr x1 → inr x2 → σ1.2.2.2 = σ.2.2.2 → wpO (fX12_layFar_l41 x1 x2 σ1) (onS P41 Q41) → Z κ (0, 0) (Qm κ ad σ enI okB X) 41 [(0, vo ad 12 (some 0)), (1, vi x1), (2, vi x2)] [] ad σ1 := by
          intro P41 Q41 hP41 hE41_141 x1 x2 σ1 hx1 hx2 eN1 h
          unfold fX12_layFar_l41 at h
          have J135 : ∀ (x1 : Int) (x2 : Int) (σ1 : St), inr x1 → inr x2 → σ1.2.2.2 = σ.2.2.2 → wpO (fX12_layFar_j135 x1 x2 σ1) (onS P41 Q41) → Z κ (0, 0) (Qm κ ad σ enI okB X) 135 [(0, vo ad 12 (some 0)), (1, vi x1), (2, vi x2)] [] ad σ1 := by
            intro x1 x2 σ1 hx1 hx2 eN1 h
            unfold fX12_layFar_j135 at h
            refine z_rng (fun hI6 hJ7 => ?_)
            obtain ⟨hk8, h⟩ := wpO_ck.mp h
            refine z_iinc (lv2 := [(2, vi (x2 + 1)), (0, vo ad 12 (some 0)), (1, vi x1)]) C 2 dX12_layFar_135 rfl (by decide) rfl ?_
            refine z_goto C 41 dX12_layFar_138 (by decide) ?_
            refine z_sub [1, 2, 0] rfl ?_
            have h := wpO_some.mp h
            exact hP41 x1 (x2 + 1) σ1 h hx1 hk8 eN1
          refine z_rng (fun hI9 hJ10 => ?_)
          refine z_iload_n C 2 dX12_layFar_41 rfl ?_
          refine z_aload_n C 0 dX12_layFar_42 rfl ?_
          refine z_gIv (v := gI σ1 1384 0 0) C li_X12_465 (sg_12 T) rfl dX12_layFar_43 ?_
          refine z_icmp_ge C 141 hx2 (hI9 1384 0 _) dX12_layFar_46 (by decide) (fun q11 => ?_) (fun q11 => ?_)
          · have h := (wpO_ite.mp h).1 q11
            refine z_sub [0, 1] rfl ?_
            have h := wpO_some.mp h
            exact hE41_141 x1 σ1 h hx1 eN1
          · have h := (wpO_ite.mp h).2 q11
            refine z_aload_n C 0 dX12_layFar_49 rfl ?_
            refine z_gA T C li_X12_234 (sg_12 T) dX12_layFar_50 ?_
            refine z_aload_n C 0 dX12_layFar_53 rfl ?_
            refine z_gA T C li_X12_222 (sg_12 T) dX12_layFar_54 ?_
            refine z_iload_n C 2 dX12_layFar_57 rfl ?_
            obtain ⟨hb12, h⟩ := wpO_ck.mp h
            refine z_iav (v := gI σ1 1385 0 x2.toNat) C ar_1385 (sg_1385 T) hx2 hb12 rfl dX12_layFar_58 ?_
            obtain ⟨hb13, h⟩ := wpO_ck.mp h
            refine z_iav (v := gI σ1 1389 0 ((gI σ1 1385 0 x2.toNat).toNat)) C ar_1389 (sg_1389 T) (hI9 1385 0 _) hb13 rfl dX12_layFar_59 ?_
            refine z_aload_n C 0 dX12_layFar_60 rfl ?_
            refine z_gA T C li_X12_231 (sg_12 T) dX12_layFar_61 ?_
            refine z_iload_n C 2 dX12_layFar_64 rfl ?_
            obtain ⟨hb14, h⟩ := wpO_ck.mp h
            refine z_iav (v := gI σ1 1388 0 x2.toNat) C ar_1388 (sg_1388 T) hx2 hb14 rfl dX12_layFar_65 ?_
            obtain ⟨hk15, h⟩ := wpO_ck.mp h
            refine z_iadd C dX12_layFar_66 ?_
            refine z_istore_n (lv2 := [(3, vi ((gI σ1 1389 0 ((gI σ1 1385 0 x2.toNat).toNat)) + (gI σ1 1388 0 x2.toNat))), (0, vo ad 12 (some 0)), (1, vi x1), (2, vi x2)]) C dX12_layFar_67 (by decide) rfl ?_
            refine z_aload_n C 1 dX12_layFar_68 rfl ?_
            refine z_gA T C li_X12_228 (sg_12 T) dX12_layFar_69 ?_
            refine z_iload_n C 3 dX12_layFar_72 rfl ?_
            obtain ⟨hb16, h⟩ := wpO_ck.mp h
            refine z_iav (v := gI σ1 1387 0 x2.toNat) C ar_1387 (sg_1387 T) hx2 hb16 rfl dX12_layFar_73 ?_
            refine z_if_le C 135 (hI9 1387 0 _) dX12_layFar_74 (by decide) (fun q17 => ?_) (fun q17 => ?_)
            · have h := (wpO_ite.mp h).1 q17
              refine z_sub [1, 2, 3] rfl ?_
              exact J135 x1 x2 σ1 hx1 hx2 eN1 h
            · have h := (wpO_ite.mp h).2 q17
              refine z_aload_n C 1 dX12_layFar_77 rfl ?_
              refine z_gA T C li_X12_234 (sg_12 T) dX12_layFar_78 ?_
              refine z_aload_n C 1 dX12_layFar_81 rfl ?_
              refine z_gA T C li_X12_222 (sg_12 T) dX12_layFar_82 ?_
              refine z_iload_n C 3 dX12_layFar_85 rfl ?_
              obtain ⟨hb18, h⟩ := wpO_ck.mp h
              refine z_iav (v := gI σ1 1385 0 x2.toNat) C ar_1385 (sg_1385 T) hx2 hb18 rfl dX12_layFar_86 ?_
              obtain ⟨hb19, h⟩ := wpO_ck.mp h
              refine z_iav (v := gI σ1 1389 0 ((gI σ1 1385 0 x2.toNat).toNat)) C ar_1389 (sg_1389 T) (hI9 1385 0 _) hb19 rfl dX12_layFar_87 ?_
              refine z_ldc_w C lc_X12_270 dX12_layFar_88 ?_
              refine z_icmp_ge C 135 (hI9 1389 0 _) (by decide) dX12_layFar_91 (by decide) (fun q20 => ?_) (fun q20 => ?_)
              · have h := (wpO_ite.mp h).1 q20
                refine z_sub [1, 2, 3] rfl ?_
                exact J135 x1 x2 σ1 hx1 hx2 eN1 h
              · have h := (wpO_ite.mp h).2 q20
                refine z_iload_n C 0 dX12_layFar_94 rfl ?_
                refine z_aload_n C 1 dX12_layFar_95 rfl ?_
                refine z_gA T C li_X12_234 (sg_12 T) dX12_layFar_96 ?_
                refine z_aload_n C 1 dX12_layFar_99 rfl ?_
                refine z_gA T C li_X12_225 (sg_12 T) dX12_layFar_100 ?_
                refine z_iload_n C 3 dX12_layFar_103 rfl ?_
                obtain ⟨hb21, h⟩ := wpO_ck.mp h
                refine z_iav (v := gI σ1 1386 0 x2.toNat) C ar_1386 (sg_1386 T) hx2 hb21 rfl dX12_layFar_104 ?_
                obtain ⟨hb22, h⟩ := wpO_ck.mp h
                refine z_iav (v := gI σ1 1389 0 ((gI σ1 1386 0 x2.toNat).toNat)) C ar_1389 (sg_1389 T) (hI9 1386 0 _) hb22 rfl dX12_layFar_105 ?_
                refine z_icmp_ge C 135 hk15 (hI9 1389 0 _) dX12_layFar_106 (by decide) (fun q23 => ?_) (fun q23 => ?_)
                · have h := (wpO_ite.mp h).1 q23
                  refine z_sub [1, 2, 3] rfl ?_
                  exact J135 x1 x2 σ1 hx1 hx2 eN1 h
                · have h := (wpO_ite.mp h).2 q23
                  refine z_aload_n C 1 dX12_layFar_109 rfl ?_
                  refine z_gA T C li_X12_234 (sg_12 T) dX12_layFar_110 ?_
                  refine z_aload_n C 1 dX12_layFar_113 rfl ?_
                  refine z_gA T C li_X12_225 (sg_12 T) dX12_layFar_114 ?_
                  refine z_iload_n C 3 dX12_layFar_117 rfl ?_
                  obtain ⟨hb24, h⟩ := wpO_ck.mp h
                  refine z_iav (v := gI σ1 1386 0 x2.toNat) C ar_1386 (sg_1386 T) hx2 hb24 rfl dX12_layFar_118 ?_
                  refine z_iload_n C 0 dX12_layFar_119 rfl ?_
                  obtain ⟨hb25, h⟩ := wpO_ck.mp h
                  refine z_iastore C ar_1389 (sg_1389 T) (hI9 1386 0 _) hb25 hk15 dX12_layFar_120 ?_
                  refine z_aload_n C 1 dX12_layFar_121 rfl ?_
                  refine z_gA T C li_X12_237 (sg_12 T) dX12_layFar_122 ?_
                  refine z_aload_n C 1 dX12_layFar_125 rfl ?_
                  refine z_gA T C li_X12_225 (sg_12 T) dX12_layFar_126 ?_
                  refine z_iload_n C 3 dX12_layFar_129 rfl ?_
                  obtain ⟨hb26, h⟩ := wpO_ck.mp h
                  refine z_iav (v := gI σ1 1386 0 x2.toNat) C ar_1386 (sg_1386 T) hx2 hb26 (gn (by decide) rfl) dX12_layFar_130 ?_
                  refine z_iload_n C 3 dX12_layFar_131 rfl ?_
                  obtain ⟨hb27, h⟩ := wpO_ck.mp h
                  refine z_iastore C ar_1390 (sg_1390 T) (hI9 1386 0 _) hb27 hx2 dX12_layFar_132 ?_
                  refine z_iconst C dX12_layFar_133 ?_
                  refine z_istore_n (lv2 := [(1, vi 1), (3, vi ((gI σ1 1389 0 ((gI σ1 1385 0 x2.toNat).toNat)) + (gI σ1 1388 0 x2.toNat))), (0, vo ad 12 (some 0)), (2, vi x2)]) C dX12_layFar_134 (by decide) rfl ?_
                  refine z_sub [2, 0, 3] rfl ?_
                  exact J135 1 x2 (sI (sI σ1 1389 0 ((gI σ1 1386 0 x2.toNat).toNat) ((gI σ1 1389 0 ((gI σ1 1385 0 x2.toNat).toNat)) + (gI σ1 1388 0 x2.toNat))) 1390 0 ((gI σ1 1386 0 x2.toNat).toNat) x2) (by decide) hx2 eN1 h
        exact wh_ind (P := fun s : (Int × Int × St) => inr s.1 → inr s.2.1 → s.2.2.2.2.2 = σ.2.2.2 → Z κ (0, 0) (Qm κ ad σ enI okB X) 41 [(0, vo ad 12 (some 0)), (1, vi s.1), (2, vi s.2.1)] [] ad s.2.2) (fun s hs g0 g1 g2 => step _ _ (fun _ _ _ hp => hp) (fun x1 σ1 hq hx1 eN1 => J141 x1 σ1 hx1 eN1 hq) s.1 s.2.1 s.2.2 g0 g1 g2 hs) ((x1, x2, σ1)) (wpO_bnk.mp h) hx1 hx2 eN1
      refine z_rng (fun hI28 hJ29 => ?_)
      refine z_iload_n C 1 dX12_layFar_33 rfl ?_
      refine z_if_eq C 144 hx1 dX12_layFar_34 (by decide) (fun q30 => ?_) (fun q30 => ?_)
      · have h := (wpO_ite.mp h).1 q30
        refine z_sub [0] rfl ?_
        have h := wpO_some.mp h
        exact hE33_144 σ1 h eN1
      · have h := (wpO_ite.mp h).2 q30
        refine z_iconst C dX12_layFar_37 ?_
        refine z_istore_n (lv2 := [(1, vi 0), (0, vo ad 12 (some 0))]) C dX12_layFar_38 (by decide) rfl ?_
        refine z_iconst C dX12_layFar_39 ?_
        refine z_istore_n (lv2 := [(2, vi 0), (1, vi 0), (0, vo ad 12 (some 0))]) C dX12_layFar_40 (by decide) rfl ?_
        refine z_sub [2, 1, 0] rfl ?_
        exact J41 0 0 σ1 (by decide) (by decide) eN1 h
    exact wh_ind (P := fun s : (Int × St) => inr s.1 → s.2.2.2.2 = σ.2.2.2 → Z κ (0, 0) (Qm κ ad σ enI okB X) 33 [(0, vo ad 12 (some 0)), (1, vi s.1)] [] ad s.2) (fun s hs g0 g1 => step _ _ (fun _ _ hp => hp) (fun σ1 hq eN1 => J144 σ1 eN1 hq) s.1 s.2 g0 g1 hs) ((x1, σ1)) (wpO_bnk.mp h) hx1 eN1
  have J31 : ∀ (σ1 : St), σ1.2.2.2 = σ.2.2.2 → wpO (fX12_layFar_j31 σ1) (fun q => X q.1 q.2) → Z κ (0, 0) (Qm κ ad σ enI okB X) 31 [(0, vo ad 12 (some 0))] [] ad σ1 := by
    intro σ1 eN1 h
    unfold fX12_layFar_j31 at h
    refine z_rng (fun hI31 hJ32 => ?_)
    refine z_iconst C dX12_layFar_31 ?_
    refine z_istore_n (lv2 := [(1, vi 1), (0, vo ad 12 (some 0))]) C dX12_layFar_32 (by decide) rfl ?_
    refine z_sub [1, 0] rfl ?_
    exact J33 1 σ1 (by decide) eN1 h
  have J2 : ∀ (x1 : Int) (σ1 : St), inr x1 → σ1.2.2.2 = σ.2.2.2 → wpO (fX12_layFar_j2 x1 σ1) (fun q => X q.1 q.2) → Z κ (0, 0) (Qm κ ad σ enI okB X) 2 [(0, vo ad 12 (some 0)), (1, vi x1)] [] ad σ1 := by
    intro x1 σ1 hx1 eN1 h
    unfold fX12_layFar_j2 at h
    have step : ∀ (P2 : (Int × St) → Prop) (Q2 : St → Prop), (∀ (x1 : Int) (σ1 : St), P2 ((x1, σ1)) → inr x1 → σ1.2.2.2 = σ.2.2.2 → Z κ (0, 0) (Qm κ ad σ enI okB X) 2 [(0, vo ad 12 (some 0)), (1, vi x1)] [] ad σ1) → (∀ (σ1 : St), Q2 (σ1) → σ1.2.2.2 = σ.2.2.2 → Z κ (0, 0) (Qm κ ad σ enI okB X) 31 [(0, vo ad 12 (some 0))] [] ad σ1) → ∀ (x1 : Int) (σ1 : St), inr x1 → σ1.2.2.2 = σ.2.2.2 → wpO (fX12_layFar_l2 x1 σ1) (onS P2 Q2) → Z κ (0, 0) (Qm κ ad σ enI okB X) 2 [(0, vo ad 12 (some 0)), (1, vi x1)] [] ad σ1 := by
      intro P2 Q2 hP2 hE2_31 x1 σ1 hx1 eN1 h
      unfold fX12_layFar_l2 at h
      have J24 : ∀ (x1 : Int) (s1 : Int) (s2 : Int) (σ1 : St), inr x1 → inr s1 → inr s2 → σ1.2.2.2 = σ.2.2.2 → wpO (fX12_layFar_j24 x1 s1 s2 σ1) (onS P2 Q2) → Z κ (0, 0) (Qm κ ad σ enI okB X) 24 [(0, vo ad 12 (some 0)), (1, vi x1)] [vi s2, vi s1, vo ad 1389 (some 0)] ad σ1 := by
        intro x1 s1 s2 σ1 hx1 hs1 hs2 eN1 h
        unfold fX12_layFar_j24 at h
        refine z_rng (fun hI33 hJ34 => ?_)
        obtain ⟨hb35, h⟩ := wpO_ck.mp h
        refine z_iastore C ar_1389 (sg_1389 T) hs1 hb35 hs2 dX12_layFar_24 ?_
        obtain ⟨hk36, h⟩ := wpO_ck.mp h
        refine z_iinc (lv2 := [(1, vi (x1 + 1)), (0, vo ad 12 (some 0))]) C 1 dX12_layFar_25 rfl (by decide) rfl ?_
        refine z_goto C 2 dX12_layFar_28 (by decide) ?_
        refine z_sub [1, 0] rfl ?_
        have h := wpO_some.mp h
        exact hP2 (x1 + 1) (sI σ1 1389 0 s1.toNat s2) h hk36 eN1
      refine z_rng (fun hI37 hJ38 => ?_)
      refine z_iload_n C 1 dX12_layFar_2 rfl ?_
      refine z_bipush C dX12_layFar_3 (by decide) ?_
      refine z_icmp_ge C 31 hx1 (by decide) dX12_layFar_5 (by decide) (fun q39 => ?_) (fun q39 => ?_)
      · have h := (wpO_ite.mp h).1 q39
        refine z_sub [0] rfl ?_
        have h := wpO_some.mp h
        exact hE2_31 σ1 h eN1
      · have h := (wpO_ite.mp h).2 q39
        refine z_aload_n C 0 dX12_layFar_8 rfl ?_
        refine z_gA T C li_X12_234 (sg_12 T) dX12_layFar_9 ?_
        refine z_iload_n C 1 dX12_layFar_12 rfl ?_
        refine z_iload_n C 1 dX12_layFar_13 rfl ?_
        refine z_if_ne C 21 hx1 dX12_layFar_14 (by decide) (fun q40 => ?_) (fun q40 => ?_)
        · have h := (wpO_ite.mp h).2 q40
          refine z_ldc_w C lc_X12_270 dX12_layFar_21 ?_
          exact J24 x1 x1 1000000 σ1 hx1 hx1 (by decide) eN1 h
        · have h := (wpO_ite.mp h).1 q40
          refine z_iconst C dX12_layFar_17 ?_
          refine z_goto C 24 dX12_layFar_18 (by decide) ?_
          exact J24 x1 x1 0 σ1 hx1 hx1 (by decide) eN1 h
    exact wh_ind (P := fun s : (Int × St) => inr s.1 → s.2.2.2.2 = σ.2.2.2 → Z κ (0, 0) (Qm κ ad σ enI okB X) 2 [(0, vo ad 12 (some 0)), (1, vi s.1)] [] ad s.2) (fun s hs g0 g1 => step _ _ (fun _ _ hp => hp) (fun σ1 hq eN1 => J31 σ1 eN1 hq) s.1 s.2 g0 g1 hs) ((x1, σ1)) (wpO_bnk.mp h) hx1 eN1
  show Z κ (0, 0) (Qm κ ad σ enI okB X) 0 [(0, vo ad 12 (some 0))] [] ad σ
  refine z_rng (fun hI41 hJ42 => ?_)
  refine z_iconst C dX12_layFar_0 ?_
  refine z_istore_n (lv2 := [(1, vi 0), (0, vo ad 12 (some 0))]) C dX12_layFar_1 (by decide) rfl ?_
  refine z_sub [1, 0] rfl ?_
  exact J2 0 σ (by decide) rfl h
noncomputable def fX12_earnsMost_j237 (x1 : Int) (σ1 : St) : Option (Int × St) :=
  some (x1, σ1)
noncomputable def fX12_earnsMost_j225 (x1 : Int) (σ1 : St) : Option ((Int × St) ⊕ (Int × St)) :=
  ck (inr (x1 - (gI σ1 1389 0 1))) (some (.inl ((x1 - (gI σ1 1389 0 1), σ1))))
noncomputable def fX12_earnsMost_l174 (x1 : Int) (x2 : Int) (σ1 : St) : Option ((Int × St) ⊕ St) :=
  if x2 = 0 then (some (.inr σ1)) else (ck (0 ≤ x2 ∧ x2 < 19) (ck (0 ≤ gI σ1 1390 0 x2.toNat ∧ gI σ1 1390 0 x2.toNat < 200) (ck (inr ((gI σ1 1387 0 ((gI σ1 1390 0 x2.toNat).toNat)) - 1)) (ck (0 ≤ gI σ1 1390 0 x2.toNat ∧ gI σ1 1390 0 x2.toNat < 200) (ck (0 ≤ x2 ∧ x2 < 19) (ck (0 ≤ ixor (gI σ1 1390 0 x2.toNat) 1 ∧ ixor (gI σ1 1390 0 x2.toNat) 1 < 200) (ck (inr ((gI (sI σ1 1387 0 ((gI σ1 1390 0 x2.toNat).toNat) ((gI σ1 1387 0 ((gI σ1 1390 0 x2.toNat).toNat)) - 1)) 1387 0 ((ixor (gI σ1 1390 0 x2.toNat) 1).toNat)) + 1)) (ck (0 ≤ ixor (gI σ1 1390 0 x2.toNat) 1 ∧ ixor (gI σ1 1390 0 x2.toNat) 1 < 200) (ck (0 ≤ x2 ∧ x2 < 19) (ck (0 ≤ gI σ1 1390 0 x2.toNat ∧ gI σ1 1390 0 x2.toNat < 200) (some (.inl ((gI σ1 1385 0 ((gI σ1 1390 0 x2.toNat).toNat), sI (sI σ1 1387 0 ((gI σ1 1390 0 x2.toNat).toNat) ((gI σ1 1387 0 ((gI σ1 1390 0 x2.toNat).toNat)) - 1)) 1387 0 ((ixor (gI σ1 1390 0 x2.toNat) 1).toNat) ((gI (sI σ1 1387 0 ((gI σ1 1390 0 x2.toNat).toNat) ((gI σ1 1387 0 ((gI σ1 1390 0 x2.toNat).toNat)) - 1)) 1387 0 ((ixor (gI σ1 1390 0 x2.toNat) 1).toNat)) + 1)))))))))))))))
noncomputable def fX12_earnsMost_j174 (x1 : Int) (x2 : Int) (σ1 : St) : Option ((Int × St) ⊕ (Int × St)) :=
  bnk (wh (fun s => fX12_earnsMost_l174 x1 s.1 s.2) ((x2, σ1))) (fun e => fX12_earnsMost_j225 x1 e)
noncomputable def fX12_earnsMost_l165 (x1 : Int) (σ1 : St) : Option ((Int × St) ⊕ (Int × St)) :=
  bnd (fX12_layFar σ1) (fun r21 σ23 => if r21 = 0 then (some (.inr ((x1, σ23)))) else (fX12_earnsMost_j174 x1 1 σ23))
noncomputable def fX12_earnsMost_j165 (x1 : Int) (σ1 : St) : Option (Int × St) :=
  bnk (wh (fun s => fX12_earnsMost_l165 s.1 s.2) ((x1, σ1))) (fun e => fX12_earnsMost_j237 e.1 e.2)
noncomputable def fX12_earnsMost_j159 (x1 : Int) (x2 : Int) (σ1 : St) : Option ((Int × St) ⊕ St) :=
  ck (inr (x2 + 1)) (some (.inl ((x2 + 1, σ1))))
noncomputable def fX12_earnsMost_l124 (x1 : Int) (x2 : Int) (x3 : Int) (σ1 : St) : Option ((Int × St) ⊕ St) :=
  ck (0 ≤ x2 ∧ x2 < 8) (if gI σ1 1380 0 x2.toNat < x3 then (some (.inr σ1)) else (ck (inr (2 + x2)) (ck (inr (10 + x3)) (bnk (fX12_earns x2 x3 σ1) (fun r38 => ck (inr (-r38)) (bnd (fX12_edge (2 + x2) (10 + x3) 1 (-r38) σ1) (fun _ σ43 => ck (inr (x3 + 1)) (some (.inl ((x3 + 1, σ43)))))))))))
noncomputable def fX12_earnsMost_j124 (x1 : Int) (x2 : Int) (x3 : Int) (σ1 : St) : Option ((Int × St) ⊕ St) :=
  bnk (wh (fun s => fX12_earnsMost_l124 x1 x2 s.1 s.2) ((x3, σ1))) (fun e => fX12_earnsMost_j159 x1 x2 e)
noncomputable def fX12_earnsMost_l88 (x1 : Int) (x2 : Int) (σ1 : St) : Option ((Int × St) ⊕ St) :=
  if gI σ1 1378 0 0 ≤ x2 then (some (.inr σ1)) else (ck (0 ≤ x2 ∧ x2 < 8) (if gI σ1 1391 0 x2.toNat = 9 then (ck (inr (2 + x2)) (bnd (fX12_edge 0 (2 + x2) 1 0 σ1) (fun _ σ57 => ck (0 ≤ x2 ∧ x2 < 8) (fX12_earnsMost_j124 x1 x2 (gI σ57 1379 0 x2.toNat) σ57)))) else (fX12_earnsMost_j159 x1 x2 σ1)))
noncomputable def fX12_earnsMost_j88 (x1 : Int) (x2 : Int) (σ1 : St) : Option (Int × St) :=
  bnk (wh (fun s => fX12_earnsMost_l88 x1 s.1 s.2) ((x2, σ1))) (fun e => fX12_earnsMost_j165 x1 e)
noncomputable def fX12_earnsMost_j86 (x1 : Int) (σ1 : St) : Option (Int × St) :=
  fX12_earnsMost_j88 x1 0 σ1
noncomputable def fX12_earnsMost_j66 (σ1 : St) : Option (Int × St) :=
  some ((-9), σ1)
noncomputable def fX12_earnsMost_j62 (x1 : Int) (x2 : Int) (x3 : Int) (σ1 : St) : Option ((Int × Int × St) ⊕ (St ⊕ (Int × St))) :=
  if 0 ≤ x3 then (ck (inr (10 + x2)) (bnd (fX12_edge (10 + x2) 1 x3 0 σ1) (fun _ σ73 => ck (inr (x2 + 1)) (some (.inl ((x1, x2 + 1, σ73))))))) else (some (.inr (.inl σ1)))
noncomputable def fX12_earnsMost_j56 (x1 : Int) (x2 : Int) (x3 : Int) (x4 : Int) (σ1 : St) : Option ((Int × Int × Int) ⊕ (Int × Int)) :=
  ck (inr (x4 + 1)) (some (.inl ((x1, x3, x4 + 1))))
noncomputable def fX12_earnsMost_l23 (x2 : Int) (σ1 : St) (x1 : Int) (x3 : Int) (x4 : Int) : Option ((Int × Int × Int) ⊕ (Int × Int)) :=
  if gI σ1 1378 0 0 ≤ x4 then (some (.inr ((x1, x3)))) else (ck (0 ≤ x4 ∧ x4 < 8) (if gI σ1 1391 0 x4.toNat = x2 then (ck (inr (x3 + (-1))) (bnk (fX12_earns x4 x2 σ1) (fun r88 => ck (inr (x1 + r88)) (fX12_earnsMost_j56 (x1 + r88) x2 (x3 + (-1)) x4 σ1)))) else (fX12_earnsMost_j56 x1 x2 x3 x4 σ1)))
noncomputable def fX12_earnsMost_j23 (x1 : Int) (x2 : Int) (x3 : Int) (x4 : Int) (σ1 : St) : Option ((Int × Int × St) ⊕ (St ⊕ (Int × St))) :=
  bnk (wh (fun s => fX12_earnsMost_l23 x2 σ1 s.1 s.2.1 s.2.2) ((x1, x3, x4))) (fun e => fX12_earnsMost_j62 e.1 x2 e.2 σ1)
noncomputable def fX12_earnsMost_l9 (x1 : Int) (x2 : Int) (σ1 : St) : Option ((Int × Int × St) ⊕ (St ⊕ (Int × St))) :=
  if 9 ≤ x2 then (some (.inr (.inr ((x1, σ1))))) else (fX12_earnsMost_j23 x1 x2 (gI σ1 1383 0 0) 0 σ1)
noncomputable def fX12_earnsMost_j9 (x1 : Int) (x2 : Int) (σ1 : St) : Option (Int × St) :=
  bnk (wh (fun s => fX12_earnsMost_l9 s.1 s.2.1 s.2.2) ((x1, x2, σ1))) (fun e => Sum.elim (fun a0 => fX12_earnsMost_j66 a0) (fun b0 => fX12_earnsMost_j86 b0.1 b0.2) e)
noncomputable def fX12_earnsMost (σ : St) : Option (Int × St) :=
  fX12_earnsMost_j9 0 0 (sI σ 1384 0 0 0)
set_option maxRecDepth 20000 in
set_option maxHeartbeats 4000000 in
theorem ct_X12_earnsMost  : Ct yX12_earnsMost cX12_earnsMost 5 (some .int) 1 (fun ad => [vo ad 12 (some 0)]) fX12_earnsMost enI okI (fun _ => True) := by
  refine Ct.of (by decide) (fun ad => Nat.le_of_ble_eq_true rfl) ?_
  intro κ ad σ X C T hpre h
  have C : Cx κ RX12 cX12_earnsMost 5 (some .int) 1 := C
  unfold fX12_earnsMost at h
  have J237 : ∀ (x1 : Int) (σ1 : St), inr x1 → σ1.2.2.2 = σ.2.2.2 → wpO (fX12_earnsMost_j237 x1 σ1) (fun q => X q.1 q.2) → Z κ (0, 0) (Qm κ ad σ enI okI X) 237 [(1, vi x1)] [] ad σ1 := by
    intro x1 σ1 hx1 eN1 h
    unfold fX12_earnsMost_j237 at h
    refine z_rng (fun hI1 hJ2 => ?_)
    refine z_iload_n C 0 dX12_earnsMost_237 rfl ?_
    have h := wpO_some.mp h
    exact z_ireturn T C dX12_earnsMost_238 hx1 eN1 h
  have J165 : ∀ (x1 : Int) (σ1 : St), inr x1 → σ1.2.2.2 = σ.2.2.2 → wpO (fX12_earnsMost_j165 x1 σ1) (fun q => X q.1 q.2) → Z κ (0, 0) (Qm κ ad σ enI okI X) 165 [(0, vo ad 12 (some 0)), (1, vi x1)] [] ad σ1 := by
    intro x1 σ1 hx1 eN1 h
    unfold fX12_earnsMost_j165 at h
    have step : ∀ (P165 : (Int × St) → Prop) (Q165 : (Int × St) → Prop), (∀ (x1 : Int) (σ1 : St), P165 ((x1, σ1)) → inr x1 → σ1.2.2.2 = σ.2.2.2 → Z κ (0, 0) (Qm κ ad σ enI okI X) 165 [(0, vo ad 12 (some 0)), (1, vi x1)] [] ad σ1) → (∀ (x1 : Int) (σ1 : St), Q165 ((x1, σ1)) → inr x1 → σ1.2.2.2 = σ.2.2.2 → Z κ (0, 0) (Qm κ ad σ enI okI X) 237 [(1, vi x1)] [] ad σ1) → ∀ (x1 : Int) (σ1 : St), inr x1 → σ1.2.2.2 = σ.2.2.2 → wpO (fX12_earnsMost_l165 x1 σ1) (onS P165 Q165) → Z κ (0, 0) (Qm κ ad σ enI okI X) 165 [(0, vo ad 12 (some 0)), (1, vi x1)] [] ad σ1 := by
      intro P165 Q165 hP165 hE165_237 x1 σ1 hx1 eN1 h
      unfold fX12_earnsMost_l165 at h
      have J225 : ∀ (x1 : Int) (σ1 : St), inr x1 → σ1.2.2.2 = σ.2.2.2 → wpO (fX12_earnsMost_j225 x1 σ1) (onS P165 Q165) → Z κ (0, 0) (Qm κ ad σ enI okI X) 225 [(0, vo ad 12 (some 0)), (1, vi x1)] [] ad σ1 := by
        intro x1 σ1 hx1 eN1 h
        unfold fX12_earnsMost_j225 at h
        refine z_rng (fun hI3 hJ4 => ?_)
        refine z_iload_n C 1 dX12_earnsMost_225 rfl ?_
        refine z_aload_n C 0 dX12_earnsMost_226 rfl ?_
        refine z_gA T C li_X12_234 (sg_12 T) dX12_earnsMost_227 ?_
        refine z_iconst C dX12_earnsMost_230 ?_
        refine z_iav (v := gI σ1 1389 0 1) C ar_1389 (sg_1389 T) (by decide) (by decide) rfl dX12_earnsMost_231 ?_
        obtain ⟨hk5, h⟩ := wpO_ck.mp h
        refine z_isub C dX12_earnsMost_232 ?_
        refine z_istore_n (lv2 := [(1, vi (x1 - (gI σ1 1389 0 1))), (0, vo ad 12 (some 0))]) C dX12_earnsMost_233 (by decide) rfl ?_
        refine z_goto C 165 dX12_earnsMost_234 (by decide) ?_
        refine z_sub [1, 0] rfl ?_
        have h := wpO_some.mp h
        exact hP165 (x1 - (gI σ1 1389 0 1)) σ1 h hk5 eN1
      have J174 : ∀ (x1 : Int) (x2 : Int) (σ1 : St), inr x1 → inr x2 → σ1.2.2.2 = σ.2.2.2 → wpO (fX12_earnsMost_j174 x1 x2 σ1) (onS P165 Q165) → Z κ (0, 0) (Qm κ ad σ enI okI X) 174 [(0, vo ad 12 (some 0)), (1, vi x1), (2, vi x2)] [] ad σ1 := by
        intro x1 x2 σ1 hx1 hx2 eN1 h
        unfold fX12_earnsMost_j174 at h
        have step : ∀ (P174 : (Int × St) → Prop) (Q174 : St → Prop), (∀ (x2 : Int) (σ1 : St), P174 ((x2, σ1)) → inr x2 → σ1.2.2.2 = σ.2.2.2 → Z κ (0, 0) (Qm κ ad σ enI okI X) 174 [(0, vo ad 12 (some 0)), (1, vi x1), (2, vi x2)] [] ad σ1) → (∀ (σ1 : St), Q174 (σ1) → σ1.2.2.2 = σ.2.2.2 → Z κ (0, 0) (Qm κ ad σ enI okI X) 225 [(0, vo ad 12 (some 0)), (1, vi x1)] [] ad σ1) → ∀ (x2 : Int) (σ1 : St), inr x2 → σ1.2.2.2 = σ.2.2.2 → wpO (fX12_earnsMost_l174 x1 x2 σ1) (onS P174 Q174) → Z κ (0, 0) (Qm κ ad σ enI okI X) 174 [(0, vo ad 12 (some 0)), (1, vi x1), (2, vi x2)] [] ad σ1 := by
          intro P174 Q174 hP174 hE174_225 x2 σ1 hx2 eN1 h
          unfold fX12_earnsMost_l174 at h
          refine z_rng (fun hI6 hJ7 => ?_)
          refine z_iload_n C 2 dX12_earnsMost_174 rfl ?_
          refine z_if_eq C 225 hx2 dX12_earnsMost_175 (by decide) (fun q8 => ?_) (fun q8 => ?_)
          · have h := (wpO_ite.mp h).1 q8
            refine z_sub [0, 1] rfl ?_
            have h := wpO_some.mp h
            exact hE174_225 σ1 h eN1
          · have h := (wpO_ite.mp h).2 q8
            refine z_aload_n C 0 dX12_earnsMost_178 rfl ?_
            refine z_gA T C li_X12_228 (sg_12 T) dX12_earnsMost_179 ?_
            refine z_aload_n C 0 dX12_earnsMost_182 rfl ?_
            refine z_gA T C li_X12_237 (sg_12 T) dX12_earnsMost_183 ?_
            refine z_iload_n C 2 dX12_earnsMost_186 rfl ?_
            obtain ⟨hb9, h⟩ := wpO_ck.mp h
            refine z_iav (v := gI σ1 1390 0 x2.toNat) C ar_1390 (sg_1390 T) hx2 hb9 rfl dX12_earnsMost_187 ?_
            refine z_dup2 C dX12_earnsMost_188 rfl rfl ?_
            obtain ⟨hb10, h⟩ := wpO_ck.mp h
            refine z_iav (v := gI σ1 1387 0 ((gI σ1 1390 0 x2.toNat).toNat)) C ar_1387 (sg_1387 T) (hI6 1390 0 _) hb10 rfl dX12_earnsMost_189 ?_
            refine z_iconst C dX12_earnsMost_190 ?_
            obtain ⟨hk11, h⟩ := wpO_ck.mp h
            refine z_isub C dX12_earnsMost_191 ?_
            obtain ⟨hb12, h⟩ := wpO_ck.mp h
            refine z_iastore C ar_1387 (sg_1387 T) (hI6 1390 0 _) hb12 hk11 dX12_earnsMost_192 ?_
            refine z_aload_n C 0 dX12_earnsMost_193 rfl ?_
            refine z_gA T C li_X12_228 (sg_12 T) dX12_earnsMost_194 ?_
            refine z_aload_n C 0 dX12_earnsMost_197 rfl ?_
            refine z_gA T C li_X12_237 (sg_12 T) dX12_earnsMost_198 ?_
            refine z_iload_n C 2 dX12_earnsMost_201 rfl ?_
            obtain ⟨hb13, h⟩ := wpO_ck.mp h
            refine z_iav (v := gI σ1 1390 0 x2.toNat) C ar_1390 (sg_1390 T) hx2 hb13 (gn (by decide) rfl) dX12_earnsMost_202 ?_
            refine z_iconst C dX12_earnsMost_203 ?_
            refine z_ixor C dX12_earnsMost_204 ?_
            refine z_dup2 C dX12_earnsMost_205 rfl rfl ?_
            obtain ⟨hb14, h⟩ := wpO_ck.mp h
            refine z_iav (v := gI (sI σ1 1387 0 ((gI σ1 1390 0 x2.toNat).toNat) ((gI σ1 1387 0 ((gI σ1 1390 0 x2.toNat).toNat)) - 1)) 1387 0 ((ixor (gI σ1 1390 0 x2.toNat) 1).toNat)) C ar_1387 (sg_1387 T) (inr_ixor _ _) hb14 rfl dX12_earnsMost_206 ?_
            refine z_iconst C dX12_earnsMost_207 ?_
            obtain ⟨hk15, h⟩ := wpO_ck.mp h
            refine z_iadd C dX12_earnsMost_208 ?_
            obtain ⟨hb16, h⟩ := wpO_ck.mp h
            refine z_iastore C ar_1387 (sg_1387 T) (inr_ixor _ _) hb16 hk15 dX12_earnsMost_209 ?_
            refine z_aload_n C 0 dX12_earnsMost_210 rfl ?_
            refine z_gA T C li_X12_222 (sg_12 T) dX12_earnsMost_211 ?_
            refine z_aload_n C 0 dX12_earnsMost_214 rfl ?_
            refine z_gA T C li_X12_237 (sg_12 T) dX12_earnsMost_215 ?_
            refine z_iload_n C 2 dX12_earnsMost_218 rfl ?_
            obtain ⟨hb17, h⟩ := wpO_ck.mp h
            refine z_iav (v := gI σ1 1390 0 x2.toNat) C ar_1390 (sg_1390 T) hx2 hb17 (gn (by decide) (gn (by decide) rfl)) dX12_earnsMost_219 ?_
            obtain ⟨hb18, h⟩ := wpO_ck.mp h
            refine z_iav (v := gI σ1 1385 0 ((gI σ1 1390 0 x2.toNat).toNat)) C ar_1385 (sg_1385 T) (hI6 1390 0 _) hb18 (gn (by decide) (gn (by decide) rfl)) dX12_earnsMost_220 ?_
            refine z_istore_n (lv2 := [(2, vi (gI σ1 1385 0 ((gI σ1 1390 0 x2.toNat).toNat))), (0, vo ad 12 (some 0)), (1, vi x1)]) C dX12_earnsMost_221 (by decide) rfl ?_
            refine z_goto C 174 dX12_earnsMost_222 (by decide) ?_
            refine z_sub [1, 2, 0] rfl ?_
            have h := wpO_some.mp h
            exact hP174 (gI σ1 1385 0 ((gI σ1 1390 0 x2.toNat).toNat)) (sI (sI σ1 1387 0 ((gI σ1 1390 0 x2.toNat).toNat) ((gI σ1 1387 0 ((gI σ1 1390 0 x2.toNat).toNat)) - 1)) 1387 0 ((ixor (gI σ1 1390 0 x2.toNat) 1).toNat) ((gI (sI σ1 1387 0 ((gI σ1 1390 0 x2.toNat).toNat) ((gI σ1 1387 0 ((gI σ1 1390 0 x2.toNat).toNat)) - 1)) 1387 0 ((ixor (gI σ1 1390 0 x2.toNat) 1).toNat)) + 1)) h (hI6 1385 0 _) eN1
        exact wh_ind (P := fun s : (Int × St) => inr s.1 → s.2.2.2.2 = σ.2.2.2 → Z κ (0, 0) (Qm κ ad σ enI okI X) 174 [(0, vo ad 12 (some 0)), (1, vi x1), (2, vi s.1)] [] ad s.2) (fun s hs g0 g1 => step _ _ (fun _ _ hp => hp) (fun σ1 hq eN1 => J225 x1 σ1 hx1 eN1 hq) s.1 s.2 g0 g1 hs) ((x2, σ1)) (wpO_bnk.mp h) hx2 eN1
      refine z_rng (fun hI19 hJ20 => ?_)
      refine z_aload_n C 0 dX12_earnsMost_165 rfl ?_
      refine z_cV (st := []) T C ct_X12_layFar lm_X12_474 lv_vX12_layFar dX12_earnsMost_166 [] rfl rfl rfl rfl rfl (sg_12 T) trivial (by decide) (Nat.le_of_ble_eq_true rfl) csOK_0 h (fun r21 σ23 hr22 eN24 h => ?_)
      have eN25 := eN24.trans eN1
      show Z κ (0, 0) _ 169 _ [vi r21] ad σ23
      refine z_rng (fun hI26 hJ27 => ?_)
      refine z_if_eq C 237 (inr_b hr22) dX12_earnsMost_169 (by decide) (fun q28 => ?_) (fun q28 => ?_)
      · have h := (wpO_ite.mp h).1 q28
        refine z_sub [1] rfl ?_
        have h := wpO_some.mp h
        exact hE165_237 x1 σ23 h hx1 eN25
      · have h := (wpO_ite.mp h).2 q28
        refine z_iconst C dX12_earnsMost_172 ?_
        refine z_istore_n (lv2 := [(2, vi 1), (0, vo ad 12 (some 0)), (1, vi x1)]) C dX12_earnsMost_173 (by decide) rfl ?_
        refine z_sub [1, 2, 0] rfl ?_
        exact J174 x1 1 σ23 hx1 (by decide) eN25 h
    exact wh_ind (P := fun s : (Int × St) => inr s.1 → s.2.2.2.2 = σ.2.2.2 → Z κ (0, 0) (Qm κ ad σ enI okI X) 165 [(0, vo ad 12 (some 0)), (1, vi s.1)] [] ad s.2) (fun s hs g0 g1 => step _ _ (fun _ _ hp => hp) (fun x1 σ1 hq hx1 eN1 => J237 x1 σ1 hx1 eN1 hq) s.1 s.2 g0 g1 hs) ((x1, σ1)) (wpO_bnk.mp h) hx1 eN1
  have J88 : ∀ (x1 : Int) (x2 : Int) (σ1 : St), inr x1 → inr x2 → σ1.2.2.2 = σ.2.2.2 → wpO (fX12_earnsMost_j88 x1 x2 σ1) (fun q => X q.1 q.2) → Z κ (0, 0) (Qm κ ad σ enI okI X) 88 [(0, vo ad 12 (some 0)), (1, vi x1), (2, vi x2)] [] ad σ1 := by
    intro x1 x2 σ1 hx1 hx2 eN1 h
    unfold fX12_earnsMost_j88 at h
    have step : ∀ (P88 : (Int × St) → Prop) (Q88 : St → Prop), (∀ (x2 : Int) (σ1 : St), P88 ((x2, σ1)) → inr x2 → σ1.2.2.2 = σ.2.2.2 → Z κ (0, 0) (Qm κ ad σ enI okI X) 88 [(0, vo ad 12 (some 0)), (1, vi x1), (2, vi x2)] [] ad σ1) → (∀ (σ1 : St), Q88 (σ1) → σ1.2.2.2 = σ.2.2.2 → Z κ (0, 0) (Qm κ ad σ enI okI X) 165 [(0, vo ad 12 (some 0)), (1, vi x1)] [] ad σ1) → ∀ (x2 : Int) (σ1 : St), inr x2 → σ1.2.2.2 = σ.2.2.2 → wpO (fX12_earnsMost_l88 x1 x2 σ1) (onS P88 Q88) → Z κ (0, 0) (Qm κ ad σ enI okI X) 88 [(0, vo ad 12 (some 0)), (1, vi x1), (2, vi x2)] [] ad σ1 := by
      intro P88 Q88 hP88 hE88_165 x2 σ1 hx2 eN1 h
      unfold fX12_earnsMost_l88 at h
      have J159 : ∀ (x2 : Int) (σ1 : St), inr x2 → σ1.2.2.2 = σ.2.2.2 → wpO (fX12_earnsMost_j159 x1 x2 σ1) (onS P88 Q88) → Z κ (0, 0) (Qm κ ad σ enI okI X) 159 [(0, vo ad 12 (some 0)), (1, vi x1), (2, vi x2)] [] ad σ1 := by
        intro x2 σ1 hx2 eN1 h
        unfold fX12_earnsMost_j159 at h
        refine z_rng (fun hI29 hJ30 => ?_)
        obtain ⟨hk31, h⟩ := wpO_ck.mp h
        refine z_iinc (lv2 := [(2, vi (x2 + 1)), (0, vo ad 12 (some 0)), (1, vi x1)]) C 2 dX12_earnsMost_159 rfl (by decide) rfl ?_
        refine z_goto C 88 dX12_earnsMost_162 (by decide) ?_
        refine z_sub [1, 2, 0] rfl ?_
        have h := wpO_some.mp h
        exact hP88 (x2 + 1) σ1 h hk31 eN1
      have J124 : ∀ (x2 : Int) (x3 : Int) (σ1 : St), inr x2 → inr x3 → σ1.2.2.2 = σ.2.2.2 → wpO (fX12_earnsMost_j124 x1 x2 x3 σ1) (onS P88 Q88) → Z κ (0, 0) (Qm κ ad σ enI okI X) 124 [(0, vo ad 12 (some 0)), (1, vi x1), (2, vi x2), (3, vi x3)] [] ad σ1 := by
        intro x2 x3 σ1 hx2 hx3 eN1 h
        unfold fX12_earnsMost_j124 at h
        have step : ∀ (P124 : (Int × St) → Prop) (Q124 : St → Prop), (∀ (x3 : Int) (σ1 : St), P124 ((x3, σ1)) → inr x3 → σ1.2.2.2 = σ.2.2.2 → Z κ (0, 0) (Qm κ ad σ enI okI X) 124 [(0, vo ad 12 (some 0)), (1, vi x1), (2, vi x2), (3, vi x3)] [] ad σ1) → (∀ (σ1 : St), Q124 (σ1) → σ1.2.2.2 = σ.2.2.2 → Z κ (0, 0) (Qm κ ad σ enI okI X) 159 [(0, vo ad 12 (some 0)), (1, vi x1), (2, vi x2)] [] ad σ1) → ∀ (x3 : Int) (σ1 : St), inr x3 → σ1.2.2.2 = σ.2.2.2 → wpO (fX12_earnsMost_l124 x1 x2 x3 σ1) (onS P124 Q124) → Z κ (0, 0) (Qm κ ad σ enI okI X) 124 [(0, vo ad 12 (some 0)), (1, vi x1), (2, vi x2), (3, vi x3)] [] ad σ1 := by
          intro P124 Q124 hP124 hE124_159 x3 σ1 hx3 eN1 h
          unfold fX12_earnsMost_l124 at h
          refine z_rng (fun hI32 hJ33 => ?_)
          refine z_iload_n C 3 dX12_earnsMost_124 rfl ?_
          refine z_aload_n C 0 dX12_earnsMost_125 rfl ?_
          refine z_gA T C li_X12_210 (sg_12 T) dX12_earnsMost_126 ?_
          refine z_iload_n C 2 dX12_earnsMost_129 rfl ?_
          obtain ⟨hb34, h⟩ := wpO_ck.mp h
          refine z_iav (v := gI σ1 1380 0 x2.toNat) C ar_1380 (sg_1380 T) hx2 hb34 rfl dX12_earnsMost_130 ?_
          refine z_icmp_gt C 159 hx3 (hI32 1380 0 _) dX12_earnsMost_131 (by decide) (fun q35 => ?_) (fun q35 => ?_)
          · have h := (wpO_ite.mp h).1 q35
            refine z_sub [0, 1, 2] rfl ?_
            have h := wpO_some.mp h
            exact hE124_159 σ1 h eN1
          · have h := (wpO_ite.mp h).2 q35
            refine z_aload_n C 0 dX12_earnsMost_134 rfl ?_
            refine z_iconst C dX12_earnsMost_135 ?_
            refine z_iload_n C 2 dX12_earnsMost_136 rfl ?_
            obtain ⟨hk36, h⟩ := wpO_ck.mp h
            refine z_iadd C dX12_earnsMost_137 ?_
            refine z_bipush C dX12_earnsMost_138 (by decide) ?_
            refine z_iload_n C 3 dX12_earnsMost_140 rfl ?_
            obtain ⟨hk37, h⟩ := wpO_ck.mp h
            refine z_iadd C dX12_earnsMost_141 ?_
            refine z_iconst C dX12_earnsMost_142 ?_
            refine z_aload_n C 0 dX12_earnsMost_143 rfl ?_
            refine z_iload_n C 2 dX12_earnsMost_144 rfl ?_
            refine z_iload_n C 3 dX12_earnsMost_145 rfl ?_
            refine z_cVp (st := [vi 1, vi (10 + x3), vi (2 + x2), vo ad 12 (some 0)]) T C (ct_X12_earns x2 x3 hx2 hx3) lm_X12_468 lv_vX12_earns dX12_earnsMost_146 [vi x2, vi x3] rfl rfl rfl rfl rfl (sg_12 T) trivial (by decide) (Nat.le_of_ble_eq_true rfl) csOK_0 h (fun r38 hr39 h => ?_)
            show Z κ (0, 0) _ 149 _ [vi r38, vi 1, vi (10 + x3), vi (2 + x2), vo ad 12 (some 0)] ad σ1
            obtain ⟨hk40, h⟩ := wpO_ck.mp h
            refine z_ineg C dX12_earnsMost_149 ?_
            refine z_cV (st := []) T C (ct_X12_edge (2 + x2) (10 + x3) 1 (-r38) hk36 hk37 (by decide) hk40) lm_X12_471 lv_vX12_edge dX12_earnsMost_150 [vi (2 + x2), vi (10 + x3), vi 1, vi (-r38)] rfl rfl rfl rfl rfl (sg_12 T) trivial (by decide) (Nat.le_of_ble_eq_true rfl) csOK_0 h (fun r41 σ43 hr42 eN44 h => ?_)
            have eN45 := eN44.trans eN1
            show Z κ (0, 0) _ 153 _ [] ad σ43
            refine z_rng (fun hI46 hJ47 => ?_)
            obtain ⟨hk48, h⟩ := wpO_ck.mp h
            refine z_iinc (lv2 := [(3, vi (x3 + 1)), (0, vo ad 12 (some 0)), (1, vi x1), (2, vi x2)]) C 3 dX12_earnsMost_153 rfl (by decide) rfl ?_
            refine z_goto C 124 dX12_earnsMost_156 (by decide) ?_
            refine z_sub [1, 2, 3, 0] rfl ?_
            have h := wpO_some.mp h
            exact hP124 (x3 + 1) σ43 h hk48 eN45
        exact wh_ind (P := fun s : (Int × St) => inr s.1 → s.2.2.2.2 = σ.2.2.2 → Z κ (0, 0) (Qm κ ad σ enI okI X) 124 [(0, vo ad 12 (some 0)), (1, vi x1), (2, vi x2), (3, vi s.1)] [] ad s.2) (fun s hs g0 g1 => step _ _ (fun _ _ hp => hp) (fun σ1 hq eN1 => J159 x2 σ1 hx2 eN1 hq) s.1 s.2 g0 g1 hs) ((x3, σ1)) (wpO_bnk.mp h) hx3 eN1
      refine z_rng (fun hI49 hJ50 => ?_)
      refine z_iload_n C 2 dX12_earnsMost_88 rfl ?_
      refine z_aload_n C 0 dX12_earnsMost_89 rfl ?_
      refine z_gIv (v := gI σ1 1378 0 0) C li_X12_460 (sg_12 T) rfl dX12_earnsMost_90 ?_
      refine z_icmp_ge C 165 hx2 (hI49 1378 0 _) dX12_earnsMost_93 (by decide) (fun q51 => ?_) (fun q51 => ?_)
      · have h := (wpO_ite.mp h).1 q51
        refine z_sub [0, 1] rfl ?_
        have h := wpO_some.mp h
        exact hE88_165 σ1 h eN1
      · have h := (wpO_ite.mp h).2 q51
        refine z_aload_n C 0 dX12_earnsMost_96 rfl ?_
        refine z_gA T C li_X12_240 (sg_12 T) dX12_earnsMost_97 ?_
        refine z_iload_n C 2 dX12_earnsMost_100 rfl ?_
        obtain ⟨hb52, h⟩ := wpO_ck.mp h
        refine z_iav (v := gI σ1 1391 0 x2.toNat) C ar_1391 (sg_1391 T) hx2 hb52 rfl dX12_earnsMost_101 ?_
        refine z_bipush C dX12_earnsMost_102 (by decide) ?_
        refine z_icmp_ne C 159 (hI49 1391 0 _) (by decide) dX12_earnsMost_104 (by decide) (fun q53 => ?_) (fun q53 => ?_)
        · have h := (wpO_ite.mp h).2 q53
          exact J159 x2 σ1 hx2 eN1 h
        · have h := (wpO_ite.mp h).1 q53
          refine z_aload_n C 0 dX12_earnsMost_107 rfl ?_
          refine z_iconst C dX12_earnsMost_108 ?_
          refine z_iconst C dX12_earnsMost_109 ?_
          refine z_iload_n C 2 dX12_earnsMost_110 rfl ?_
          obtain ⟨hk54, h⟩ := wpO_ck.mp h
          refine z_iadd C dX12_earnsMost_111 ?_
          refine z_iconst C dX12_earnsMost_112 ?_
          refine z_iconst C dX12_earnsMost_113 ?_
          refine z_cV (st := []) T C (ct_X12_edge 0 (2 + x2) 1 0 (by decide) hk54 (by decide) (by decide)) lm_X12_471 lv_vX12_edge dX12_earnsMost_114 [vi 0, vi (2 + x2), vi 1, vi 0] rfl rfl rfl rfl rfl (sg_12 T) trivial (by decide) (Nat.le_of_ble_eq_true rfl) csOK_0 h (fun r55 σ57 hr56 eN58 h => ?_)
          have eN59 := eN58.trans eN1
          show Z κ (0, 0) _ 117 _ [] ad σ57
          refine z_rng (fun hI60 hJ61 => ?_)
          refine z_aload_n C 0 dX12_earnsMost_117 rfl ?_
          refine z_gA T C li_X12_207 (sg_12 T) dX12_earnsMost_118 ?_
          refine z_iload_n C 2 dX12_earnsMost_121 rfl ?_
          obtain ⟨hb62, h⟩ := wpO_ck.mp h
          refine z_iav (v := gI σ57 1379 0 x2.toNat) C ar_1379 (sg_1379 T) hx2 hb62 rfl dX12_earnsMost_122 ?_
          refine z_istore_n (lv2 := [(3, vi (gI σ57 1379 0 x2.toNat)), (0, vo ad 12 (some 0)), (1, vi x1), (2, vi x2)]) C dX12_earnsMost_123 (by decide) rfl ?_
          refine z_sub [1, 2, 3, 0] rfl ?_
          exact J124 x2 (gI σ57 1379 0 x2.toNat) σ57 hx2 (hI60 1379 0 _) eN59 h
    exact wh_ind (P := fun s : (Int × St) => inr s.1 → s.2.2.2.2 = σ.2.2.2 → Z κ (0, 0) (Qm κ ad σ enI okI X) 88 [(0, vo ad 12 (some 0)), (1, vi x1), (2, vi s.1)] [] ad s.2) (fun s hs g0 g1 => step _ _ (fun _ _ hp => hp) (fun σ1 hq eN1 => J165 x1 σ1 hx1 eN1 hq) s.1 s.2 g0 g1 hs) ((x2, σ1)) (wpO_bnk.mp h) hx2 eN1
  have J86 : ∀ (x1 : Int) (σ1 : St), inr x1 → σ1.2.2.2 = σ.2.2.2 → wpO (fX12_earnsMost_j86 x1 σ1) (fun q => X q.1 q.2) → Z κ (0, 0) (Qm κ ad σ enI okI X) 86 [(0, vo ad 12 (some 0)), (1, vi x1)] [] ad σ1 := by
    intro x1 σ1 hx1 eN1 h
    unfold fX12_earnsMost_j86 at h
    refine z_rng (fun hI63 hJ64 => ?_)
    refine z_iconst C dX12_earnsMost_86 ?_
    refine z_istore_n (lv2 := [(2, vi 0), (0, vo ad 12 (some 0)), (1, vi x1)]) C dX12_earnsMost_87 (by decide) rfl ?_
    refine z_sub [1, 2, 0] rfl ?_
    exact J88 x1 0 σ1 hx1 (by decide) eN1 h
  have J66 : ∀ (σ1 : St), σ1.2.2.2 = σ.2.2.2 → wpO (fX12_earnsMost_j66 σ1) (fun q => X q.1 q.2) → Z κ (0, 0) (Qm κ ad σ enI okI X) 66 [] [] ad σ1 := by
    intro σ1 eN1 h
    unfold fX12_earnsMost_j66 at h
    refine z_rng (fun hI65 hJ66 => ?_)
    refine z_bipush C dX12_earnsMost_66 (by decide) ?_
    have h := wpO_some.mp h
    exact z_ireturn T C dX12_earnsMost_68 (by decide) eN1 h
  have J9 : ∀ (x1 : Int) (x2 : Int) (σ1 : St), inr x1 → inr x2 → σ1.2.2.2 = σ.2.2.2 → wpO (fX12_earnsMost_j9 x1 x2 σ1) (fun q => X q.1 q.2) → Z κ (0, 0) (Qm κ ad σ enI okI X) 9 [(0, vo ad 12 (some 0)), (1, vi x1), (2, vi x2)] [] ad σ1 := by
    intro x1 x2 σ1 hx1 hx2 eN1 h
    unfold fX12_earnsMost_j9 at h
    have step : ∀ (P9 : (Int × Int × St) → Prop) (Q9 : (St ⊕ (Int × St)) → Prop), (∀ (x1 : Int) (x2 : Int) (σ1 : St), P9 ((x1, x2, σ1)) → inr x1 → inr x2 → σ1.2.2.2 = σ.2.2.2 → Z κ (0, 0) (Qm κ ad σ enI okI X) 9 [(0, vo ad 12 (some 0)), (1, vi x1), (2, vi x2)] [] ad σ1) → (∀ (σ1 : St), Q9 (.inl σ1) → σ1.2.2.2 = σ.2.2.2 → Z κ (0, 0) (Qm κ ad σ enI okI X) 66 [] [] ad σ1) → (∀ (x1 : Int) (σ1 : St), Q9 (.inr ((x1, σ1))) → inr x1 → σ1.2.2.2 = σ.2.2.2 → Z κ (0, 0) (Qm κ ad σ enI okI X) 86 [(0, vo ad 12 (some 0)), (1, vi x1)] [] ad σ1) → ∀ (x1 : Int) (x2 : Int) (σ1 : St), inr x1 → inr x2 → σ1.2.2.2 = σ.2.2.2 → wpO (fX12_earnsMost_l9 x1 x2 σ1) (onS P9 Q9) → Z κ (0, 0) (Qm κ ad σ enI okI X) 9 [(0, vo ad 12 (some 0)), (1, vi x1), (2, vi x2)] [] ad σ1 := by
      intro P9 Q9 hP9 hE9_66 hE9_86 x1 x2 σ1 hx1 hx2 eN1 h
      unfold fX12_earnsMost_l9 at h
      have J62 : ∀ (x1 : Int) (x2 : Int) (x3 : Int) (σ1 : St), inr x1 → inr x2 → inr x3 → σ1.2.2.2 = σ.2.2.2 → wpO (fX12_earnsMost_j62 x1 x2 x3 σ1) (onS P9 Q9) → Z κ (0, 0) (Qm κ ad σ enI okI X) 62 [(0, vo ad 12 (some 0)), (1, vi x1), (2, vi x2), (3, vi x3)] [] ad σ1 := by
        intro x1 x2 x3 σ1 hx1 hx2 hx3 eN1 h
        unfold fX12_earnsMost_j62 at h
        refine z_rng (fun hI67 hJ68 => ?_)
        refine z_iload_n C 3 dX12_earnsMost_62 rfl ?_
        refine z_if_ge C 69 hx3 dX12_earnsMost_63 (by decide) (fun q69 => ?_) (fun q69 => ?_)
        · have h := (wpO_ite.mp h).1 q69
          refine z_aload_n C 0 dX12_earnsMost_69 rfl ?_
          refine z_bipush C dX12_earnsMost_70 (by decide) ?_
          refine z_iload_n C 2 dX12_earnsMost_72 rfl ?_
          obtain ⟨hk70, h⟩ := wpO_ck.mp h
          refine z_iadd C dX12_earnsMost_73 ?_
          refine z_iconst C dX12_earnsMost_74 ?_
          refine z_iload_n C 3 dX12_earnsMost_75 rfl ?_
          refine z_iconst C dX12_earnsMost_76 ?_
          refine z_cV (st := []) T C (ct_X12_edge (10 + x2) 1 x3 0 hk70 (by decide) hx3 (by decide)) lm_X12_471 lv_vX12_edge dX12_earnsMost_77 [vi (10 + x2), vi 1, vi x3, vi 0] rfl rfl rfl rfl rfl (sg_12 T) trivial (by decide) (Nat.le_of_ble_eq_true rfl) csOK_0 h (fun r71 σ73 hr72 eN74 h => ?_)
          have eN75 := eN74.trans eN1
          show Z κ (0, 0) _ 80 _ [] ad σ73
          refine z_rng (fun hI76 hJ77 => ?_)
          obtain ⟨hk78, h⟩ := wpO_ck.mp h
          refine z_iinc (lv2 := [(2, vi (x2 + 1)), (0, vo ad 12 (some 0)), (1, vi x1), (3, vi x3)]) C 2 dX12_earnsMost_80 rfl (by decide) rfl ?_
          refine z_goto C 9 dX12_earnsMost_83 (by decide) ?_
          refine z_sub [1, 2, 0] rfl ?_
          have h := wpO_some.mp h
          exact hP9 x1 (x2 + 1) σ73 h hx1 hk78 eN75
        · have h := (wpO_ite.mp h).2 q69
          refine z_sub [] rfl ?_
          have h := wpO_some.mp h
          exact hE9_66 σ1 h eN1
      have J23 : ∀ (x1 : Int) (x2 : Int) (x3 : Int) (x4 : Int) (σ1 : St), inr x1 → inr x2 → inr x3 → inr x4 → σ1.2.2.2 = σ.2.2.2 → wpO (fX12_earnsMost_j23 x1 x2 x3 x4 σ1) (onS P9 Q9) → Z κ (0, 0) (Qm κ ad σ enI okI X) 23 [(0, vo ad 12 (some 0)), (1, vi x1), (2, vi x2), (3, vi x3), (4, vi x4)] [] ad σ1 := by
        intro x1 x2 x3 x4 σ1 hx1 hx2 hx3 hx4 eN1 h
        unfold fX12_earnsMost_j23 at h
        have step : ∀ (P23 : (Int × Int × Int) → Prop) (Q23 : (Int × Int) → Prop), (∀ (x1 : Int) (x3 : Int) (x4 : Int), P23 ((x1, x3, x4)) → inr x1 → inr x3 → inr x4 → Z κ (0, 0) (Qm κ ad σ enI okI X) 23 [(0, vo ad 12 (some 0)), (1, vi x1), (2, vi x2), (3, vi x3), (4, vi x4)] [] ad σ1) → (∀ (x1 : Int) (x3 : Int), Q23 ((x1, x3)) → inr x1 → inr x3 → Z κ (0, 0) (Qm κ ad σ enI okI X) 62 [(0, vo ad 12 (some 0)), (1, vi x1), (2, vi x2), (3, vi x3)] [] ad σ1) → ∀ (x1 : Int) (x3 : Int) (x4 : Int), inr x1 → inr x3 → inr x4 → wpO (fX12_earnsMost_l23 x2 σ1 x1 x3 x4) (onS P23 Q23) → Z κ (0, 0) (Qm κ ad σ enI okI X) 23 [(0, vo ad 12 (some 0)), (1, vi x1), (2, vi x2), (3, vi x3), (4, vi x4)] [] ad σ1 := by
          intro P23 Q23 hP23 hE23_62 x1 x3 x4 hx1 hx3 hx4 h
          unfold fX12_earnsMost_l23 at h
          have J56 : ∀ (x1 : Int) (x3 : Int) (x4 : Int), inr x1 → inr x3 → inr x4 → wpO (fX12_earnsMost_j56 x1 x2 x3 x4 σ1) (onS P23 Q23) → Z κ (0, 0) (Qm κ ad σ enI okI X) 56 [(0, vo ad 12 (some 0)), (1, vi x1), (2, vi x2), (3, vi x3), (4, vi x4)] [] ad σ1 := by
            intro x1 x3 x4 hx1 hx3 hx4 h
            unfold fX12_earnsMost_j56 at h
            refine z_rng (fun hI79 hJ80 => ?_)
            obtain ⟨hk81, h⟩ := wpO_ck.mp h
            refine z_iinc (lv2 := [(4, vi (x4 + 1)), (0, vo ad 12 (some 0)), (1, vi x1), (2, vi x2), (3, vi x3)]) C 4 dX12_earnsMost_56 rfl (by decide) rfl ?_
            refine z_goto C 23 dX12_earnsMost_59 (by decide) ?_
            refine z_sub [1, 2, 3, 4, 0] rfl ?_
            have h := wpO_some.mp h
            exact hP23 x1 x3 (x4 + 1) h hx1 hx3 hk81
          refine z_rng (fun hI82 hJ83 => ?_)
          refine z_iload C 4 dX12_earnsMost_23 rfl ?_
          refine z_aload_n C 0 dX12_earnsMost_25 rfl ?_
          refine z_gIv (v := gI σ1 1378 0 0) C li_X12_460 (sg_12 T) rfl dX12_earnsMost_26 ?_
          refine z_icmp_ge C 62 hx4 (hI82 1378 0 _) dX12_earnsMost_29 (by decide) (fun q84 => ?_) (fun q84 => ?_)
          · have h := (wpO_ite.mp h).1 q84
            refine z_sub [0, 1, 2, 3] rfl ?_
            have h := wpO_some.mp h
            exact hE23_62 x1 x3 h hx1 hx3
          · have h := (wpO_ite.mp h).2 q84
            refine z_aload_n C 0 dX12_earnsMost_32 rfl ?_
            refine z_gA T C li_X12_240 (sg_12 T) dX12_earnsMost_33 ?_
            refine z_iload C 4 dX12_earnsMost_36 rfl ?_
            obtain ⟨hb85, h⟩ := wpO_ck.mp h
            refine z_iav (v := gI σ1 1391 0 x4.toNat) C ar_1391 (sg_1391 T) hx4 hb85 rfl dX12_earnsMost_38 ?_
            refine z_iload_n C 2 dX12_earnsMost_39 rfl ?_
            refine z_icmp_ne C 56 (hI82 1391 0 _) hx2 dX12_earnsMost_40 (by decide) (fun q86 => ?_) (fun q86 => ?_)
            · have h := (wpO_ite.mp h).2 q86
              exact J56 x1 x3 x4 hx1 hx3 hx4 h
            · have h := (wpO_ite.mp h).1 q86
              obtain ⟨hk87, h⟩ := wpO_ck.mp h
              refine z_iinc (lv2 := [(3, vi (x3 + (-1))), (0, vo ad 12 (some 0)), (1, vi x1), (2, vi x2), (4, vi x4)]) C 3 dX12_earnsMost_43 rfl (by decide) rfl ?_
              refine z_iload_n C 2 dX12_earnsMost_46 rfl ?_
              refine z_aload_n C 1 dX12_earnsMost_47 rfl ?_
              refine z_iload C 4 dX12_earnsMost_48 rfl ?_
              refine z_iload_n C 3 dX12_earnsMost_50 rfl ?_
              refine z_cVp (st := [vi x1]) T C (ct_X12_earns x4 x2 hx4 hx2) lm_X12_468 lv_vX12_earns dX12_earnsMost_51 [vi x4, vi x2] rfl rfl rfl rfl rfl (sg_12 T) trivial (by decide) (Nat.le_of_ble_eq_true rfl) csOK_0 h (fun r88 hr89 h => ?_)
              show Z κ (0, 0) _ 54 _ [vi r88, vi x1] ad σ1
              obtain ⟨hk90, h⟩ := wpO_ck.mp h
              refine z_iadd C dX12_earnsMost_54 ?_
              refine z_istore_n (lv2 := [(1, vi (x1 + r88)), (3, vi (x3 + (-1))), (0, vo ad 12 (some 0)), (2, vi x2), (4, vi x4)]) C dX12_earnsMost_55 (by decide) rfl ?_
              refine z_sub [2, 0, 3, 1, 4] rfl ?_
              exact J56 (x1 + r88) (x3 + (-1)) x4 hk90 hk87 hx4 h
        exact wh_ind (P := fun s : (Int × Int × Int) => inr s.1 → inr s.2.1 → inr s.2.2 → Z κ (0, 0) (Qm κ ad σ enI okI X) 23 [(0, vo ad 12 (some 0)), (1, vi s.1), (2, vi x2), (3, vi s.2.1), (4, vi s.2.2)] [] ad σ1) (fun s hs g0 g1 g2 => step _ _ (fun _ _ _ hp => hp) (fun x1 x3 hq hx1 hx3 => J62 x1 x2 x3 σ1 hx1 hx2 hx3 eN1 hq) s.1 s.2.1 s.2.2 g0 g1 g2 hs) ((x1, x3, x4)) (wpO_bnk.mp h) hx1 hx3 hx4
      refine z_rng (fun hI91 hJ92 => ?_)
      refine z_iload_n C 2 dX12_earnsMost_9 rfl ?_
      refine z_bipush C dX12_earnsMost_10 (by decide) ?_
      refine z_icmp_ge C 86 hx2 (by decide) dX12_earnsMost_12 (by decide) (fun q93 => ?_) (fun q93 => ?_)
      · have h := (wpO_ite.mp h).1 q93
        refine z_sub [0, 1] rfl ?_
        have h := wpO_some.mp h
        exact hE9_86 x1 σ1 h hx1 eN1
      · have h := (wpO_ite.mp h).2 q93
        refine z_aload_n C 0 dX12_earnsMost_15 rfl ?_
        refine z_gIv (v := gI σ1 1383 0 0) C li_X12_219 (sg_12 T) rfl dX12_earnsMost_16 ?_
        refine z_istore_n (lv2 := [(3, vi (gI σ1 1383 0 0)), (0, vo ad 12 (some 0)), (1, vi x1), (2, vi x2)]) C dX12_earnsMost_19 (by decide) rfl ?_
        refine z_iconst C dX12_earnsMost_20 ?_
        refine z_istore (lv2 := [(4, vi 0), (3, vi (gI σ1 1383 0 0)), (0, vo ad 12 (some 0)), (1, vi x1), (2, vi x2)]) C dX12_earnsMost_21 (by decide) rfl ?_
        refine z_sub [2, 3, 4, 1, 0] rfl ?_
        exact J23 x1 x2 (gI σ1 1383 0 0) 0 σ1 hx1 hx2 (hI91 1383 0 _) (by decide) eN1 h
    exact wh_ind (P := fun s : (Int × Int × St) => inr s.1 → inr s.2.1 → s.2.2.2.2.2 = σ.2.2.2 → Z κ (0, 0) (Qm κ ad σ enI okI X) 9 [(0, vo ad 12 (some 0)), (1, vi s.1), (2, vi s.2.1)] [] ad s.2.2) (fun s hs g0 g1 g2 => step _ _ (fun _ _ _ hp => hp) (fun σ1 hq eN1 => J66 σ1 eN1 hq) (fun x1 σ1 hq hx1 eN1 => J86 x1 σ1 hx1 eN1 hq) s.1 s.2.1 s.2.2 g0 g1 g2 hs) ((x1, x2, σ1)) (wpO_bnk.mp h) hx1 hx2 eN1
  show Z κ (0, 0) (Qm κ ad σ enI okI X) 0 [(0, vo ad 12 (some 0))] [] ad σ
  refine z_rng (fun hI94 hJ95 => ?_)
  refine z_aload_n C 0 dX12_earnsMost_0 rfl ?_
  refine z_iconst C dX12_earnsMost_1 ?_
  refine z_pI C lq_X12_465 (sg_12 T) (by decide) dX12_earnsMost_2 ?_
  refine z_iconst C dX12_earnsMost_5 ?_
  refine z_istore_n (lv2 := [(1, vi 0), (0, vo ad 12 (some 0))]) C dX12_earnsMost_6 (by decide) rfl ?_
  refine z_iconst C dX12_earnsMost_7 ?_
  refine z_istore_n (lv2 := [(2, vi 0), (1, vi 0), (0, vo ad 12 (some 0))]) C dX12_earnsMost_8 (by decide) rfl ?_
  refine z_sub [2, 1, 0] rfl ?_
  exact J9 0 0 (sI σ 1384 0 0 0) (by decide) (by decide) rfl h
