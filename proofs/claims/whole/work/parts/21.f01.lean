noncomputable def fX8_falseOnes_j47 (x2 : Int) (σ : St) : Option Int :=
  some x2
noncomputable def fX8_falseOnes_j41 (x0 : Nat) (x2 : Int) (x3 : Int) (σ : St) : Option ((Int × Int) ⊕ Int) :=
  ck (inr (x3 + 1)) (some (.inl ((x2, x3 + 1))))
noncomputable def fX8_falseOnes_l4 (x0 : Nat) (σ : St) (x2 : Int) (x3 : Int) : Option ((Int × Int) ⊕ Int) :=
  if gI σ 905 x0 0 ≤ x3 then (some (.inr x2)) else (ck (0 ≤ x3 ∧ x3 < 6) (lt (gP σ 904 x0 x3.toNat) (fun r10 => mop r10 (fun j12 => ck (j12 < gN σ 7) (bnk (fX1_firstLie (gI σ 805 j12 0) (gI σ 901 x0 0) (gI σ 902 x0 0) σ) (fun r15 => if r15 = (-9) then (fX8_falseOnes_j41 x0 x2 x3 σ) else (ck (inr (x2 + 1)) (fX8_falseOnes_j41 x0 (x2 + 1) x3 σ))))) none)))
noncomputable def fX8_falseOnes_j4 (x0 : Nat) (x2 : Int) (x3 : Int) (σ : St) : Option Int :=
  bnk (wh (fun s => fX8_falseOnes_l4 x0 σ s.1 s.2) ((x2, x3))) (fun e => fX8_falseOnes_j47 e σ)
noncomputable def fX8_falseOnes (x0 : Nat) (σ : St) : Option Int :=
  fX8_falseOnes_j4 x0 0 0 σ
set_option maxRecDepth 20000 in
set_option maxHeartbeats 4000000 in
theorem ct_X8_falseOnes (x0 : Nat) : Ct yX8_falseOnes cX8_falseOnes 4 (some .int) 3 (fun ad => [vo ad 8 (some x0), vo ad 1 (some 0)]) (pu (fX8_falseOnes x0)) enI okI (fun σ => x0 < gN σ 8) := by
  refine Ct.of (by decide) (fun ad => Nat.le_of_ble_eq_true rfl) ?_
  intro κ ad σ X C T hpre h
  have C : Cx κ RX8 cX8_falseOnes 4 (some .int) 3 := C
  have h := wpO_pu.mp h
  have hx0 : x0 < gN σ 8 := hpre
  unfold fX8_falseOnes at h
  have J47 : ∀ (x2 : Int), inr x2 → wpO (fX8_falseOnes_j47 x2 σ) (fun r => X r σ) → Z κ (0, 0) (Qm κ ad σ enI okI X) 47 [(2, vi x2)] [] ad σ := by
    intro x2 hx2 h
    unfold fX8_falseOnes_j47 at h
    refine z_rng (fun hI1 hJ2 => ?_)
    refine z_iload_n C 0 dX8_falseOnes_47 rfl ?_
    have h := wpO_some.mp h
    exact z_ireturn T C dX8_falseOnes_48 hx2 rfl h
  have J4 : ∀ (x0 : Nat) (x2 : Int) (x3 : Int), x0 < gN σ 8 → inr x2 → inr x3 → wpO (fX8_falseOnes_j4 x0 x2 x3 σ) (fun r => X r σ) → Z κ (0, 0) (Qm κ ad σ enI okI X) 4 [(0, vo ad 8 (some x0)), (1, vo ad 1 (some 0)), (2, vi x2), (3, vi x3)] [] ad σ := by
    intro x0 x2 x3 hx0 hx2 hx3 h
    unfold fX8_falseOnes_j4 at h
    have step : ∀ (P4 : (Int × Int) → Prop) (Q4 : Int → Prop), (∀ (x2 : Int) (x3 : Int), P4 ((x2, x3)) → inr x2 → inr x3 → Z κ (0, 0) (Qm κ ad σ enI okI X) 4 [(0, vo ad 8 (some x0)), (1, vo ad 1 (some 0)), (2, vi x2), (3, vi x3)] [] ad σ) → (∀ (x2 : Int), Q4 (x2) → inr x2 → Z κ (0, 0) (Qm κ ad σ enI okI X) 47 [(2, vi x2)] [] ad σ) → ∀ (x2 : Int) (x3 : Int), inr x2 → inr x3 → wpO (fX8_falseOnes_l4 x0 σ x2 x3) (onS P4 Q4) → Z κ (0, 0) (Qm κ ad σ enI okI X) 4 [(0, vo ad 8 (some x0)), (1, vo ad 1 (some 0)), (2, vi x2), (3, vi x3)] [] ad σ := by
      intro P4 Q4 hP4 hE4_47 x2 x3 hx2 hx3 h
      unfold fX8_falseOnes_l4 at h
      have J41 : ∀ (x2 : Int) (x3 : Int), inr x2 → inr x3 → wpO (fX8_falseOnes_j41 x0 x2 x3 σ) (onS P4 Q4) → Z κ (0, 0) (Qm κ ad σ enI okI X) 41 [(0, vo ad 8 (some x0)), (1, vo ad 1 (some 0)), (2, vi x2), (3, vi x3)] [] ad σ := by
        intro x2 x3 hx2 hx3 h
        unfold fX8_falseOnes_j41 at h
        refine z_rng (fun hI3 hJ4 => ?_)
        obtain ⟨hk5, h⟩ := wpO_ck.mp h
        refine z_iinc (lv2 := [(3, vi (x3 + 1)), (0, vo ad 8 (some x0)), (1, vo ad 1 (some 0)), (2, vi x2)]) C 3 dX8_falseOnes_41 rfl (by decide) rfl ?_
        refine z_goto C 4 dX8_falseOnes_44 (by decide) ?_
        refine z_sub [1, 2, 3, 0] rfl ?_
        have h := wpO_some.mp h
        exact hP4 x2 (x3 + 1) h hx2 hk5
      refine z_rng (fun hI6 hJ7 => ?_)
      refine z_iload_n C 3 dX8_falseOnes_4 rfl ?_
      refine z_aload_n C 0 dX8_falseOnes_5 rfl ?_
      refine z_gIv (v := gI σ 905 x0 0) C li_X8_30 (nN rfl hx0) rfl dX8_falseOnes_6 ?_
      refine z_icmp_ge C 47 hx3 (hI6 905 x0 _) dX8_falseOnes_9 (by decide) (fun q8 => ?_) (fun q8 => ?_)
      · have h := (wpO_ite.mp h).1 q8
        refine z_sub [2] rfl ?_
        have h := wpO_some.mp h
        exact hE4_47 x2 h hx2
      · have h := (wpO_ite.mp h).2 q8
        refine z_aload_n C 1 dX8_falseOnes_12 rfl ?_
        refine z_aload_n C 0 dX8_falseOnes_13 rfl ?_
        refine z_gA T C li_X8_11 (nN rfl hx0) dX8_falseOnes_14 ?_
        refine z_iload_n C 3 dX8_falseOnes_17 rfl ?_
        obtain ⟨hb9, h⟩ := wpO_ck.mp h
        refine z_aald (K := 7) (t0 := 4) C ar_904 (fun _ => rfl) (nN9 T rfl hx0) hx3 hb9 dX8_falseOnes_18 (fun r10 hr11 => ?_)
        have h := lt_elim h r10 hr11
        obtain ⟨j12, hr13, h⟩ := mop_none h
        subst hr13
        obtain ⟨hj14, h⟩ := wpO_ck.mp h
        refine z_gIv (v := gI σ 805 j12 0) C li_X8_48 (nN rfl (toN rfl hj14)) rfl dX8_falseOnes_19 ?_
        refine z_aload_n C 0 dX8_falseOnes_22 rfl ?_
        refine z_gIv (v := gI σ 901 x0 0) C li_X8_21 (nN rfl hx0) rfl dX8_falseOnes_23 ?_
        refine z_aload_n C 0 dX8_falseOnes_26 rfl ?_
        refine z_gIv (v := gI σ 902 x0 0) C li_X8_24 (nN rfl hx0) rfl dX8_falseOnes_27 ?_
        refine z_cVp (st := []) T C (ct_X1_firstLie (gI σ 805 j12 0) (gI σ 901 x0 0) (gI σ 902 x0 0) (hI6 805 j12 _) (hI6 901 x0 _) (hI6 902 x0 _)) lm_X8_51 lv_vX1_firstLie dX8_falseOnes_30 [vi (gI σ 805 j12 0), vi (gI σ 901 x0 0), vi (gI σ 902 x0 0)] rfl rfl rfl rfl rfl (sg_1 T) trivial (by decide) (Nat.le_of_ble_eq_true rfl) csOK_0 h (fun r15 hr16 h => ?_)
        show Z κ (0, 0) _ 33 _ [vi r15] ad σ
        refine z_bipush C dX8_falseOnes_33 (by decide) ?_
        refine z_icmp_eq C 41 hr16 (by decide) dX8_falseOnes_35 (by decide) (fun q17 => ?_) (fun q17 => ?_)
        · have h := (wpO_ite.mp h).1 q17
          exact J41 x2 x3 hx2 hx3 h
        · have h := (wpO_ite.mp h).2 q17
          obtain ⟨hk18, h⟩ := wpO_ck.mp h
          refine z_iinc (lv2 := [(2, vi (x2 + 1)), (0, vo ad 8 (some x0)), (1, vo ad 1 (some 0)), (3, vi x3)]) C 2 dX8_falseOnes_38 rfl (by decide) rfl ?_
          refine z_sub [1, 2, 0, 3] rfl ?_
          exact J41 (x2 + 1) x3 hk18 hx3 h
    exact wh_ind (P := fun s : (Int × Int) => inr s.1 → inr s.2 → Z κ (0, 0) (Qm κ ad σ enI okI X) 4 [(0, vo ad 8 (some x0)), (1, vo ad 1 (some 0)), (2, vi s.1), (3, vi s.2)] [] ad σ) (fun s hs g0 g1 => step _ _ (fun _ _ hp => hp) (fun x2 hq hx2 => J47 x2 hx2 hq) s.1 s.2 g0 g1 hs) ((x2, x3)) (wpO_bnk.mp h) hx2 hx3
  show Z κ (0, 0) (Qm κ ad σ enI okI X) 0 [(0, vo ad 8 (some x0)), (1, vo ad 1 (some 0))] [] ad σ
  refine z_rng (fun hI19 hJ20 => ?_)
  refine z_iconst C dX8_falseOnes_0 ?_
  refine z_istore_n (lv2 := [(2, vi 0), (0, vo ad 8 (some x0)), (1, vo ad 1 (some 0))]) C dX8_falseOnes_1 (by decide) rfl ?_
  refine z_iconst C dX8_falseOnes_2 ?_
  refine z_istore_n (lv2 := [(3, vi 0), (2, vi 0), (0, vo ad 8 (some x0)), (1, vo ad 1 (some 0))]) C dX8_falseOnes_3 (by decide) rfl ?_
  refine z_sub [2, 3, 1, 0] rfl ?_
  exact J4 x0 0 0 hx0 (by decide) (by decide) h
noncomputable def fX8_allFeet_j30 (x1 : Int) (σ : St) : Option Int :=
  some x1
noncomputable def fX8_allFeet_l4 (x0 : Nat) (σ : St) (x1 : Int) (x2 : Int) : Option ((Int × Int) ⊕ Int) :=
  if gI σ 905 x0 0 ≤ x2 then (some (.inr x1)) else (ck (0 ≤ x2 ∧ x2 < 6) (lt (gP σ 904 x0 x2.toNat) (fun r7 => mop r7 (fun j9 => ck (j9 < gN σ 7) (ck (inr (x1 + (gI σ 803 j9 0))) (ck (inr (x2 + 1)) (some (.inl ((x1 + (gI σ 803 j9 0), x2 + 1))))))) none)))
noncomputable def fX8_allFeet_j4 (x0 : Nat) (x1 : Int) (x2 : Int) (σ : St) : Option Int :=
  bnk (wh (fun s => fX8_allFeet_l4 x0 σ s.1 s.2) ((x1, x2))) (fun e => fX8_allFeet_j30 e σ)
noncomputable def fX8_allFeet (x0 : Nat) (σ : St) : Option Int :=
  fX8_allFeet_j4 x0 0 0 σ
set_option maxRecDepth 20000 in
set_option maxHeartbeats 4000000 in
theorem ct_X8_allFeet (x0 : Nat) : Ct yX8_allFeet cX8_allFeet 3 (some .int) 0 (fun ad => [vo ad 8 (some x0)]) (pu (fX8_allFeet x0)) enI okI (fun σ => x0 < gN σ 8) := by
  refine Ct.of (by decide) (fun ad => Nat.le_of_ble_eq_true rfl) ?_
  intro κ ad σ X C T hpre h
  have C : Cx κ RX8 cX8_allFeet 3 (some .int) 0 := C
  have h := wpO_pu.mp h
  have hx0 : x0 < gN σ 8 := hpre
  unfold fX8_allFeet at h
  have J30 : ∀ (x1 : Int), inr x1 → wpO (fX8_allFeet_j30 x1 σ) (fun r => X r σ) → Z κ (0, 0) (Qm κ ad σ enI okI X) 30 [(1, vi x1)] [] ad σ := by
    intro x1 hx1 h
    unfold fX8_allFeet_j30 at h
    refine z_rng (fun hI1 hJ2 => ?_)
    refine z_iload_n C 0 dX8_allFeet_30 rfl ?_
    have h := wpO_some.mp h
    exact z_ireturn T C dX8_allFeet_31 hx1 rfl h
  have J4 : ∀ (x0 : Nat) (x1 : Int) (x2 : Int), x0 < gN σ 8 → inr x1 → inr x2 → wpO (fX8_allFeet_j4 x0 x1 x2 σ) (fun r => X r σ) → Z κ (0, 0) (Qm κ ad σ enI okI X) 4 [(0, vo ad 8 (some x0)), (1, vi x1), (2, vi x2)] [] ad σ := by
    intro x0 x1 x2 hx0 hx1 hx2 h
    unfold fX8_allFeet_j4 at h
    have step : ∀ (P4 : (Int × Int) → Prop) (Q4 : Int → Prop), (∀ (x1 : Int) (x2 : Int), P4 ((x1, x2)) → inr x1 → inr x2 → Z κ (0, 0) (Qm κ ad σ enI okI X) 4 [(0, vo ad 8 (some x0)), (1, vi x1), (2, vi x2)] [] ad σ) → (∀ (x1 : Int), Q4 (x1) → inr x1 → Z κ (0, 0) (Qm κ ad σ enI okI X) 30 [(1, vi x1)] [] ad σ) → ∀ (x1 : Int) (x2 : Int), inr x1 → inr x2 → wpO (fX8_allFeet_l4 x0 σ x1 x2) (onS P4 Q4) → Z κ (0, 0) (Qm κ ad σ enI okI X) 4 [(0, vo ad 8 (some x0)), (1, vi x1), (2, vi x2)] [] ad σ := by
      intro P4 Q4 hP4 hE4_30 x1 x2 hx1 hx2 h
      unfold fX8_allFeet_l4 at h
      refine z_rng (fun hI3 hJ4 => ?_)
      refine z_iload_n C 2 dX8_allFeet_4 rfl ?_
      refine z_aload_n C 0 dX8_allFeet_5 rfl ?_
      refine z_gIv (v := gI σ 905 x0 0) C li_X8_30 (nN rfl hx0) rfl dX8_allFeet_6 ?_
      refine z_icmp_ge C 30 hx2 (hI3 905 x0 _) dX8_allFeet_9 (by decide) (fun q5 => ?_) (fun q5 => ?_)
      · have h := (wpO_ite.mp h).1 q5
        refine z_sub [1] rfl ?_
        have h := wpO_some.mp h
        exact hE4_30 x1 h hx1
      · have h := (wpO_ite.mp h).2 q5
        refine z_iload_n C 1 dX8_allFeet_12 rfl ?_
        refine z_aload_n C 0 dX8_allFeet_13 rfl ?_
        refine z_gA T C li_X8_11 (nN rfl hx0) dX8_allFeet_14 ?_
        refine z_iload_n C 2 dX8_allFeet_17 rfl ?_
        obtain ⟨hb6, h⟩ := wpO_ck.mp h
        refine z_aald (K := 7) (t0 := 4) C ar_904 (fun _ => rfl) (nN9 T rfl hx0) hx2 hb6 dX8_allFeet_18 (fun r7 hr8 => ?_)
        have h := lt_elim h r7 hr8
        obtain ⟨j9, hr10, h⟩ := mop_none h
        subst hr10
        obtain ⟨hj11, h⟩ := wpO_ck.mp h
        refine z_gIv (v := gI σ 803 j9 0) C li_X8_40 (nN rfl (toN rfl hj11)) rfl dX8_allFeet_19 ?_
        obtain ⟨hk12, h⟩ := wpO_ck.mp h
        refine z_iadd C dX8_allFeet_22 ?_
        refine z_istore_n (lv2 := [(1, vi (x1 + (gI σ 803 j9 0))), (0, vo ad 8 (some x0)), (2, vi x2)]) C dX8_allFeet_23 (by decide) rfl ?_
        obtain ⟨hk13, h⟩ := wpO_ck.mp h
        refine z_iinc (lv2 := [(2, vi (x2 + 1)), (1, vi (x1 + (gI σ 803 j9 0))), (0, vo ad 8 (some x0))]) C 2 dX8_allFeet_24 rfl (by decide) rfl ?_
        refine z_goto C 4 dX8_allFeet_27 (by decide) ?_
        refine z_sub [2, 1, 0] rfl ?_
        have h := wpO_some.mp h
        exact hP4 (x1 + (gI σ 803 j9 0)) (x2 + 1) h hk12 hk13
    exact wh_ind (P := fun s : (Int × Int) => inr s.1 → inr s.2 → Z κ (0, 0) (Qm κ ad σ enI okI X) 4 [(0, vo ad 8 (some x0)), (1, vi s.1), (2, vi s.2)] [] ad σ) (fun s hs g0 g1 => step _ _ (fun _ _ hp => hp) (fun x1 hq hx1 => J30 x1 hx1 hq) s.1 s.2 g0 g1 hs) ((x1, x2)) (wpO_bnk.mp h) hx1 hx2
  show Z κ (0, 0) (Qm κ ad σ enI okI X) 0 [(0, vo ad 8 (some x0))] [] ad σ
  refine z_rng (fun hI14 hJ15 => ?_)
  refine z_iconst C dX8_allFeet_0 ?_
  refine z_istore_n (lv2 := [(1, vi 0), (0, vo ad 8 (some x0))]) C dX8_allFeet_1 (by decide) rfl ?_
  refine z_iconst C dX8_allFeet_2 ?_
  refine z_istore_n (lv2 := [(2, vi 0), (1, vi 0), (0, vo ad 8 (some x0))]) C dX8_allFeet_3 (by decide) rfl ?_
  refine z_sub [2, 1, 0] rfl ?_
  exact J4 x0 0 0 hx0 (by decide) (by decide) h
noncomputable def fX8_lentOnes_j34 (x1 : Int) (σ : St) : Option Int :=
  some x1
noncomputable def fX8_lentOnes_j28 (x0 : Nat) (x1 : Int) (x2 : Int) (σ : St) : Option ((Int × Int) ⊕ Int) :=
  ck (inr (x2 + 1)) (some (.inl ((x1, x2 + 1))))
noncomputable def fX8_lentOnes_l4 (x0 : Nat) (σ : St) (x1 : Int) (x2 : Int) : Option ((Int × Int) ⊕ Int) :=
  if gI σ 905 x0 0 ≤ x2 then (some (.inr x1)) else (ck (0 ≤ x2 ∧ x2 < 6) (lt (gP σ 904 x0 x2.toNat) (fun r10 => mop r10 (fun j12 => ck (j12 < gN σ 7) (if gI σ 806 j12 0 = 2 then (ck (inr (x1 + 1)) (fX8_lentOnes_j28 x0 (x1 + 1) x2 σ)) else (fX8_lentOnes_j28 x0 x1 x2 σ))) none)))
noncomputable def fX8_lentOnes_j4 (x0 : Nat) (x1 : Int) (x2 : Int) (σ : St) : Option Int :=
  bnk (wh (fun s => fX8_lentOnes_l4 x0 σ s.1 s.2) ((x1, x2))) (fun e => fX8_lentOnes_j34 e σ)
noncomputable def fX8_lentOnes (x0 : Nat) (σ : St) : Option Int :=
  fX8_lentOnes_j4 x0 0 0 σ
set_option maxRecDepth 20000 in
set_option maxHeartbeats 4000000 in
theorem ct_X8_lentOnes (x0 : Nat) : Ct yX8_lentOnes cX8_lentOnes 3 (some .int) 0 (fun ad => [vo ad 8 (some x0)]) (pu (fX8_lentOnes x0)) enI okI (fun σ => x0 < gN σ 8) := by
  refine Ct.of (by decide) (fun ad => Nat.le_of_ble_eq_true rfl) ?_
  intro κ ad σ X C T hpre h
  have C : Cx κ RX8 cX8_lentOnes 3 (some .int) 0 := C
  have h := wpO_pu.mp h
  have hx0 : x0 < gN σ 8 := hpre
  unfold fX8_lentOnes at h
  have J34 : ∀ (x1 : Int), inr x1 → wpO (fX8_lentOnes_j34 x1 σ) (fun r => X r σ) → Z κ (0, 0) (Qm κ ad σ enI okI X) 34 [(1, vi x1)] [] ad σ := by
    intro x1 hx1 h
    unfold fX8_lentOnes_j34 at h
    refine z_rng (fun hI1 hJ2 => ?_)
    refine z_iload_n C 0 dX8_lentOnes_34 rfl ?_
    have h := wpO_some.mp h
    exact z_ireturn T C dX8_lentOnes_35 hx1 rfl h
  have J4 : ∀ (x0 : Nat) (x1 : Int) (x2 : Int), x0 < gN σ 8 → inr x1 → inr x2 → wpO (fX8_lentOnes_j4 x0 x1 x2 σ) (fun r => X r σ) → Z κ (0, 0) (Qm κ ad σ enI okI X) 4 [(0, vo ad 8 (some x0)), (1, vi x1), (2, vi x2)] [] ad σ := by
    intro x0 x1 x2 hx0 hx1 hx2 h
    unfold fX8_lentOnes_j4 at h
    have step : ∀ (P4 : (Int × Int) → Prop) (Q4 : Int → Prop), (∀ (x1 : Int) (x2 : Int), P4 ((x1, x2)) → inr x1 → inr x2 → Z κ (0, 0) (Qm κ ad σ enI okI X) 4 [(0, vo ad 8 (some x0)), (1, vi x1), (2, vi x2)] [] ad σ) → (∀ (x1 : Int), Q4 (x1) → inr x1 → Z κ (0, 0) (Qm κ ad σ enI okI X) 34 [(1, vi x1)] [] ad σ) → ∀ (x1 : Int) (x2 : Int), inr x1 → inr x2 → wpO (fX8_lentOnes_l4 x0 σ x1 x2) (onS P4 Q4) → Z κ (0, 0) (Qm κ ad σ enI okI X) 4 [(0, vo ad 8 (some x0)), (1, vi x1), (2, vi x2)] [] ad σ := by
      intro P4 Q4 hP4 hE4_34 x1 x2 hx1 hx2 h
      unfold fX8_lentOnes_l4 at h
      have J28 : ∀ (x1 : Int) (x2 : Int), inr x1 → inr x2 → wpO (fX8_lentOnes_j28 x0 x1 x2 σ) (onS P4 Q4) → Z κ (0, 0) (Qm κ ad σ enI okI X) 28 [(0, vo ad 8 (some x0)), (1, vi x1), (2, vi x2)] [] ad σ := by
        intro x1 x2 hx1 hx2 h
        unfold fX8_lentOnes_j28 at h
        refine z_rng (fun hI3 hJ4 => ?_)
        obtain ⟨hk5, h⟩ := wpO_ck.mp h
        refine z_iinc (lv2 := [(2, vi (x2 + 1)), (0, vo ad 8 (some x0)), (1, vi x1)]) C 2 dX8_lentOnes_28 rfl (by decide) rfl ?_
        refine z_goto C 4 dX8_lentOnes_31 (by decide) ?_
        refine z_sub [1, 2, 0] rfl ?_
        have h := wpO_some.mp h
        exact hP4 x1 (x2 + 1) h hx1 hk5
      refine z_rng (fun hI6 hJ7 => ?_)
      refine z_iload_n C 2 dX8_lentOnes_4 rfl ?_
      refine z_aload_n C 0 dX8_lentOnes_5 rfl ?_
      refine z_gIv (v := gI σ 905 x0 0) C li_X8_30 (nN rfl hx0) rfl dX8_lentOnes_6 ?_
      refine z_icmp_ge C 34 hx2 (hI6 905 x0 _) dX8_lentOnes_9 (by decide) (fun q8 => ?_) (fun q8 => ?_)
      · have h := (wpO_ite.mp h).1 q8
        refine z_sub [1] rfl ?_
        have h := wpO_some.mp h
        exact hE4_34 x1 h hx1
      · have h := (wpO_ite.mp h).2 q8
        refine z_aload_n C 0 dX8_lentOnes_12 rfl ?_
        refine z_gA T C li_X8_11 (nN rfl hx0) dX8_lentOnes_13 ?_
        refine z_iload_n C 2 dX8_lentOnes_16 rfl ?_
        obtain ⟨hb9, h⟩ := wpO_ck.mp h
        refine z_aald (K := 7) (t0 := 4) C ar_904 (fun _ => rfl) (nN9 T rfl hx0) hx2 hb9 dX8_lentOnes_17 (fun r10 hr11 => ?_)
        have h := lt_elim h r10 hr11
        obtain ⟨j12, hr13, h⟩ := mop_none h
        subst hr13
        obtain ⟨hj14, h⟩ := wpO_ck.mp h
        refine z_gIv (v := gI σ 806 j12 0) C li_X8_57 (nN rfl (toN rfl hj14)) rfl dX8_lentOnes_18 ?_
        refine z_iconst C dX8_lentOnes_21 ?_
        refine z_icmp_ne C 28 (hI6 806 j12 _) (by decide) dX8_lentOnes_22 (by decide) (fun q15 => ?_) (fun q15 => ?_)
        · have h := (wpO_ite.mp h).2 q15
          exact J28 x1 x2 hx1 hx2 h
        · have h := (wpO_ite.mp h).1 q15
          obtain ⟨hk16, h⟩ := wpO_ck.mp h
          refine z_iinc (lv2 := [(1, vi (x1 + 1)), (0, vo ad 8 (some x0)), (2, vi x2)]) C 1 dX8_lentOnes_25 rfl (by decide) rfl ?_
          refine z_sub [1, 0, 2] rfl ?_
          exact J28 (x1 + 1) x2 hk16 hx2 h
    exact wh_ind (P := fun s : (Int × Int) => inr s.1 → inr s.2 → Z κ (0, 0) (Qm κ ad σ enI okI X) 4 [(0, vo ad 8 (some x0)), (1, vi s.1), (2, vi s.2)] [] ad σ) (fun s hs g0 g1 => step _ _ (fun _ _ hp => hp) (fun x1 hq hx1 => J34 x1 hx1 hq) s.1 s.2 g0 g1 hs) ((x1, x2)) (wpO_bnk.mp h) hx1 hx2
  show Z κ (0, 0) (Qm κ ad σ enI okI X) 0 [(0, vo ad 8 (some x0))] [] ad σ
  refine z_rng (fun hI17 hJ18 => ?_)
  refine z_iconst C dX8_lentOnes_0 ?_
  refine z_istore_n (lv2 := [(1, vi 0), (0, vo ad 8 (some x0))]) C dX8_lentOnes_1 (by decide) rfl ?_
  refine z_iconst C dX8_lentOnes_2 ?_
  refine z_istore_n (lv2 := [(2, vi 0), (1, vi 0), (0, vo ad 8 (some x0))]) C dX8_lentOnes_3 (by decide) rfl ?_
  refine z_sub [2, 1, 0] rfl ?_
  exact J4 x0 0 0 hx0 (by decide) (by decide) h
noncomputable def fX3_look_j61 (x1 : Nat) (x4 : Int) (s1 : Int) (s2 : Int) (σ1 : St) : Option (Unit × St) :=
  ck (0 ≤ s1 ∧ s1 < 8) (bnk (fX8_lentOnes x1 (sI (sI σ1 400 0 s1.toNat s2) 400 0 6 x4)) (fun r4 => some ((), sI (sI (sI σ1 400 0 s1.toNat s2) 400 0 6 x4) 400 0 7 r4)))
noncomputable def fX3_look (x1 : Nat) (x2 : Int) (x3 : Int) (x4 : Int) (σ : St) : Option (Unit × St) :=
  bnk (fX8_allFeet x1 (sI (sI (sI σ 400 0 0 (gI σ 900 x1 0)) 400 0 1 (gI σ 901 x1 0)) 400 0 2 x2)) (fun r8 => if gI σ 906 x1 0 = 0 then (fX3_look_j61 x1 x4 5 x3 (sI (sI (sI (sI (sI σ 400 0 0 (gI σ 900 x1 0)) 400 0 1 (gI σ 901 x1 0)) 400 0 2 x2) 400 0 3 r8) 400 0 4 x3)) else (fX3_look_j61 x1 x4 5 0 (sI (sI (sI (sI (sI σ 400 0 0 (gI σ 900 x1 0)) 400 0 1 (gI σ 901 x1 0)) 400 0 2 x2) 400 0 3 r8) 400 0 4 x3)))
set_option maxRecDepth 20000 in
set_option maxHeartbeats 4000000 in
theorem ct_X3_look (x1 : Nat) (x2 : Int) (x3 : Int) (x4 : Int) (hx2 : inr x2) (hx3 : inr x3) (hx4 : inr x4) : Ct yX3_look cX3_look 5 none 1 (fun ad => [vo ad 3 (some 0), vo ad 8 (some x1), vi x2, vi x3, vi x4]) (fX3_look x1 x2 x3 x4) enV okV (fun σ => x1 < gN σ 8) := by
  refine Ct.of (by decide) (fun ad => Nat.le_of_ble_eq_true rfl) ?_
  intro κ ad σ X C T hpre h
  have C : Cx κ RX3 cX3_look 5 none 1 := C
  have hx1 : x1 < gN σ 8 := hpre
  unfold fX3_look at h
  have J61 : ∀ (x1 : Nat) (x4 : Int) (s1 : Int) (s2 : Int) (σ1 : St), x1 < gN σ 8 → inr x4 → inr s1 → inr s2 → σ1.2.2.2 = σ.2.2.2 → wpO (fX3_look_j61 x1 x4 s1 s2 σ1) (fun q => X q.1 q.2) → Z κ (0, 0) (Qm κ ad σ enV okV X) 61 [(0, vo ad 3 (some 0)), (1, vo ad 8 (some x1)), (4, vi x4)] [vi s2, vi s1, vo ad 400 (some 0)] ad σ1 := by
    intro x1 x4 s1 s2 σ1 hx1 hx4 hs1 hs2 eN1 h
    unfold fX3_look_j61 at h
    refine z_rng (fun hI1 hJ2 => ?_)
    obtain ⟨hb3, h⟩ := wpO_ck.mp h
    refine z_iastore C ar_400 (sg_400 T) hs1 hb3 hs2 dX3_look_61 ?_
    refine z_aload_n C 0 dX3_look_62 rfl ?_
    refine z_gA T C li_X3_9 (sg_3 T) dX3_look_63 ?_
    refine z_bipush C dX3_look_66 (by decide) ?_
    refine z_iload C 2 dX3_look_68 rfl ?_
    refine z_iastore C ar_400 (sg_400 T) (by decide) (by decide) hx4 dX3_look_70 ?_
    refine z_aload_n C 0 dX3_look_71 rfl ?_
    refine z_gA T C li_X3_9 (sg_3 T) dX3_look_72 ?_
    refine z_bipush C dX3_look_75 (by decide) ?_
    refine z_aload_n C 1 dX3_look_77 rfl ?_
    refine z_cVp (st := [vi 7, vo ad 400 (some 0)]) T C (ct_X8_lentOnes x1) lm_X3_42 lv_vX8_lentOnes dX3_look_78 [] rfl rfl rfl rfl rfl (nN eN1 hx1) (nNl eN1 hx1) (by decide) (Nat.le_of_ble_eq_true rfl) csOK_0 h (fun r4 hr5 h => ?_)
    show Z κ (0, 0) _ 81 _ [vi r4, vi 7, vo ad 400 (some 0)] ad (sI (sI σ1 400 0 s1.toNat s2) 400 0 6 x4)
    refine z_iastore C ar_400 (sg_400 T) (by decide) (by decide) hr5 dX3_look_81 ?_
    have h := wpO_some.mp h
    exact z_return T C dX3_look_82 eN1 h
  show Z κ (0, 0) (Qm κ ad σ enV okV X) 0 [(0, vo ad 3 (some 0)), (1, vo ad 8 (some x1)), (2, vi x2), (3, vi x3), (4, vi x4)] [] ad σ
  refine z_rng (fun hI6 hJ7 => ?_)
  refine z_aload_n C 0 dX3_look_0 rfl ?_
  refine z_gA T C li_X3_9 (sg_3 T) dX3_look_1 ?_
  refine z_iconst C dX3_look_4 ?_
  refine z_aload_n C 1 dX3_look_5 rfl ?_
  refine z_gIv (v := gI σ 900 x1 0) C li_X3_25 (nN rfl hx1) rfl dX3_look_6 ?_
  refine z_iastore C ar_400 (sg_400 T) (by decide) (by decide) (hI6 900 x1 _) dX3_look_9 ?_
  refine z_aload_n C 0 dX3_look_10 rfl ?_
  refine z_gA T C li_X3_9 (sg_3 T) dX3_look_11 ?_
  refine z_iconst C dX3_look_14 ?_
  refine z_aload_n C 1 dX3_look_15 rfl ?_
  refine z_gIv (v := gI σ 901 x1 0) C li_X3_31 (nN rfl hx1) (gn (by decide) rfl) dX3_look_16 ?_
  refine z_iastore C ar_400 (sg_400 T) (by decide) (by decide) (hI6 901 x1 _) dX3_look_19 ?_
  refine z_aload_n C 0 dX3_look_20 rfl ?_
  refine z_gA T C li_X3_9 (sg_3 T) dX3_look_21 ?_
  refine z_iconst C dX3_look_24 ?_
  refine z_iload_n C 2 dX3_look_25 rfl ?_
  refine z_iastore C ar_400 (sg_400 T) (by decide) (by decide) hx2 dX3_look_26 ?_
  refine z_aload_n C 0 dX3_look_27 rfl ?_
  refine z_gA T C li_X3_9 (sg_3 T) dX3_look_28 ?_
  refine z_iconst C dX3_look_31 ?_
  refine z_aload_n C 1 dX3_look_32 rfl ?_
  refine z_cVp (st := [vi 3, vo ad 400 (some 0)]) T C (ct_X8_allFeet x1) lm_X3_34 lv_vX8_allFeet dX3_look_33 [] rfl rfl rfl rfl rfl (nN rfl hx1) (nNl rfl hx1) (by decide) (Nat.le_of_ble_eq_true rfl) csOK_0 h (fun r8 hr9 h => ?_)
  show Z κ (0, 0) _ 36 _ [vi r8, vi 3, vo ad 400 (some 0)] ad (sI (sI (sI σ 400 0 0 (gI σ 900 x1 0)) 400 0 1 (gI σ 901 x1 0)) 400 0 2 x2)
  refine z_iastore C ar_400 (sg_400 T) (by decide) (by decide) hr9 dX3_look_36 ?_
  refine z_aload_n C 0 dX3_look_37 rfl ?_
  refine z_gA T C li_X3_9 (sg_3 T) dX3_look_38 ?_
  refine z_iconst C dX3_look_41 ?_
  refine z_iload_n C 3 dX3_look_42 rfl ?_
  refine z_iastore C ar_400 (sg_400 T) (by decide) (by decide) hx3 dX3_look_43 ?_
  refine z_aload_n C 0 dX3_look_44 rfl ?_
  refine z_gA T C li_X3_9 (sg_3 T) dX3_look_45 ?_
  refine z_iconst C dX3_look_48 ?_
  refine z_aload_n C 1 dX3_look_49 rfl ?_
  refine z_gIv (v := gI σ 906 x1 0) C li_X3_38 (nN rfl hx1) (gn (by decide) (gn (by decide) (gn (by decide) (gn (by decide) (gn (by decide) rfl))))) dX3_look_50 ?_
  refine z_if_eq C 60 (hI6 906 x1 _) dX3_look_53 (by decide) (fun q10 => ?_) (fun q10 => ?_)
  · have h := (wpO_ite.mp h).1 q10
    refine z_iload_n C 3 dX3_look_60 rfl ?_
    refine z_sub [0, 1, 4] rfl ?_
    exact J61 x1 x4 5 x3 (sI (sI (sI (sI (sI σ 400 0 0 (gI σ 900 x1 0)) 400 0 1 (gI σ 901 x1 0)) 400 0 2 x2) 400 0 3 r8) 400 0 4 x3) hx1 hx4 (by decide) hx3 rfl h
  · have h := (wpO_ite.mp h).2 q10
    refine z_iconst C dX3_look_56 ?_
    refine z_goto C 61 dX3_look_57 (by decide) ?_
    refine z_sub [0, 1, 4] rfl ?_
    exact J61 x1 x4 5 0 (sI (sI (sI (sI (sI σ 400 0 0 (gI σ 900 x1 0)) 400 0 1 (gI σ 901 x1 0)) 400 0 2 x2) 400 0 3 r8) 400 0 4 x3) hx1 hx4 (by decide) (by decide) rfl h
noncomputable def fX6_isInForce (x0 : Nat) (x1 : Int) (σ : St) : Option Int :=
  if x1 < gI σ 700 x0 0 then (some 0) else (if gI σ 701 x0 0 ≤ x1 then (some 0) else (some 1))
set_option maxRecDepth 20000 in
set_option maxHeartbeats 4000000 in
theorem ct_X6_isInForce (x0 : Nat) (x1 : Int) (hx1 : inr x1) : Ct yX6_isInForce cX6_isInForce 2 (some .boolean) 0 (fun ad => [vo ad 6 (some x0), vi x1]) (pu (fX6_isInForce x0 x1)) enI okB (fun σ => x0 < gN σ 6) := by
  refine Ct.of (by decide) (fun ad => Nat.le_of_ble_eq_true rfl) ?_
  intro κ ad σ X C T hpre h
  have C : Cx κ RX6 cX6_isInForce 2 (some .boolean) 0 := C
  have h := wpO_pu.mp h
  have hx0 : x0 < gN σ 6 := hpre
  unfold fX6_isInForce at h
  show Z κ (0, 0) (Qm κ ad σ enI okB X) 0 [(0, vo ad 6 (some x0)), (1, vi x1)] [] ad σ
  refine z_rng (fun hI1 hJ2 => ?_)
  refine z_iload_n C 1 dX6_isInForce_0 rfl ?_
  refine z_aload_n C 0 dX6_isInForce_1 rfl ?_
  refine z_gIv (v := gI σ 700 x0 0) C li_X6_20 (nN rfl hx0) rfl dX6_isInForce_2 ?_
  refine z_icmp_lt C 20 hx1 (hI1 700 x0 _) dX6_isInForce_5 (by decide) (fun q3 => ?_) (fun q3 => ?_)
  · have h := (wpO_ite.mp h).1 q3
    refine z_iconst C dX6_isInForce_20 ?_
    have h := wpO_some.mp h
    exact z_breturn T C dX6_isInForce_21 (by decide) rfl h
  · have h := (wpO_ite.mp h).2 q3
    refine z_iload_n C 1 dX6_isInForce_8 rfl ?_
    refine z_aload_n C 0 dX6_isInForce_9 rfl ?_
    refine z_gIv (v := gI σ 701 x0 0) C li_X6_10 (nN rfl hx0) rfl dX6_isInForce_10 ?_
    refine z_icmp_ge C 20 hx1 (hI1 701 x0 _) dX6_isInForce_13 (by decide) (fun q4 => ?_) (fun q4 => ?_)
    · have h := (wpO_ite.mp h).1 q4
      refine z_iconst C dX6_isInForce_20 ?_
      have h := wpO_some.mp h
      exact z_breturn T C dX6_isInForce_21 (by decide) rfl h
    · have h := (wpO_ite.mp h).2 q4
      refine z_iconst C dX6_isInForce_16 ?_
      refine z_goto C 21 dX6_isInForce_17 (by decide) ?_
      have h := wpO_some.mp h
      exact z_breturn T C dX6_isInForce_21 (by decide) rfl h
noncomputable def fX3_openLevel (σ : St) : Option (Unit × St) :=
  ck (0 ≤ gI σ 404 0 0 ∧ gI σ 404 0 0 < 81) (ck (0 ≤ gI σ 404 0 0 ∧ gI σ 404 0 0 < 81) (ck (0 ≤ gI σ 404 0 0 ∧ gI σ 404 0 0 < 81) (some ((), sI (sI (sI (sI σ 401 0 ((gI σ 404 0 0).toNat) 0) 402 0 ((gI σ 404 0 0).toNat) 1) 403 0 ((gI σ 404 0 0).toNat) 0) 405 0 0 0))))
set_option maxRecDepth 20000 in
set_option maxHeartbeats 4000000 in
theorem ct_X3_openLevel  : Ct yX3_openLevel cX3_openLevel 1 none 0 (fun ad => [vo ad 3 (some 0)]) fX3_openLevel enV okV (fun _ => True) := by
  refine Ct.of (by decide) (fun ad => Nat.le_of_ble_eq_true rfl) ?_
  intro κ ad σ X C T hpre h
  have C : Cx κ RX3 cX3_openLevel 1 none 0 := C
  unfold fX3_openLevel at h
  show Z κ (0, 0) (Qm κ ad σ enV okV X) 0 [(0, vo ad 3 (some 0))] [] ad σ
  refine z_rng (fun hI1 hJ2 => ?_)
  refine z_aload_n C 0 dX3_openLevel_0 rfl ?_
  refine z_gA T C li_X3_15 (sg_3 T) dX3_openLevel_1 ?_
  refine z_aload_n C 0 dX3_openLevel_4 rfl ?_
  refine z_gIv (v := gI σ 404 0 0) C li_X3_45 (sg_3 T) rfl dX3_openLevel_5 ?_
  refine z_iconst C dX3_openLevel_8 ?_
  obtain ⟨hb3, h⟩ := wpO_ck.mp h
  refine z_bastore C ar_401 (sg_401 T) (hI1 404 0 _) hb3 (by decide) (by decide) dX3_openLevel_9 ?_
  refine z_aload_n C 0 dX3_openLevel_10 rfl ?_
  refine z_gA T C li_X3_19 (sg_3 T) dX3_openLevel_11 ?_
  refine z_aload_n C 0 dX3_openLevel_14 rfl ?_
  refine z_gIv (v := gI σ 404 0 0) C li_X3_45 (sg_3 T) (gn (by decide) rfl) dX3_openLevel_15 ?_
  refine z_iconst C dX3_openLevel_18 ?_
  obtain ⟨hb4, h⟩ := wpO_ck.mp h
  refine z_bastore C ar_402 (sg_402 T) (hI1 404 0 _) hb4 (by decide) (by decide) dX3_openLevel_19 ?_
  refine z_aload_n C 0 dX3_openLevel_20 rfl ?_
  refine z_gA T C li_X3_22 (sg_3 T) dX3_openLevel_21 ?_
  refine z_aload_n C 0 dX3_openLevel_24 rfl ?_
  refine z_gIv (v := gI σ 404 0 0) C li_X3_45 (sg_3 T) (gn (by decide) (gn (by decide) rfl)) dX3_openLevel_25 ?_
  refine z_iconst C dX3_openLevel_28 ?_
  obtain ⟨hb5, h⟩ := wpO_ck.mp h
  refine z_bastore C ar_403 (sg_403 T) (hI1 404 0 _) hb5 (by decide) (by decide) dX3_openLevel_29 ?_
  refine z_aload_n C 0 dX3_openLevel_30 rfl ?_
  refine z_iconst C dX3_openLevel_31 ?_
  refine z_pI C lq_X3_66 (sg_3 T) (by decide) dX3_openLevel_32 ?_
  have h := wpO_some.mp h
  exact z_return T C dX3_openLevel_35 rfl h
noncomputable def fX3_isDigit (x0 : Int) : Option Int :=
  bnk (fX11_within x0 48 57) (fun r1 => some r1)
set_option maxRecDepth 20000 in
set_option maxHeartbeats 4000000 in
theorem ct_X3_isDigit (x0 : Int) (hx0 : inr x0) : Ct yX3_isDigit cX3_isDigit 1 (some .boolean) 1 (fun ad => [vi x0]) (pu (fun _ => fX3_isDigit x0)) enI okB (fun _ => True) := by
  refine Ct.of (by decide) (fun ad => Nat.le_of_ble_eq_true rfl) ?_
  intro κ ad σ X C T hpre h
  have C : Cx κ RX3 cX3_isDigit 1 (some .boolean) 1 := C
  have h := wpO_pu.mp h
  unfold fX3_isDigit at h
  show Z κ (0, 0) (Qm κ ad σ enI okB X) 0 [(0, vi x0)] [] ad σ
  refine z_iload_n C 0 dX3_isDigit_0 rfl ?_
  refine z_bipush C dX3_isDigit_1 (by decide) ?_
  refine z_bipush C dX3_isDigit_3 (by decide) ?_
  refine z_cSp (st := []) T C (ct_X11_within x0 48 57 hx0 (by decide) (by decide)) lm_X3_104 ls_X11_within dX3_isDigit_5 rfl rfl trivial (by decide) (Nat.le_of_ble_eq_true rfl) csOK_0 h (fun r1 hr2 h => ?_)
  show Z κ (0, 0) _ 8 _ [vi r1] ad σ
  have h := wpO_some.mp h
  exact z_breturn T C dX3_isDigit_8 hr2 rfl h
noncomputable def fX3_takeDigit (x1 : Int) (σ : St) : Option (Int × St) :=
  ck (inr ((gI σ 408 0 0) * 10)) (ck (inr (((gI σ 408 0 0) * 10) + x1)) (ck (inr ((((gI σ 408 0 0) * 10) + x1) - 48)) (ck (inr ((gI σ 409 0 0) + 1)) (some (1, sI (sI (sI σ 408 0 0 ((((gI σ 408 0 0) * 10) + x1) - 48)) 409 0 0 ((gI σ 409 0 0) + 1)) 405 0 0 3)))))
set_option maxRecDepth 20000 in
set_option maxHeartbeats 4000000 in
theorem ct_X3_takeDigit (x1 : Int) (hx1 : inr x1) : Ct yX3_takeDigit cX3_takeDigit 2 (some .boolean) 0 (fun ad => [vo ad 3 (some 0), vi x1]) (fX3_takeDigit x1) enI okB (fun _ => True) := by
  refine Ct.of (by decide) (fun ad => Nat.le_of_ble_eq_true rfl) ?_
  intro κ ad σ X C T hpre h
  have C : Cx κ RX3 cX3_takeDigit 2 (some .boolean) 0 := C
  unfold fX3_takeDigit at h
  show Z κ (0, 0) (Qm κ ad σ enI okB X) 0 [(0, vo ad 3 (some 0)), (1, vi x1)] [] ad σ
  refine z_rng (fun hI1 hJ2 => ?_)
  refine z_aload_n C 0 dX3_takeDigit_0 rfl ?_
  refine z_aload_n C 0 dX3_takeDigit_1 rfl ?_
  refine z_gIv (v := gI σ 408 0 0) C li_X3_97 (sg_3 T) rfl dX3_takeDigit_2 ?_
  refine z_bipush C dX3_takeDigit_5 (by decide) ?_
  obtain ⟨hk3, h⟩ := wpO_ck.mp h
  refine z_imul C dX3_takeDigit_7 ?_
  refine z_iload_n C 1 dX3_takeDigit_8 rfl ?_
  obtain ⟨hk4, h⟩ := wpO_ck.mp h
  refine z_iadd C dX3_takeDigit_9 ?_
  refine z_bipush C dX3_takeDigit_10 (by decide) ?_
  obtain ⟨hk5, h⟩ := wpO_ck.mp h
  refine z_isub C dX3_takeDigit_12 ?_
  refine z_pI C lq_X3_97 (sg_3 T) hk5 dX3_takeDigit_13 ?_
  refine z_aload_n C 0 dX3_takeDigit_16 rfl ?_
  refine z_dup C dX3_takeDigit_17 rfl ?_
  refine z_gIv (v := gI σ 409 0 0) C li_X3_72 (sg_3 T) (gn (by decide) rfl) dX3_takeDigit_18 ?_
  refine z_iconst C dX3_takeDigit_21 ?_
  obtain ⟨hk6, h⟩ := wpO_ck.mp h
  refine z_iadd C dX3_takeDigit_22 ?_
  refine z_pI C lq_X3_72 (sg_3 T) hk6 dX3_takeDigit_23 ?_
  refine z_aload_n C 0 dX3_takeDigit_26 rfl ?_
  refine z_iconst C dX3_takeDigit_27 ?_
  refine z_pI C lq_X3_66 (sg_3 T) (by decide) dX3_takeDigit_28 ?_
  refine z_iconst C dX3_takeDigit_31 ?_
  have h := wpO_some.mp h
  exact z_breturn T C dX3_takeDigit_32 (by decide) rfl h
noncomputable def fX3_compares (σ : St) : Option Int :=
  ck (0 ≤ gI σ 406 0 0 ∧ gI σ 406 0 0 < 8) (if gI σ 407 0 0 = 60 then (if gI σ 408 0 0 ≤ gI σ 400 0 ((gI σ 406 0 0).toNat) then (some 0) else (some 1)) else (if gI σ 407 0 0 = 62 then (if gI σ 400 0 ((gI σ 406 0 0).toNat) ≤ gI σ 408 0 0 then (some 0) else (some 1)) else (if gI σ 400 0 ((gI σ 406 0 0).toNat) = gI σ 408 0 0 then (some 1) else (some 0))))
set_option maxRecDepth 20000 in
set_option maxHeartbeats 4000000 in
theorem ct_X3_compares  : Ct yX3_compares cX3_compares 2 (some .boolean) 0 (fun ad => [vo ad 3 (some 0)]) (pu (fX3_compares)) enI okB (fun _ => True) := by
  refine Ct.of (by decide) (fun ad => Nat.le_of_ble_eq_true rfl) ?_
  intro κ ad σ X C T hpre h
  have C : Cx κ RX3 cX3_compares 2 (some .boolean) 0 := C
  have h := wpO_pu.mp h
  unfold fX3_compares at h
  show Z κ (0, 0) (Qm κ ad σ enI okB X) 0 [(0, vo ad 3 (some 0))] [] ad σ
  refine z_rng (fun hI1 hJ2 => ?_)
  refine z_aload_n C 0 dX3_compares_0 rfl ?_
  refine z_gA T C li_X3_9 (sg_3 T) dX3_compares_1 ?_
  refine z_aload_n C 0 dX3_compares_4 rfl ?_
  refine z_gIv (v := gI σ 406 0 0) C li_X3_91 (sg_3 T) rfl dX3_compares_5 ?_
  obtain ⟨hb3, h⟩ := wpO_ck.mp h
  refine z_iav (v := gI σ 400 0 ((gI σ 406 0 0).toNat)) C ar_400 (sg_400 T) (hI1 406 0 _) hb3 rfl dX3_compares_8 ?_
  refine z_istore_n (lv2 := [(1, vi (gI σ 400 0 ((gI σ 406 0 0).toNat))), (0, vo ad 3 (some 0))]) C dX3_compares_9 (by decide) rfl ?_
  refine z_aload_n C 1 dX3_compares_10 rfl ?_
  refine z_gIv (v := gI σ 407 0 0) C li_X3_94 (sg_3 T) rfl dX3_compares_11 ?_
  refine z_bipush C dX3_compares_14 (by decide) ?_
  refine z_icmp_ne C 33 (hI1 407 0 _) (by decide) dX3_compares_16 (by decide) (fun q4 => ?_) (fun q4 => ?_)
  · have h := (wpO_ite.mp h).2 q4
    refine z_aload_n C 1 dX3_compares_33 rfl ?_
    refine z_gIv (v := gI σ 407 0 0) C li_X3_94 (sg_3 T) rfl dX3_compares_34 ?_
    refine z_bipush C dX3_compares_37 (by decide) ?_
    refine z_icmp_ne C 58 (hI1 407 0 _) (by decide) dX3_compares_39 (by decide) (fun q5 => ?_) (fun q5 => ?_)
    · have h := (wpO_ite.mp h).2 q5
      refine z_iload_n C 0 dX3_compares_58 rfl ?_
      refine z_aload_n C 1 dX3_compares_59 rfl ?_
      refine z_gIv (v := gI σ 408 0 0) C li_X3_97 (sg_3 T) rfl dX3_compares_60 ?_
      refine z_icmp_ne C 70 (hI1 400 0 _) (hI1 408 0 _) dX3_compares_63 (by decide) (fun q6 => ?_) (fun q6 => ?_)
      · have h := (wpO_ite.mp h).2 q6
        refine z_iconst C dX3_compares_70 ?_
        have h := wpO_some.mp h
        exact z_breturn T C dX3_compares_71 (by decide) rfl h
      · have h := (wpO_ite.mp h).1 q6
        refine z_iconst C dX3_compares_66 ?_
        refine z_goto C 71 dX3_compares_67 (by decide) ?_
        have h := wpO_some.mp h
        exact z_breturn T C dX3_compares_71 (by decide) rfl h
    · have h := (wpO_ite.mp h).1 q5
      refine z_iload_n C 0 dX3_compares_42 rfl ?_
      refine z_aload_n C 1 dX3_compares_43 rfl ?_
      refine z_gIv (v := gI σ 408 0 0) C li_X3_97 (sg_3 T) rfl dX3_compares_44 ?_
      refine z_icmp_le C 54 (hI1 400 0 _) (hI1 408 0 _) dX3_compares_47 (by decide) (fun q7 => ?_) (fun q7 => ?_)
      · have h := (wpO_ite.mp h).1 q7
        refine z_iconst C dX3_compares_54 ?_
        refine z_goto C 71 dX3_compares_55 (by decide) ?_
        have h := wpO_some.mp h
        exact z_breturn T C dX3_compares_71 (by decide) rfl h
      · have h := (wpO_ite.mp h).2 q7
        refine z_iconst C dX3_compares_50 ?_
        refine z_goto C 71 dX3_compares_51 (by decide) ?_
        have h := wpO_some.mp h
        exact z_breturn T C dX3_compares_71 (by decide) rfl h
  · have h := (wpO_ite.mp h).1 q4
    refine z_iload_n C 0 dX3_compares_19 rfl ?_
    refine z_aload_n C 1 dX3_compares_20 rfl ?_
    refine z_gIv (v := gI σ 408 0 0) C li_X3_97 (sg_3 T) rfl dX3_compares_21 ?_
    refine z_icmp_ge C 31 (hI1 400 0 _) (hI1 408 0 _) dX3_compares_24 (by decide) (fun q8 => ?_) (fun q8 => ?_)
    · have h := (wpO_ite.mp h).1 q8
      refine z_iconst C dX3_compares_31 ?_
      have h := wpO_some.mp h
      exact z_breturn T C dX3_compares_32 (by decide) rfl h
    · have h := (wpO_ite.mp h).2 q8
      refine z_iconst C dX3_compares_27 ?_
      refine z_goto C 32 dX3_compares_28 (by decide) ?_
      have h := wpO_some.mp h
      exact z_breturn T C dX3_compares_32 (by decide) rfl h
noncomputable def fX3_endOne_j38 (s1 : Int) (s2 : Int) (σ1 : St) : Option (Unit × St) :=
  ck (0 ≤ s1 ∧ s1 < 81) (ck (s2 = 0 ∨ s2 = 1) (ck (0 ≤ gI σ1 404 0 0 ∧ gI σ1 404 0 0 < 81) (some ((), sI (sI (sI σ1 402 0 s1.toNat s2) 403 0 ((gI σ1 404 0 0).toNat) 0) 405 0 0 4))))
noncomputable def fX3_endOne_j37 (s1 : Int) (σ1 : St) : Option (Unit × St) :=
  fX3_endOne_j38 s1 0 σ1
noncomputable def fX3_endOne (x1 : Int) (σ : St) : Option (Unit × St) :=
  ck (0 ≤ gI σ 404 0 0 ∧ gI σ 404 0 0 < 81) (if gI σ 402 0 ((gI σ 404 0 0).toNat) = 0 then (fX3_endOne_j37 (gI σ 404 0 0) σ) else (ck (0 ≤ gI σ 404 0 0 ∧ gI σ 404 0 0 < 81) (if x1 = gI σ 403 0 ((gI σ 404 0 0).toNat) then (fX3_endOne_j37 (gI σ 404 0 0) σ) else (fX3_endOne_j38 (gI σ 404 0 0) 1 σ))))
set_option maxRecDepth 20000 in
set_option maxHeartbeats 4000000 in
theorem ct_X3_endOne (x1 : Int) (hx1 : x1 = 0 ∨ x1 = 1) : Ct yX3_endOne cX3_endOne 2 none 0 (fun ad => [vo ad 3 (some 0), vi x1]) (fX3_endOne x1) enV okV (fun _ => True) := by
  refine Ct.of (by decide) (fun ad => Nat.le_of_ble_eq_true rfl) ?_
  intro κ ad σ X C T hpre h
  have C : Cx κ RX3 cX3_endOne 2 none 0 := C
  unfold fX3_endOne at h
  have J38 : ∀ (s1 : Int) (s2 : Int) (σ1 : St), inr s1 → inr s2 → σ1.2.2.2 = σ.2.2.2 → wpO (fX3_endOne_j38 s1 s2 σ1) (fun q => X q.1 q.2) → Z κ (0, 0) (Qm κ ad σ enV okV X) 38 [(0, vo ad 3 (some 0))] [vi s2, vi s1, vo ad 402 (some 0)] ad σ1 := by
    intro s1 s2 σ1 hs1 hs2 eN1 h
    unfold fX3_endOne_j38 at h
    refine z_rng (fun hI1 hJ2 => ?_)
    obtain ⟨hb3, h⟩ := wpO_ck.mp h
    obtain ⟨hb4, h⟩ := wpO_ck.mp h
    refine z_bastore C ar_402 (sg_402 T) hs1 hb3 hs2 hb4 dX3_endOne_38 ?_
    refine z_aload_n C 0 dX3_endOne_39 rfl ?_
    refine z_gA T C li_X3_22 (sg_3 T) dX3_endOne_40 ?_
    refine z_aload_n C 0 dX3_endOne_43 rfl ?_
    refine z_gIv (v := gI σ1 404 0 0) C li_X3_45 (sg_3 T) (gn (by decide) rfl) dX3_endOne_44 ?_
    refine z_iconst C dX3_endOne_47 ?_
    obtain ⟨hb5, h⟩ := wpO_ck.mp h
    refine z_bastore C ar_403 (sg_403 T) (hI1 404 0 _) hb5 (by decide) (by decide) dX3_endOne_48 ?_
    refine z_aload_n C 0 dX3_endOne_49 rfl ?_
    refine z_iconst C dX3_endOne_50 ?_
    refine z_pI C lq_X3_66 (sg_3 T) (by decide) dX3_endOne_51 ?_
    have h := wpO_some.mp h
    exact z_return T C dX3_endOne_54 eN1 h
  have J37 : ∀ (s1 : Int) (σ1 : St), inr s1 → σ1.2.2.2 = σ.2.2.2 → wpO (fX3_endOne_j37 s1 σ1) (fun q => X q.1 q.2) → Z κ (0, 0) (Qm κ ad σ enV okV X) 37 [(0, vo ad 3 (some 0))] [vi s1, vo ad 402 (some 0)] ad σ1 := by
    intro s1 σ1 hs1 eN1 h
    unfold fX3_endOne_j37 at h
    refine z_rng (fun hI6 hJ7 => ?_)
    refine z_iconst C dX3_endOne_37 ?_
    exact J38 s1 0 σ1 hs1 (by decide) eN1 h
  show Z κ (0, 0) (Qm κ ad σ enV okV X) 0 [(0, vo ad 3 (some 0)), (1, vi x1)] [] ad σ
  refine z_rng (fun hI8 hJ9 => ?_)
  refine z_aload_n C 0 dX3_endOne_0 rfl ?_
  refine z_gA T C li_X3_19 (sg_3 T) dX3_endOne_1 ?_
  refine z_aload_n C 0 dX3_endOne_4 rfl ?_
  refine z_gIv (v := gI σ 404 0 0) C li_X3_45 (sg_3 T) rfl dX3_endOne_5 ?_
  refine z_aload_n C 0 dX3_endOne_8 rfl ?_
  refine z_gA T C li_X3_19 (sg_3 T) dX3_endOne_9 ?_
  refine z_aload_n C 0 dX3_endOne_12 rfl ?_
  refine z_gIv (v := gI σ 404 0 0) C li_X3_45 (sg_3 T) rfl dX3_endOne_13 ?_
  obtain ⟨hb10, h⟩ := wpO_ck.mp h
  refine z_bav (v := gI σ 402 0 ((gI σ 404 0 0).toNat)) C ar_402 (sg_402 T) (hI8 404 0 _) hb10 rfl dX3_endOne_16 ?_
  refine z_if_eq C 37 (hI8 402 0 _) dX3_endOne_17 (by decide) (fun q11 => ?_) (fun q11 => ?_)
  · have h := (wpO_ite.mp h).1 q11
    refine z_sub [0] rfl ?_
    exact J37 (gI σ 404 0 0) σ (hI8 404 0 _) rfl h
  · have h := (wpO_ite.mp h).2 q11
    refine z_iload_n C 1 dX3_endOne_20 rfl ?_
    refine z_aload_n C 0 dX3_endOne_21 rfl ?_
    refine z_gA T C li_X3_22 (sg_3 T) dX3_endOne_22 ?_
    refine z_aload_n C 0 dX3_endOne_25 rfl ?_
    refine z_gIv (v := gI σ 404 0 0) C li_X3_45 (sg_3 T) rfl dX3_endOne_26 ?_
    obtain ⟨hb12, h⟩ := wpO_ck.mp h
    refine z_bav (v := gI σ 403 0 ((gI σ 404 0 0).toNat)) C ar_403 (sg_403 T) (hI8 404 0 _) hb12 rfl dX3_endOne_29 ?_
    refine z_icmp_eq C 37 (inr_b hx1) (hI8 403 0 _) dX3_endOne_30 (by decide) (fun q13 => ?_) (fun q13 => ?_)
    · have h := (wpO_ite.mp h).1 q13
      refine z_sub [0] rfl ?_
      exact J37 (gI σ 404 0 0) σ (hI8 404 0 _) rfl h
    · have h := (wpO_ite.mp h).2 q13
      refine z_iconst C dX3_endOne_33 ?_
      refine z_goto C 38 dX3_endOne_34 (by decide) ?_
      refine z_sub [0] rfl ?_
      exact J38 (gI σ 404 0 0) 1 σ (hI8 404 0 _) (by decide) rfl h
noncomputable def fX3_endNumber (σ : St) : Option (Unit × St) :=
  if gI σ 405 0 0 = 3 then (bnk (fX3_compares σ) (fun r4 => bnd (fX3_endOne r4 σ) (fun _ σ8 => some ((), σ8)))) else (some ((), σ))
set_option maxRecDepth 20000 in
set_option maxHeartbeats 4000000 in
theorem ct_X3_endNumber  : Ct yX3_endNumber cX3_endNumber 1 none 1 (fun ad => [vo ad 3 (some 0)]) fX3_endNumber enV okV (fun _ => True) := by
  refine Ct.of (by decide) (fun ad => Nat.le_of_ble_eq_true rfl) ?_
  intro κ ad σ X C T hpre h
  have C : Cx κ RX3 cX3_endNumber 1 none 1 := C
  unfold fX3_endNumber at h
  show Z κ (0, 0) (Qm κ ad σ enV okV X) 0 [(0, vo ad 3 (some 0))] [] ad σ
  refine z_rng (fun hI1 hJ2 => ?_)
  refine z_aload_n C 0 dX3_endNumber_0 rfl ?_
  refine z_gIv (v := gI σ 405 0 0) C li_X3_66 (sg_3 T) rfl dX3_endNumber_1 ?_
  refine z_iconst C dX3_endNumber_4 ?_
  refine z_icmp_ne C 16 (hI1 405 0 _) (by decide) dX3_endNumber_5 (by decide) (fun q3 => ?_) (fun q3 => ?_)
  · have h := (wpO_ite.mp h).2 q3
    have h := wpO_some.mp h
    exact z_return T C dX3_endNumber_16 rfl h
  · have h := (wpO_ite.mp h).1 q3
    refine z_aload_n C 0 dX3_endNumber_8 rfl ?_
    refine z_aload_n C 0 dX3_endNumber_9 rfl ?_
    refine z_cVp (st := [vo ad 3 (some 0)]) T C ct_X3_compares lm_X3_108 lv_vX3_compares dX3_endNumber_10 [] rfl rfl rfl rfl rfl (sg_3 T) trivial (by decide) (Nat.le_of_ble_eq_true rfl) csOK_0 h (fun r4 hr5 h => ?_)
    show Z κ (0, 0) _ 13 _ [vi r4, vo ad 3 (some 0)] ad σ
    refine z_cV (st := []) T C (ct_X3_endOne r4 hr5) lm_X3_100 lv_vX3_endOne dX3_endNumber_13 [vi r4] rfl rfl rfl rfl rfl (sg_3 T) trivial (by decide) (Nat.le_of_ble_eq_true rfl) csOK_0 h (fun r6 σ8 hr7 eN9 h => ?_)
    show Z κ (0, 0) _ 16 _ [] ad σ8
    refine z_rng (fun hI10 hJ11 => ?_)
    have h := wpO_some.mp h
    exact z_return T C dX3_endNumber_16 eN9 h
noncomputable def fX3_letterIndex (x0 : Int) : Option Int :=
  if x0 = 102 then (some 3) else (if x0 = 107 then (some 7) else (if x0 = 108 then (some 2) else (if x0 = 111 then (some 4) else (if x0 = 112 then (some 1) else (if x0 = 115 then (some 0) else (if x0 = 117 then (some 5) else (if x0 = 120 then (some 6) else (some ((-1))))))))))
set_option maxRecDepth 20000 in
set_option maxHeartbeats 4000000 in
theorem ct_X3_letterIndex (x0 : Int) (hx0 : inr x0) : Ct yX3_letterIndex cX3_letterIndex 1 (some .int) 0 (fun ad => [vi x0]) (pu (fun _ => fX3_letterIndex x0)) enI okI (fun _ => True) := by
  refine Ct.of (by decide) (fun ad => Nat.le_of_ble_eq_true rfl) ?_
  intro κ ad σ X C T hpre h
  have C : Cx κ RX3 cX3_letterIndex 1 (some .int) 0 := C
  have h := wpO_pu.mp h
  unfold fX3_letterIndex at h
  show Z κ (0, 0) (Qm κ ad σ enI okI X) 0 [(0, vi x0)] [] ad σ
  refine z_iload_n C 0 dX3_letterIndex_0 rfl ?_
  by_cases q1 : x0 = 102
  · have h := (wpO_ite.mp h).1 q1
    refine z_tableIn (off := 97) C 98 hx0 dX3_letterIndex_1 (by omega) (by omega) (by rw [q1]; rfl) (by decide) ?_
    refine z_iconst C dX3_letterIndex_98 ?_
    have h := wpO_some.mp h
    exact z_ireturn T C dX3_letterIndex_99 (by decide) rfl h
  have h := (wpO_ite.mp h).2 q1
  by_cases q2 : x0 = 107
  · have h := (wpO_ite.mp h).1 q2
    refine z_tableIn (off := 106) C 107 hx0 dX3_letterIndex_1 (by omega) (by omega) (by rw [q2]; rfl) (by decide) ?_
    refine z_bipush C dX3_letterIndex_107 (by decide) ?_
    have h := wpO_some.mp h
    exact z_ireturn T C dX3_letterIndex_109 (by decide) rfl h
  have h := (wpO_ite.mp h).2 q2
  by_cases q3 : x0 = 108
  · have h := (wpO_ite.mp h).1 q3
    refine z_tableIn (off := 95) C 96 hx0 dX3_letterIndex_1 (by omega) (by omega) (by rw [q3]; rfl) (by decide) ?_
    refine z_iconst C dX3_letterIndex_96 ?_
    have h := wpO_some.mp h
    exact z_ireturn T C dX3_letterIndex_97 (by decide) rfl h
  have h := (wpO_ite.mp h).2 q3
  by_cases q4 : x0 = 111
  · have h := (wpO_ite.mp h).1 q4
    refine z_tableIn (off := 99) C 100 hx0 dX3_letterIndex_1 (by omega) (by omega) (by rw [q4]; rfl) (by decide) ?_
    refine z_iconst C dX3_letterIndex_100 ?_
    have h := wpO_some.mp h
    exact z_ireturn T C dX3_letterIndex_101 (by decide) rfl h
  have h := (wpO_ite.mp h).2 q4
  by_cases q5 : x0 = 112
  · have h := (wpO_ite.mp h).1 q5
    refine z_tableIn (off := 93) C 94 hx0 dX3_letterIndex_1 (by omega) (by omega) (by rw [q5]; rfl) (by decide) ?_
    refine z_iconst C dX3_letterIndex_94 ?_
    have h := wpO_some.mp h
    exact z_ireturn T C dX3_letterIndex_95 (by decide) rfl h
  have h := (wpO_ite.mp h).2 q5
  by_cases q6 : x0 = 115
  · have h := (wpO_ite.mp h).1 q6
    refine z_tableIn (off := 91) C 92 hx0 dX3_letterIndex_1 (by omega) (by omega) (by rw [q6]; rfl) (by decide) ?_
    refine z_iconst C dX3_letterIndex_92 ?_
    have h := wpO_some.mp h
    exact z_ireturn T C dX3_letterIndex_93 (by decide) rfl h
  have h := (wpO_ite.mp h).2 q6
  by_cases q7 : x0 = 117
  · have h := (wpO_ite.mp h).1 q7
    refine z_tableIn (off := 101) C 102 hx0 dX3_letterIndex_1 (by omega) (by omega) (by rw [q7]; rfl) (by decide) ?_
    refine z_iconst C dX3_letterIndex_102 ?_
    have h := wpO_some.mp h
    exact z_ireturn T C dX3_letterIndex_103 (by decide) rfl h
  have h := (wpO_ite.mp h).2 q7
  by_cases q8 : x0 = 120
  · have h := (wpO_ite.mp h).1 q8
    refine z_tableIn (off := 103) C 104 hx0 dX3_letterIndex_1 (by omega) (by omega) (by rw [q8]; rfl) (by decide) ?_
    refine z_bipush C dX3_letterIndex_104 (by decide) ?_
    have h := wpO_some.mp h
    exact z_ireturn T C dX3_letterIndex_106 (by decide) rfl h
  have h := (wpO_ite.mp h).2 q8
  by_cases q10 : x0 = 103
  · refine z_tableIn (off := 109) C 110 hx0 dX3_letterIndex_1 (by omega) (by omega) (by rw [q10]; rfl) (by decide) ?_
    refine z_iconst C dX3_letterIndex_110 ?_
    have h := wpO_some.mp h
    exact z_ireturn T C dX3_letterIndex_111 (by decide) rfl h
  by_cases q11 : x0 = 104
  · refine z_tableIn (off := 109) C 110 hx0 dX3_letterIndex_1 (by omega) (by omega) (by rw [q11]; rfl) (by decide) ?_
    refine z_iconst C dX3_letterIndex_110 ?_
    have h := wpO_some.mp h
    exact z_ireturn T C dX3_letterIndex_111 (by decide) rfl h
  by_cases q12 : x0 = 105
  · refine z_tableIn (off := 109) C 110 hx0 dX3_letterIndex_1 (by omega) (by omega) (by rw [q12]; rfl) (by decide) ?_
    refine z_iconst C dX3_letterIndex_110 ?_
    have h := wpO_some.mp h
    exact z_ireturn T C dX3_letterIndex_111 (by decide) rfl h
  by_cases q13 : x0 = 106
  · refine z_tableIn (off := 109) C 110 hx0 dX3_letterIndex_1 (by omega) (by omega) (by rw [q13]; rfl) (by decide) ?_
    refine z_iconst C dX3_letterIndex_110 ?_
    have h := wpO_some.mp h
    exact z_ireturn T C dX3_letterIndex_111 (by decide) rfl h
  by_cases q14 : x0 = 109
  · refine z_tableIn (off := 109) C 110 hx0 dX3_letterIndex_1 (by omega) (by omega) (by rw [q14]; rfl) (by decide) ?_
    refine z_iconst C dX3_letterIndex_110 ?_
    have h := wpO_some.mp h
    exact z_ireturn T C dX3_letterIndex_111 (by decide) rfl h
  by_cases q15 : x0 = 110
  · refine z_tableIn (off := 109) C 110 hx0 dX3_letterIndex_1 (by omega) (by omega) (by rw [q15]; rfl) (by decide) ?_
    refine z_iconst C dX3_letterIndex_110 ?_
    have h := wpO_some.mp h
    exact z_ireturn T C dX3_letterIndex_111 (by decide) rfl h
  by_cases q16 : x0 = 113
  · refine z_tableIn (off := 109) C 110 hx0 dX3_letterIndex_1 (by omega) (by omega) (by rw [q16]; rfl) (by decide) ?_
    refine z_iconst C dX3_letterIndex_110 ?_
    have h := wpO_some.mp h
    exact z_ireturn T C dX3_letterIndex_111 (by decide) rfl h
  by_cases q17 : x0 = 114
  · refine z_tableIn (off := 109) C 110 hx0 dX3_letterIndex_1 (by omega) (by omega) (by rw [q17]; rfl) (by decide) ?_
    refine z_iconst C dX3_letterIndex_110 ?_
    have h := wpO_some.mp h
    exact z_ireturn T C dX3_letterIndex_111 (by decide) rfl h
  by_cases q18 : x0 = 116
  · refine z_tableIn (off := 109) C 110 hx0 dX3_letterIndex_1 (by omega) (by omega) (by rw [q18]; rfl) (by decide) ?_
    refine z_iconst C dX3_letterIndex_110 ?_
    have h := wpO_some.mp h
    exact z_ireturn T C dX3_letterIndex_111 (by decide) rfl h
  by_cases q19 : x0 = 118
  · refine z_tableIn (off := 109) C 110 hx0 dX3_letterIndex_1 (by omega) (by omega) (by rw [q19]; rfl) (by decide) ?_
    refine z_iconst C dX3_letterIndex_110 ?_
    have h := wpO_some.mp h
    exact z_ireturn T C dX3_letterIndex_111 (by decide) rfl h
  by_cases q20 : x0 = 119
  · refine z_tableIn (off := 109) C 110 hx0 dX3_letterIndex_1 (by omega) (by omega) (by rw [q20]; rfl) (by decide) ?_
    refine z_iconst C dX3_letterIndex_110 ?_
    have h := wpO_some.mp h
    exact z_ireturn T C dX3_letterIndex_111 (by decide) rfl h
  refine z_tableOut C 110 hx0 dX3_letterIndex_1 (by omega) (by decide) ?_
  refine z_iconst C dX3_letterIndex_110 ?_
  have h := wpO_some.mp h
  exact z_ireturn T C dX3_letterIndex_111 (by decide) rfl h
noncomputable def fX3_takeOne_j65 (x1 : Int) (σ1 : St) : Option (Int × St) :=
  bnk (fX3_letterIndex x1) (fun r3 => if r3 < 0 then (some (0, sI (sI σ1 406 0 0 r3) 405 0 0 1)) else (some (1, sI (sI σ1 406 0 0 r3) 405 0 0 1)))
noncomputable def fX3_takeOne_j31 (s1 : Int) (s2 : Int) (σ1 : St) : Option (Int × St) :=
  ck (0 ≤ s1 ∧ s1 < 81) (ck (s2 = 0 ∨ s2 = 1) (some (1, sI σ1 403 0 s1.toNat s2)))
noncomputable def fX3_takeOne (x1 : Int) (σ : St) : Option (Int × St) :=
  if x1 = 33 then (ck (0 ≤ gI σ 404 0 0 ∧ gI σ 404 0 0 < 81) (if gI σ 403 0 ((gI σ 404 0 0).toNat) = 0 then (fX3_takeOne_j31 (gI σ 404 0 0) 1 σ) else (fX3_takeOne_j31 (gI σ 404 0 0) 0 σ))) else (if x1 = 40 then (if 80 ≤ gI σ 404 0 0 then (fX3_takeOne_j65 x1 σ) else (ck (inr ((gI σ 404 0 0) + 1)) (bnd (fX3_openLevel (sI σ 404 0 0 ((gI σ 404 0 0) + 1))) (fun _ σ18 => some (1, σ18))))) else (fX3_takeOne_j65 x1 σ))
set_option maxRecDepth 20000 in
set_option maxHeartbeats 4000000 in
theorem ct_X3_takeOne (x1 : Int) (hx1 : inr x1) : Ct yX3_takeOne cX3_takeOne 2 (some .boolean) 1 (fun ad => [vo ad 3 (some 0), vi x1]) (fX3_takeOne x1) enI okB (fun _ => True) := by
  refine Ct.of (by decide) (fun ad => Nat.le_of_ble_eq_true rfl) ?_
  intro κ ad σ X C T hpre h
  have C : Cx κ RX3 cX3_takeOne 2 (some .boolean) 1 := C
  unfold fX3_takeOne at h
  have J65 : ∀ (x1 : Int) (σ1 : St), inr x1 → σ1.2.2.2 = σ.2.2.2 → wpO (fX3_takeOne_j65 x1 σ1) (fun q => X q.1 q.2) → Z κ (0, 0) (Qm κ ad σ enI okB X) 65 [(0, vo ad 3 (some 0)), (1, vi x1)] [] ad σ1 := by
    intro x1 σ1 hx1 eN1 h
    unfold fX3_takeOne_j65 at h
    refine z_rng (fun hI1 hJ2 => ?_)
    refine z_aload_n C 0 dX3_takeOne_65 rfl ?_
    refine z_iload_n C 1 dX3_takeOne_66 rfl ?_
    refine z_cSp (st := [vo ad 3 (some 0)]) T C (ct_X3_letterIndex x1 hx1) lm_X3_87 ls_X3_letterIndex dX3_takeOne_67 rfl rfl trivial (by decide) (Nat.le_of_ble_eq_true rfl) csOK_0 h (fun r3 hr4 h => ?_)
    show Z κ (0, 0) _ 70 _ [vi r3, vo ad 3 (some 0)] ad σ1
    refine z_pI C lq_X3_91 (sg_3 T) hr4 dX3_takeOne_70 ?_
    refine z_aload_n C 0 dX3_takeOne_73 rfl ?_
    refine z_iconst C dX3_takeOne_74 ?_
    refine z_pI C lq_X3_66 (sg_3 T) (by decide) dX3_takeOne_75 ?_
    refine z_aload_n C 0 dX3_takeOne_78 rfl ?_
    refine z_gIv (v := r3) C li_X3_91 (sg_3 T) (gn (by decide) gs) dX3_takeOne_79 ?_
    refine z_if_lt C 89 hr4 dX3_takeOne_82 (by decide) (fun q5 => ?_) (fun q5 => ?_)
    · have h := (wpO_ite.mp h).1 q5
      refine z_iconst C dX3_takeOne_89 ?_
      have h := wpO_some.mp h
      exact z_breturn T C dX3_takeOne_90 (by decide) eN1 h
    · have h := (wpO_ite.mp h).2 q5
      refine z_iconst C dX3_takeOne_85 ?_
      refine z_goto C 90 dX3_takeOne_86 (by decide) ?_
      have h := wpO_some.mp h
      exact z_breturn T C dX3_takeOne_90 (by decide) eN1 h
  have J31 : ∀ (s1 : Int) (s2 : Int) (σ1 : St), inr s1 → inr s2 → σ1.2.2.2 = σ.2.2.2 → wpO (fX3_takeOne_j31 s1 s2 σ1) (fun q => X q.1 q.2) → Z κ (0, 0) (Qm κ ad σ enI okB X) 31 [] [vi s2, vi s1, vo ad 403 (some 0)] ad σ1 := by
    intro s1 s2 σ1 hs1 hs2 eN1 h
    unfold fX3_takeOne_j31 at h
    refine z_rng (fun hI6 hJ7 => ?_)
    obtain ⟨hb8, h⟩ := wpO_ck.mp h
    obtain ⟨hb9, h⟩ := wpO_ck.mp h
    refine z_bastore C ar_403 (sg_403 T) hs1 hb8 hs2 hb9 dX3_takeOne_31 ?_
    refine z_iconst C dX3_takeOne_32 ?_
    have h := wpO_some.mp h
    exact z_breturn T C dX3_takeOne_33 (by decide) eN1 h
  show Z κ (0, 0) (Qm κ ad σ enI okB X) 0 [(0, vo ad 3 (some 0)), (1, vi x1)] [] ad σ
  refine z_rng (fun hI10 hJ11 => ?_)
  refine z_iload_n C 1 dX3_takeOne_0 rfl ?_
  refine z_bipush C dX3_takeOne_1 (by decide) ?_
  refine z_icmp_ne C 34 hx1 (by decide) dX3_takeOne_3 (by decide) (fun q12 => ?_) (fun q12 => ?_)
  · have h := (wpO_ite.mp h).2 q12
    refine z_iload_n C 1 dX3_takeOne_34 rfl ?_
    refine z_bipush C dX3_takeOne_35 (by decide) ?_
    refine z_icmp_ne C 65 hx1 (by decide) dX3_takeOne_37 (by decide) (fun q13 => ?_) (fun q13 => ?_)
    · have h := (wpO_ite.mp h).2 q13
      exact J65 x1 σ hx1 rfl h
    · have h := (wpO_ite.mp h).1 q13
      refine z_aload_n C 0 dX3_takeOne_40 rfl ?_
      refine z_gIv (v := gI σ 404 0 0) C li_X3_45 (sg_3 T) rfl dX3_takeOne_41 ?_
      refine z_bipush C dX3_takeOne_44 (by decide) ?_
      refine z_icmp_ge C 65 (hI10 404 0 _) (by decide) dX3_takeOne_46 (by decide) (fun q14 => ?_) (fun q14 => ?_)
      · have h := (wpO_ite.mp h).1 q14
        exact J65 x1 σ hx1 rfl h
      · have h := (wpO_ite.mp h).2 q14
        refine z_aload_n C 0 dX3_takeOne_49 rfl ?_
        refine z_dup C dX3_takeOne_50 rfl ?_
        refine z_gIv (v := gI σ 404 0 0) C li_X3_45 (sg_3 T) rfl dX3_takeOne_51 ?_
        refine z_iconst C dX3_takeOne_54 ?_
        obtain ⟨hk15, h⟩ := wpO_ck.mp h
        refine z_iadd C dX3_takeOne_55 ?_
        refine z_pI C lq_X3_45 (sg_3 T) hk15 dX3_takeOne_56 ?_
        refine z_aload_n C 0 dX3_takeOne_59 rfl ?_
        refine z_cV (st := []) T C ct_X3_openLevel lm_X3_48 lv_vX3_openLevel dX3_takeOne_60 [] rfl rfl rfl rfl rfl (sg_3 T) trivial (by decide) (Nat.le_of_ble_eq_true rfl) csOK_0 h (fun r16 σ18 hr17 eN19 h => ?_)
        show Z κ (0, 0) _ 63 _ [] ad σ18
        refine z_rng (fun hI20 hJ21 => ?_)
        refine z_iconst C dX3_takeOne_63 ?_
        have h := wpO_some.mp h
        exact z_breturn T C dX3_takeOne_64 (by decide) eN19 h
  · have h := (wpO_ite.mp h).1 q12
    refine z_aload_n C 0 dX3_takeOne_6 rfl ?_
    refine z_gA T C li_X3_22 (sg_3 T) dX3_takeOne_7 ?_
    refine z_aload_n C 0 dX3_takeOne_10 rfl ?_
    refine z_gIv (v := gI σ 404 0 0) C li_X3_45 (sg_3 T) rfl dX3_takeOne_11 ?_
    refine z_aload_n C 0 dX3_takeOne_14 rfl ?_
    refine z_gA T C li_X3_22 (sg_3 T) dX3_takeOne_15 ?_
    refine z_aload_n C 0 dX3_takeOne_18 rfl ?_
    refine z_gIv (v := gI σ 404 0 0) C li_X3_45 (sg_3 T) rfl dX3_takeOne_19 ?_
    obtain ⟨hb22, h⟩ := wpO_ck.mp h
    refine z_bav (v := gI σ 403 0 ((gI σ 404 0 0).toNat)) C ar_403 (sg_403 T) (hI10 404 0 _) hb22 rfl dX3_takeOne_22 ?_
    refine z_if_ne C 30 (hI10 403 0 _) dX3_takeOne_23 (by decide) (fun q23 => ?_) (fun q23 => ?_)
    · have h := (wpO_ite.mp h).2 q23
      refine z_iconst C dX3_takeOne_30 ?_
      refine z_sub [] rfl ?_
      exact J31 (gI σ 404 0 0) 0 σ (hI10 404 0 _) (by decide) rfl h
    · have h := (wpO_ite.mp h).1 q23
      refine z_iconst C dX3_takeOne_26 ?_
      refine z_goto C 31 dX3_takeOne_27 (by decide) ?_
      refine z_sub [] rfl ?_
      exact J31 (gI σ 404 0 0) 1 σ (hI10 404 0 _) (by decide) rfl h
noncomputable def fX3_takeSign (x1 : Int) (σ : St) : Option (Int × St) :=
  if x1 = 60 then (some (1, sI (sI (sI (sI σ 407 0 0 x1) 408 0 0 0) 409 0 0 0) 405 0 0 2)) else (if x1 = 61 then (some (1, sI (sI (sI (sI σ 407 0 0 x1) 408 0 0 0) 409 0 0 0) 405 0 0 2)) else (if x1 = 62 then (some (1, sI (sI (sI (sI σ 407 0 0 x1) 408 0 0 0) 409 0 0 0) 405 0 0 2)) else (some (0, sI (sI (sI (sI σ 407 0 0 x1) 408 0 0 0) 409 0 0 0) 405 0 0 2))))
set_option maxRecDepth 20000 in
set_option maxHeartbeats 4000000 in
theorem ct_X3_takeSign (x1 : Int) (hx1 : inr x1) : Ct yX3_takeSign cX3_takeSign 2 (some .boolean) 0 (fun ad => [vo ad 3 (some 0), vi x1]) (fX3_takeSign x1) enI okB (fun _ => True) := by
  refine Ct.of (by decide) (fun ad => Nat.le_of_ble_eq_true rfl) ?_
  intro κ ad σ X C T hpre h
  have C : Cx κ RX3 cX3_takeSign 2 (some .boolean) 0 := C
  unfold fX3_takeSign at h
  show Z κ (0, 0) (Qm κ ad σ enI okB X) 0 [(0, vo ad 3 (some 0)), (1, vi x1)] [] ad σ
  refine z_rng (fun hI1 hJ2 => ?_)
  refine z_aload_n C 0 dX3_takeSign_0 rfl ?_
  refine z_iload_n C 1 dX3_takeSign_1 rfl ?_
  refine z_pI C lq_X3_94 (sg_3 T) hx1 dX3_takeSign_2 ?_
  refine z_aload_n C 0 dX3_takeSign_5 rfl ?_
  refine z_iconst C dX3_takeSign_6 ?_
  refine z_pI C lq_X3_97 (sg_3 T) (by decide) dX3_takeSign_7 ?_
  refine z_aload_n C 0 dX3_takeSign_10 rfl ?_
  refine z_iconst C dX3_takeSign_11 ?_
  refine z_pI C lq_X3_72 (sg_3 T) (by decide) dX3_takeSign_12 ?_
  refine z_aload_n C 0 dX3_takeSign_15 rfl ?_
  refine z_iconst C dX3_takeSign_16 ?_
  refine z_pI C lq_X3_66 (sg_3 T) (by decide) dX3_takeSign_17 ?_
  refine z_iload_n C 1 dX3_takeSign_20 rfl ?_
  refine z_bipush C dX3_takeSign_21 (by decide) ?_
  refine z_icmp_eq C 38 hx1 (by decide) dX3_takeSign_23 (by decide) (fun q3 => ?_) (fun q3 => ?_)
  · have h := (wpO_ite.mp h).1 q3
    refine z_iconst C dX3_takeSign_38 ?_
    refine z_goto C 43 dX3_takeSign_39 (by decide) ?_
    have h := wpO_some.mp h
    exact z_breturn T C dX3_takeSign_43 (by decide) rfl h
  · have h := (wpO_ite.mp h).2 q3
    refine z_iload_n C 1 dX3_takeSign_26 rfl ?_
    refine z_bipush C dX3_takeSign_27 (by decide) ?_
    refine z_icmp_eq C 38 hx1 (by decide) dX3_takeSign_29 (by decide) (fun q4 => ?_) (fun q4 => ?_)
    · have h := (wpO_ite.mp h).1 q4
      refine z_iconst C dX3_takeSign_38 ?_
      refine z_goto C 43 dX3_takeSign_39 (by decide) ?_
      have h := wpO_some.mp h
      exact z_breturn T C dX3_takeSign_43 (by decide) rfl h
    · have h := (wpO_ite.mp h).2 q4
      refine z_iload_n C 1 dX3_takeSign_32 rfl ?_
      refine z_bipush C dX3_takeSign_33 (by decide) ?_
      refine z_icmp_ne C 42 hx1 (by decide) dX3_takeSign_35 (by decide) (fun q5 => ?_) (fun q5 => ?_)
      · have h := (wpO_ite.mp h).2 q5
        refine z_iconst C dX3_takeSign_42 ?_
        have h := wpO_some.mp h
        exact z_breturn T C dX3_takeSign_43 (by decide) rfl h
      · have h := (wpO_ite.mp h).1 q5
        refine z_iconst C dX3_takeSign_38 ?_
        refine z_goto C 43 dX3_takeSign_39 (by decide) ?_
        have h := wpO_some.mp h
        exact z_breturn T C dX3_takeSign_43 (by decide) rfl h
noncomputable def fX3_takeJoint_j114 (x1 : Int) (σ1 : St) : Option (Int × St) :=
  if x1 = 124 then (some (1, sI σ1 405 0 0 0)) else (if x1 = 38 then (some (1, sI σ1 405 0 0 0)) else (some (0, sI σ1 405 0 0 0)))
noncomputable def fX3_takeJoint_j103 (x1 : Int) (s1 : Int) (s2 : Int) (σ1 : St) : Option (Int × St) :=
  ck (0 ≤ s1 ∧ s1 < 81) (ck (s2 = 0 ∨ s2 = 1) (ck (0 ≤ gI σ1 404 0 0 ∧ gI σ1 404 0 0 < 81) (fX3_takeJoint_j114 x1 (sI (sI σ1 401 0 s1.toNat s2) 402 0 ((gI σ1 404 0 0).toNat) 1))))
noncomputable def fX3_takeJoint_j98 (x1 : Int) (s1 : Int) (σ1 : St) : Option (Int × St) :=
  fX3_takeJoint_j103 x1 s1 1 σ1
noncomputable def fX3_takeJoint_j60 (x1 : Int) (σ1 : St) : Option (Int × St) :=
  if x1 = 124 then (ck (0 ≤ gI σ1 404 0 0 ∧ gI σ1 404 0 0 < 81) (if gI σ1 401 0 ((gI σ1 404 0 0).toNat) = 0 then (ck (0 ≤ gI σ1 404 0 0 ∧ gI σ1 404 0 0 < 81) (if gI σ1 402 0 ((gI σ1 404 0 0).toNat) = 0 then (fX3_takeJoint_j103 x1 (gI σ1 404 0 0) 0 σ1) else (fX3_takeJoint_j98 x1 (gI σ1 404 0 0) σ1))) else (fX3_takeJoint_j98 x1 (gI σ1 404 0 0) σ1))) else (fX3_takeJoint_j114 x1 σ1)
noncomputable def fX3_takeJoint_j42 (s0 : Int) (σ1 : St) : Option (Int × St) :=
  ck (inr ((gI σ1 404 0 0) - 1)) (ck (s0 = 0 ∨ s0 = 1) (bnd (fX3_endOne s0 (sI σ1 404 0 0 ((gI σ1 404 0 0) - 1))) (fun _ σ25 => some (1, σ25))))
noncomputable def fX3_takeJoint_j37 (σ1 : St) : Option (Int × St) :=
  fX3_takeJoint_j42 1 σ1
noncomputable def fX3_takeJoint (x1 : Int) (σ : St) : Option (Int × St) :=
  if x1 = 41 then (if gI σ 404 0 0 ≤ 0 then (fX3_takeJoint_j60 x1 σ) else (ck (0 ≤ gI σ 404 0 0 ∧ gI σ 404 0 0 < 81) (if gI σ 401 0 ((gI σ 404 0 0).toNat) = 0 then (ck (0 ≤ gI σ 404 0 0 ∧ gI σ 404 0 0 < 81) (if gI σ 402 0 ((gI σ 404 0 0).toNat) = 0 then (fX3_takeJoint_j42 0 σ) else (fX3_takeJoint_j37 σ))) else (fX3_takeJoint_j37 σ)))) else (fX3_takeJoint_j60 x1 σ)
set_option maxRecDepth 20000 in
set_option maxHeartbeats 4000000 in
theorem ct_X3_takeJoint (x1 : Int) (hx1 : inr x1) : Ct yX3_takeJoint cX3_takeJoint 3 (some .boolean) 1 (fun ad => [vo ad 3 (some 0), vi x1]) (fX3_takeJoint x1) enI okB (fun _ => True) := by
  refine Ct.of (by decide) (fun ad => Nat.le_of_ble_eq_true rfl) ?_
  intro κ ad σ X C T hpre h
  have C : Cx κ RX3 cX3_takeJoint 3 (some .boolean) 1 := C
  unfold fX3_takeJoint at h
  have J114 : ∀ (x1 : Int) (σ1 : St), inr x1 → σ1.2.2.2 = σ.2.2.2 → wpO (fX3_takeJoint_j114 x1 σ1) (fun q => X q.1 q.2) → Z κ (0, 0) (Qm κ ad σ enI okB X) 114 [(0, vo ad 3 (some 0)), (1, vi x1)] [] ad σ1 := by
    intro x1 σ1 hx1 eN1 h
    unfold fX3_takeJoint_j114 at h
    refine z_rng (fun hI1 hJ2 => ?_)
    refine z_aload_n C 0 dX3_takeJoint_114 rfl ?_
    refine z_iconst C dX3_takeJoint_115 ?_
    refine z_pI C lq_X3_66 (sg_3 T) (by decide) dX3_takeJoint_116 ?_
    refine z_iload_n C 1 dX3_takeJoint_119 rfl ?_
    refine z_bipush C dX3_takeJoint_120 (by decide) ?_
    refine z_icmp_eq C 131 hx1 (by decide) dX3_takeJoint_122 (by decide) (fun q3 => ?_) (fun q3 => ?_)
    · have h := (wpO_ite.mp h).1 q3
      refine z_iconst C dX3_takeJoint_131 ?_
      refine z_goto C 136 dX3_takeJoint_132 (by decide) ?_
      have h := wpO_some.mp h
      exact z_breturn T C dX3_takeJoint_136 (by decide) eN1 h
    · have h := (wpO_ite.mp h).2 q3
      refine z_iload_n C 1 dX3_takeJoint_125 rfl ?_
      refine z_bipush C dX3_takeJoint_126 (by decide) ?_
      refine z_icmp_ne C 135 hx1 (by decide) dX3_takeJoint_128 (by decide) (fun q4 => ?_) (fun q4 => ?_)
      · have h := (wpO_ite.mp h).2 q4
        refine z_iconst C dX3_takeJoint_135 ?_
        have h := wpO_some.mp h
        exact z_breturn T C dX3_takeJoint_136 (by decide) eN1 h
      · have h := (wpO_ite.mp h).1 q4
        refine z_iconst C dX3_takeJoint_131 ?_
        refine z_goto C 136 dX3_takeJoint_132 (by decide) ?_
        have h := wpO_some.mp h
        exact z_breturn T C dX3_takeJoint_136 (by decide) eN1 h
  have J103 : ∀ (x1 : Int) (s1 : Int) (s2 : Int) (σ1 : St), inr x1 → inr s1 → inr s2 → σ1.2.2.2 = σ.2.2.2 → wpO (fX3_takeJoint_j103 x1 s1 s2 σ1) (fun q => X q.1 q.2) → Z κ (0, 0) (Qm κ ad σ enI okB X) 103 [(0, vo ad 3 (some 0)), (1, vi x1)] [vi s2, vi s1, vo ad 401 (some 0)] ad σ1 := by
    intro x1 s1 s2 σ1 hx1 hs1 hs2 eN1 h
    unfold fX3_takeJoint_j103 at h
    refine z_rng (fun hI5 hJ6 => ?_)
    obtain ⟨hb7, h⟩ := wpO_ck.mp h
    obtain ⟨hb8, h⟩ := wpO_ck.mp h
    refine z_bastore C ar_401 (sg_401 T) hs1 hb7 hs2 hb8 dX3_takeJoint_103 ?_
    refine z_aload_n C 0 dX3_takeJoint_104 rfl ?_
    refine z_gA T C li_X3_19 (sg_3 T) dX3_takeJoint_105 ?_
    refine z_aload_n C 0 dX3_takeJoint_108 rfl ?_
    refine z_gIv (v := gI σ1 404 0 0) C li_X3_45 (sg_3 T) (gn (by decide) rfl) dX3_takeJoint_109 ?_
    refine z_iconst C dX3_takeJoint_112 ?_
    obtain ⟨hb9, h⟩ := wpO_ck.mp h
    refine z_bastore C ar_402 (sg_402 T) (hI5 404 0 _) hb9 (by decide) (by decide) dX3_takeJoint_113 ?_
    exact J114 x1 (sI (sI σ1 401 0 s1.toNat s2) 402 0 ((gI σ1 404 0 0).toNat) 1) hx1 eN1 h
  have J98 : ∀ (x1 : Int) (s1 : Int) (σ1 : St), inr x1 → inr s1 → σ1.2.2.2 = σ.2.2.2 → wpO (fX3_takeJoint_j98 x1 s1 σ1) (fun q => X q.1 q.2) → Z κ (0, 0) (Qm κ ad σ enI okB X) 98 [(0, vo ad 3 (some 0)), (1, vi x1)] [vi s1, vo ad 401 (some 0)] ad σ1 := by
    intro x1 s1 σ1 hx1 hs1 eN1 h
    unfold fX3_takeJoint_j98 at h
    refine z_rng (fun hI10 hJ11 => ?_)
    refine z_iconst C dX3_takeJoint_98 ?_
    refine z_goto C 103 dX3_takeJoint_99 (by decide) ?_
    exact J103 x1 s1 1 σ1 hx1 hs1 (by decide) eN1 h
  have J60 : ∀ (x1 : Int) (σ1 : St), inr x1 → σ1.2.2.2 = σ.2.2.2 → wpO (fX3_takeJoint_j60 x1 σ1) (fun q => X q.1 q.2) → Z κ (0, 0) (Qm κ ad σ enI okB X) 60 [(0, vo ad 3 (some 0)), (1, vi x1)] [] ad σ1 := by
    intro x1 σ1 hx1 eN1 h
    unfold fX3_takeJoint_j60 at h
    refine z_rng (fun hI12 hJ13 => ?_)
    refine z_iload_n C 1 dX3_takeJoint_60 rfl ?_
    refine z_bipush C dX3_takeJoint_61 (by decide) ?_
    refine z_icmp_ne C 114 hx1 (by decide) dX3_takeJoint_63 (by decide) (fun q14 => ?_) (fun q14 => ?_)
    · have h := (wpO_ite.mp h).2 q14
      exact J114 x1 σ1 hx1 eN1 h
    · have h := (wpO_ite.mp h).1 q14
      refine z_aload_n C 0 dX3_takeJoint_66 rfl ?_
      refine z_gA T C li_X3_15 (sg_3 T) dX3_takeJoint_67 ?_
      refine z_aload_n C 0 dX3_takeJoint_70 rfl ?_
      refine z_gIv (v := gI σ1 404 0 0) C li_X3_45 (sg_3 T) rfl dX3_takeJoint_71 ?_
      refine z_aload_n C 0 dX3_takeJoint_74 rfl ?_
      refine z_gA T C li_X3_15 (sg_3 T) dX3_takeJoint_75 ?_
      refine z_aload_n C 0 dX3_takeJoint_78 rfl ?_
      refine z_gIv (v := gI σ1 404 0 0) C li_X3_45 (sg_3 T) rfl dX3_takeJoint_79 ?_
      obtain ⟨hb15, h⟩ := wpO_ck.mp h
      refine z_bav (v := gI σ1 401 0 ((gI σ1 404 0 0).toNat)) C ar_401 (sg_401 T) (hI12 404 0 _) hb15 rfl dX3_takeJoint_82 ?_
      refine z_if_ne C 98 (hI12 401 0 _) dX3_takeJoint_83 (by decide) (fun q16 => ?_) (fun q16 => ?_)
      · have h := (wpO_ite.mp h).2 q16
        exact J98 x1 (gI σ1 404 0 0) σ1 hx1 (hI12 404 0 _) eN1 h
      · have h := (wpO_ite.mp h).1 q16
        refine z_aload_n C 0 dX3_takeJoint_86 rfl ?_
        refine z_gA T C li_X3_19 (sg_3 T) dX3_takeJoint_87 ?_
        refine z_aload_n C 0 dX3_takeJoint_90 rfl ?_
        refine z_gIv (v := gI σ1 404 0 0) C li_X3_45 (sg_3 T) rfl dX3_takeJoint_91 ?_
        obtain ⟨hb17, h⟩ := wpO_ck.mp h
        refine z_bav (v := gI σ1 402 0 ((gI σ1 404 0 0).toNat)) C ar_402 (sg_402 T) (hI12 404 0 _) hb17 rfl dX3_takeJoint_94 ?_
        refine z_if_eq C 102 (hI12 402 0 _) dX3_takeJoint_95 (by decide) (fun q18 => ?_) (fun q18 => ?_)
        · have h := (wpO_ite.mp h).1 q18
          refine z_iconst C dX3_takeJoint_102 ?_
          exact J103 x1 (gI σ1 404 0 0) 0 σ1 hx1 (hI12 404 0 _) (by decide) eN1 h
        · have h := (wpO_ite.mp h).2 q18
          exact J98 x1 (gI σ1 404 0 0) σ1 hx1 (hI12 404 0 _) eN1 h
  have J42 : ∀ (s0 : Int) (σ1 : St), inr s0 → σ1.2.2.2 = σ.2.2.2 → wpO (fX3_takeJoint_j42 s0 σ1) (fun q => X q.1 q.2) → Z κ (0, 0) (Qm κ ad σ enI okB X) 42 [(0, vo ad 3 (some 0))] [vi s0] ad σ1 := by
    intro s0 σ1 hs0 eN1 h
    unfold fX3_takeJoint_j42 at h
    refine z_rng (fun hI19 hJ20 => ?_)
    refine z_istore_n (lv2 := [(2, vi s0), (0, vo ad 3 (some 0))]) C dX3_takeJoint_42 (by decide) rfl ?_
    refine z_aload_n C 1 dX3_takeJoint_43 rfl ?_
    refine z_dup C dX3_takeJoint_44 rfl ?_
    refine z_gIv (v := gI σ1 404 0 0) C li_X3_45 (sg_3 T) rfl dX3_takeJoint_45 ?_
    refine z_iconst C dX3_takeJoint_48 ?_
    obtain ⟨hk21, h⟩ := wpO_ck.mp h
    refine z_isub C dX3_takeJoint_49 ?_
    refine z_pI C lq_X3_45 (sg_3 T) hk21 dX3_takeJoint_50 ?_
    refine z_aload_n C 1 dX3_takeJoint_53 rfl ?_
    refine z_iload_n C 0 dX3_takeJoint_54 rfl ?_
    obtain ⟨hb22, h⟩ := wpO_ck.mp h
    refine z_cV (st := []) T C (ct_X3_endOne s0 hb22) lm_X3_100 lv_vX3_endOne dX3_takeJoint_55 [vi s0] rfl rfl rfl rfl rfl (sg_3 T) trivial (by decide) (Nat.le_of_ble_eq_true rfl) csOK_0 h (fun r23 σ25 hr24 eN26 h => ?_)
    have eN27 := eN26.trans eN1
    show Z κ (0, 0) _ 58 _ [] ad σ25
    refine z_rng (fun hI28 hJ29 => ?_)
    refine z_iconst C dX3_takeJoint_58 ?_
    have h := wpO_some.mp h
    exact z_breturn T C dX3_takeJoint_59 (by decide) eN27 h
  have J37 : ∀ (σ1 : St), σ1.2.2.2 = σ.2.2.2 → wpO (fX3_takeJoint_j37 σ1) (fun q => X q.1 q.2) → Z κ (0, 0) (Qm κ ad σ enI okB X) 37 [(0, vo ad 3 (some 0))] [] ad σ1 := by
    intro σ1 eN1 h
    unfold fX3_takeJoint_j37 at h
    refine z_rng (fun hI30 hJ31 => ?_)
    refine z_iconst C dX3_takeJoint_37 ?_
    refine z_goto C 42 dX3_takeJoint_38 (by decide) ?_
    exact J42 1 σ1 (by decide) eN1 h
  show Z κ (0, 0) (Qm κ ad σ enI okB X) 0 [(0, vo ad 3 (some 0)), (1, vi x1)] [] ad σ
  refine z_rng (fun hI32 hJ33 => ?_)
  refine z_iload_n C 1 dX3_takeJoint_0 rfl ?_
  refine z_bipush C dX3_takeJoint_1 (by decide) ?_
  refine z_icmp_ne C 60 hx1 (by decide) dX3_takeJoint_3 (by decide) (fun q34 => ?_) (fun q34 => ?_)
  · have h := (wpO_ite.mp h).2 q34
    exact J60 x1 σ hx1 rfl h
  · have h := (wpO_ite.mp h).1 q34
    refine z_aload_n C 0 dX3_takeJoint_6 rfl ?_
    refine z_gIv (v := gI σ 404 0 0) C li_X3_45 (sg_3 T) rfl dX3_takeJoint_7 ?_
    refine z_if_le C 60 (hI32 404 0 _) dX3_takeJoint_10 (by decide) (fun q35 => ?_) (fun q35 => ?_)
    · have h := (wpO_ite.mp h).1 q35
      exact J60 x1 σ hx1 rfl h
    · have h := (wpO_ite.mp h).2 q35
      refine z_aload_n C 0 dX3_takeJoint_13 rfl ?_
      refine z_gA T C li_X3_15 (sg_3 T) dX3_takeJoint_14 ?_
      refine z_aload_n C 0 dX3_takeJoint_17 rfl ?_
      refine z_gIv (v := gI σ 404 0 0) C li_X3_45 (sg_3 T) rfl dX3_takeJoint_18 ?_
      obtain ⟨hb36, h⟩ := wpO_ck.mp h
      refine z_bav (v := gI σ 401 0 ((gI σ 404 0 0).toNat)) C ar_401 (sg_401 T) (hI32 404 0 _) hb36 rfl dX3_takeJoint_21 ?_
      refine z_if_ne C 37 (hI32 401 0 _) dX3_takeJoint_22 (by decide) (fun q37 => ?_) (fun q37 => ?_)
      · have h := (wpO_ite.mp h).2 q37
        refine z_sub [0] rfl ?_
        exact J37 σ rfl h
      · have h := (wpO_ite.mp h).1 q37
        refine z_aload_n C 0 dX3_takeJoint_25 rfl ?_
        refine z_gA T C li_X3_19 (sg_3 T) dX3_takeJoint_26 ?_
        refine z_aload_n C 0 dX3_takeJoint_29 rfl ?_
        refine z_gIv (v := gI σ 404 0 0) C li_X3_45 (sg_3 T) rfl dX3_takeJoint_30 ?_
        obtain ⟨hb38, h⟩ := wpO_ck.mp h
        refine z_bav (v := gI σ 402 0 ((gI σ 404 0 0).toNat)) C ar_402 (sg_402 T) (hI32 404 0 _) hb38 rfl dX3_takeJoint_33 ?_
        refine z_if_eq C 41 (hI32 402 0 _) dX3_takeJoint_34 (by decide) (fun q39 => ?_) (fun q39 => ?_)
        · have h := (wpO_ite.mp h).1 q39
          refine z_iconst C dX3_takeJoint_41 ?_
          refine z_sub [0] rfl ?_
          exact J42 0 σ (by decide) rfl h
        · have h := (wpO_ite.mp h).2 q39
          refine z_sub [0] rfl ?_
          exact J37 σ rfl h
noncomputable def fX3_take_j29 (x1 : Int) (σ1 : St) : Option (Int × St) :=
  bnd (fX3_endNumber σ1) (fun _ σ5 => if x1 = 32 then (some (1, σ5)) else (if gI σ5 405 0 0 = 0 then (bnd (fX3_takeOne x1 σ5) (fun r12 σ14 => some (r12, σ14))) else (if gI σ5 405 0 0 = 1 then (bnd (fX3_takeSign x1 σ5) (fun r20 σ22 => some (r20, σ22))) else (if gI σ5 405 0 0 = 2 then (bnk (fX3_isDigit x1) (fun r28 => if r28 = 0 then (some (0, σ5)) else (bnd (fX3_takeDigit x1 σ5) (fun r31 σ33 => if r31 = 0 then (some (0, σ33)) else (some (1, σ33)))))) else (bnd (fX3_takeJoint x1 σ5) (fun r39 σ41 => some (r39, σ41)))))))
noncomputable def fX3_take (x1 : Int) (σ : St) : Option (Int × St) :=
  if gI σ 405 0 0 = 3 then (bnk (fX3_isDigit x1) (fun r49 => if r49 = 0 then (fX3_take_j29 x1 σ) else (if 4 ≤ gI σ 409 0 0 then (fX3_take_j29 x1 σ) else (bnd (fX3_takeDigit x1 σ) (fun r53 σ55 => some (r53, σ55)))))) else (fX3_take_j29 x1 σ)
set_option maxRecDepth 20000 in
set_option maxHeartbeats 4000000 in
theorem ct_X3_take (x1 : Int) (hx1 : inr x1) : Ct yX3_take cX3_take 2 (some .boolean) 2 (fun ad => [vo ad 3 (some 0), vi x1]) (fX3_take x1) enI okB (fun _ => True) := by
  refine Ct.of (by decide) (fun ad => Nat.le_of_ble_eq_true rfl) ?_
  intro κ ad σ X C T hpre h
  have C : Cx κ RX3 cX3_take 2 (some .boolean) 2 := C
  unfold fX3_take at h
  have J29 : ∀ (x1 : Int) (σ1 : St), inr x1 → σ1.2.2.2 = σ.2.2.2 → wpO (fX3_take_j29 x1 σ1) (fun q => X q.1 q.2) → Z κ (0, 0) (Qm κ ad σ enI okB X) 29 [(0, vo ad 3 (some 0)), (1, vi x1)] [] ad σ1 := by
    intro x1 σ1 hx1 eN1 h
    unfold fX3_take_j29 at h
    refine z_rng (fun hI1 hJ2 => ?_)
    refine z_aload_n C 0 dX3_take_29 rfl ?_
    refine z_cV (st := []) T C ct_X3_endNumber lm_X3_63 lv_vX3_endNumber dX3_take_30 [] rfl rfl rfl rfl rfl (sg_3 T) trivial (by decide) (Nat.le_of_ble_eq_true rfl) csOK_0 h (fun r3 σ5 hr4 eN6 h => ?_)
    have eN7 := eN6.trans eN1
    show Z κ (0, 0) _ 33 _ [] ad σ5
    refine z_rng (fun hI8 hJ9 => ?_)
    refine z_iload_n C 1 dX3_take_33 rfl ?_
    refine z_bipush C dX3_take_34 (by decide) ?_
    refine z_icmp_ne C 41 hx1 (by decide) dX3_take_36 (by decide) (fun q10 => ?_) (fun q10 => ?_)
    · have h := (wpO_ite.mp h).2 q10
      refine z_aload_n C 0 dX3_take_41 rfl ?_
      refine z_gIv (v := gI σ5 405 0 0) C li_X3_66 (sg_3 T) rfl dX3_take_42 ?_
      by_cases q11 : gI σ5 405 0 0 = 0
      · have h := (wpO_ite.mp h).1 q11
        refine z_tableIn (off := 27) C 72 (hI8 405 0 _) dX3_take_45 (by omega) (by omega) (by rw [q11]; rfl) (by decide) ?_
        refine z_aload_n C 0 dX3_take_72 rfl ?_
        refine z_iload_n C 1 dX3_take_73 rfl ?_
        refine z_cV (st := []) T C (ct_X3_takeOne x1 hx1) lm_X3_78 lv_vX3_takeOne dX3_take_74 [vi x1] rfl rfl rfl rfl rfl (sg_3 T) trivial (by decide) (Nat.le_of_ble_eq_true rfl) csOK_0 h (fun r12 σ14 hr13 eN15 h => ?_)
        have eN16 := eN15.trans eN7
        show Z κ (0, 0) _ 77 _ [vi r12] ad σ14
        refine z_rng (fun hI17 hJ18 => ?_)
        have h := wpO_some.mp h
        exact z_breturn T C dX3_take_77 hr13 eN16 h
      have h := (wpO_ite.mp h).2 q11
      by_cases q19 : gI σ5 405 0 0 = 1
      · have h := (wpO_ite.mp h).1 q19
        refine z_tableIn (off := 33) C 78 (hI8 405 0 _) dX3_take_45 (by omega) (by omega) (by rw [q19]; rfl) (by decide) ?_
        refine z_aload_n C 0 dX3_take_78 rfl ?_
        refine z_iload_n C 1 dX3_take_79 rfl ?_
        refine z_cV (st := []) T C (ct_X3_takeSign x1 hx1) lm_X3_81 lv_vX3_takeSign dX3_take_80 [vi x1] rfl rfl rfl rfl rfl (sg_3 T) trivial (by decide) (Nat.le_of_ble_eq_true rfl) csOK_0 h (fun r20 σ22 hr21 eN23 h => ?_)
        have eN24 := eN23.trans eN7
        show Z κ (0, 0) _ 83 _ [vi r20] ad σ22
        refine z_rng (fun hI25 hJ26 => ?_)
        have h := wpO_some.mp h
        exact z_breturn T C dX3_take_83 hr21 eN24 h
      have h := (wpO_ite.mp h).2 q19
      by_cases q27 : gI σ5 405 0 0 = 2
      · have h := (wpO_ite.mp h).1 q27
        refine z_tableIn (off := 39) C 84 (hI8 405 0 _) dX3_take_45 (by omega) (by omega) (by rw [q27]; rfl) (by decide) ?_
        refine z_iload_n C 1 dX3_take_84 rfl ?_
        refine z_cSp (st := []) T C (ct_X3_isDigit x1 hx1) lm_X3_69 ls_X3_isDigit dX3_take_85 rfl rfl trivial (by decide) (Nat.le_of_ble_eq_true rfl) csOK_0 h (fun r28 hr29 h => ?_)
        show Z κ (0, 0) _ 88 _ [vi r28] ad σ5
        refine z_if_eq C 103 (inr_b hr29) dX3_take_88 (by decide) (fun q30 => ?_) (fun q30 => ?_)
        · have h := (wpO_ite.mp h).1 q30
          refine z_iconst C dX3_take_103 ?_
          have h := wpO_some.mp h
          exact z_breturn T C dX3_take_104 (by decide) eN7 h
        · have h := (wpO_ite.mp h).2 q30
          refine z_aload_n C 0 dX3_take_91 rfl ?_
          refine z_iload_n C 1 dX3_take_92 rfl ?_
          refine z_cV (st := []) T C (ct_X3_takeDigit x1 hx1) lm_X3_75 lv_vX3_takeDigit dX3_take_93 [vi x1] rfl rfl rfl rfl rfl (sg_3 T) trivial (by decide) (Nat.le_of_ble_eq_true rfl) csOK_0 h (fun r31 σ33 hr32 eN34 h => ?_)
          have eN35 := eN34.trans eN7
          show Z κ (0, 0) _ 96 _ [vi r31] ad σ33
          refine z_rng (fun hI36 hJ37 => ?_)
          refine z_if_eq C 103 (inr_b hr32) dX3_take_96 (by decide) (fun q38 => ?_) (fun q38 => ?_)
          · have h := (wpO_ite.mp h).1 q38
            refine z_iconst C dX3_take_103 ?_
            have h := wpO_some.mp h
            exact z_breturn T C dX3_take_104 (by decide) eN35 h
          · have h := (wpO_ite.mp h).2 q38
            refine z_iconst C dX3_take_99 ?_
            refine z_goto C 104 dX3_take_100 (by decide) ?_
            have h := wpO_some.mp h
            exact z_breturn T C dX3_take_104 (by decide) eN35 h
      have h := (wpO_ite.mp h).2 q27
      refine z_tableOut C 105 (hI8 405 0 _) dX3_take_45 (by omega) (by decide) ?_
      refine z_aload_n C 0 dX3_take_105 rfl ?_
      refine z_iload_n C 1 dX3_take_106 rfl ?_
      refine z_cV (st := []) T C (ct_X3_takeJoint x1 hx1) lm_X3_84 lv_vX3_takeJoint dX3_take_107 [vi x1] rfl rfl rfl rfl rfl (sg_3 T) trivial (by decide) (Nat.le_of_ble_eq_true rfl) csOK_0 h (fun r39 σ41 hr40 eN42 h => ?_)
      have eN43 := eN42.trans eN7
      show Z κ (0, 0) _ 110 _ [vi r39] ad σ41
      refine z_rng (fun hI44 hJ45 => ?_)
      have h := wpO_some.mp h
      exact z_breturn T C dX3_take_110 hr40 eN43 h
    · have h := (wpO_ite.mp h).1 q10
      refine z_iconst C dX3_take_39 ?_
      have h := wpO_some.mp h
      exact z_breturn T C dX3_take_40 (by decide) eN7 h
  show Z κ (0, 0) (Qm κ ad σ enI okB X) 0 [(0, vo ad 3 (some 0)), (1, vi x1)] [] ad σ
  refine z_rng (fun hI46 hJ47 => ?_)
  refine z_aload_n C 0 dX3_take_0 rfl ?_
  refine z_gIv (v := gI σ 405 0 0) C li_X3_66 (sg_3 T) rfl dX3_take_1 ?_
  refine z_iconst C dX3_take_4 ?_
  refine z_icmp_ne C 29 (hI46 405 0 _) (by decide) dX3_take_5 (by decide) (fun q48 => ?_) (fun q48 => ?_)
  · have h := (wpO_ite.mp h).2 q48
    exact J29 x1 σ hx1 rfl h
  · have h := (wpO_ite.mp h).1 q48
    refine z_iload_n C 1 dX3_take_8 rfl ?_
    refine z_cSp (st := []) T C (ct_X3_isDigit x1 hx1) lm_X3_69 ls_X3_isDigit dX3_take_9 rfl rfl trivial (by decide) (Nat.le_of_ble_eq_true rfl) csOK_0 h (fun r49 hr50 h => ?_)
    show Z κ (0, 0) _ 12 _ [vi r49] ad σ
    refine z_if_eq C 29 (inr_b hr50) dX3_take_12 (by decide) (fun q51 => ?_) (fun q51 => ?_)
    · have h := (wpO_ite.mp h).1 q51
      exact J29 x1 σ hx1 rfl h
    · have h := (wpO_ite.mp h).2 q51
      refine z_aload_n C 0 dX3_take_15 rfl ?_
      refine z_gIv (v := gI σ 409 0 0) C li_X3_72 (sg_3 T) rfl dX3_take_16 ?_
      refine z_iconst C dX3_take_19 ?_
      refine z_icmp_ge C 29 (hI46 409 0 _) (by decide) dX3_take_20 (by decide) (fun q52 => ?_) (fun q52 => ?_)
      · have h := (wpO_ite.mp h).1 q52
        exact J29 x1 σ hx1 rfl h
      · have h := (wpO_ite.mp h).2 q52
        refine z_aload_n C 0 dX3_take_23 rfl ?_
        refine z_iload_n C 1 dX3_take_24 rfl ?_
        refine z_cV (st := []) T C (ct_X3_takeDigit x1 hx1) lm_X3_75 lv_vX3_takeDigit dX3_take_25 [vi x1] rfl rfl rfl rfl rfl (sg_3 T) trivial (by decide) (Nat.le_of_ble_eq_true rfl) csOK_0 h (fun r53 σ55 hr54 eN56 h => ?_)
        show Z κ (0, 0) _ 28 _ [vi r53] ad σ55
        refine z_rng (fun hI57 hJ58 => ?_)
        have h := wpO_some.mp h
        exact z_breturn T C dX3_take_28 hr54 eN56 h
noncomputable def fX3_read_j40 (x1 : Nat) (σ1 : St) : Option (Int × St) :=
  bnd (fX3_endNumber σ1) (fun _ σ5 => if gI σ5 405 0 0 = 4 then (if gI σ5 404 0 0 = 0 then (some ((-9), σ5)) else (some (gI σ5 703 x1 0, σ5))) else (some (gI σ5 703 x1 0, σ5)))
noncomputable def fX3_read_j32 (x2 : Int) (σ1 : St) : Option (Int × St) :=
  some (x2, σ1)
noncomputable def fX3_read_l11 (x1 : Nat) (x2 : Int) (σ1 : St) : Option ((Int × St) ⊕ ((Int × St) ⊕ St)) :=
  if gI σ1 703 x1 0 ≤ x2 then (some (.inr (.inr (σ1)))) else (ck (0 ≤ x2 ∧ x2 < 80) (bnd (fX3_take (gI σ1 702 x1 x2.toNat) σ1) (fun r18 σ20 => if r18 = 0 then (some (.inr (.inl ((x2, σ20))))) else (ck (inr (x2 + 1)) (some (.inl ((x2 + 1, σ20))))))))
noncomputable def fX3_read_j11 (x1 : Nat) (x2 : Int) (σ1 : St) : Option (Int × St) :=
  bnk (wh (fun s => fX3_read_l11 x1 s.1 s.2) ((x2, σ1))) (fun e => Sum.elim (fun a0 => fX3_read_j32 a0.1 a0.2) (fun b0 => fX3_read_j40 x1 b0) e)
noncomputable def fX3_read (x1 : Nat) (σ : St) : Option (Int × St) :=
  bnd (fX3_openLevel (sI σ 404 0 0 0)) (fun _ σ31 => fX3_read_j11 x1 0 σ31)
set_option maxRecDepth 20000 in
set_option maxHeartbeats 4000000 in
theorem ct_X3_read (x1 : Nat) : Ct yX3_read cX3_read 3 (some .int) 3 (fun ad => [vo ad 3 (some 0), vo ad 6 (some x1)]) (fX3_read x1) enI okI (fun σ => x1 < gN σ 6) := by
  refine Ct.of (by decide) (fun ad => Nat.le_of_ble_eq_true rfl) ?_
  intro κ ad σ X C T hpre h
  have C : Cx κ RX3 cX3_read 3 (some .int) 3 := C
  have hx1 : x1 < gN σ 6 := hpre
  unfold fX3_read at h
  have J40 : ∀ (x1 : Nat) (σ1 : St), x1 < gN σ 6 → σ1.2.2.2 = σ.2.2.2 → wpO (fX3_read_j40 x1 σ1) (fun q => X q.1 q.2) → Z κ (0, 0) (Qm κ ad σ enI okI X) 40 [(0, vo ad 3 (some 0)), (1, vo ad 6 (some x1))] [] ad σ1 := by
    intro x1 σ1 hx1 eN1 h
    unfold fX3_read_j40 at h
    refine z_rng (fun hI1 hJ2 => ?_)
    refine z_aload_n C 0 dX3_read_40 rfl ?_
    refine z_cV (st := []) T C ct_X3_endNumber lm_X3_63 lv_vX3_endNumber dX3_read_41 [] rfl rfl rfl rfl rfl (sg_3 T) trivial (by decide) (Nat.le_of_ble_eq_true rfl) csOK_0 h (fun r3 σ5 hr4 eN6 h => ?_)
    have eN7 := eN6.trans eN1
    show Z κ (0, 0) _ 44 _ [] ad σ5
    refine z_rng (fun hI8 hJ9 => ?_)
    refine z_aload_n C 0 dX3_read_44 rfl ?_
    refine z_gIv (v := gI σ5 405 0 0) C li_X3_66 (sg_3 T) rfl dX3_read_45 ?_
    refine z_iconst C dX3_read_48 ?_
    refine z_icmp_ne C 64 (hI8 405 0 _) (by decide) dX3_read_49 (by decide) (fun q10 => ?_) (fun q10 => ?_)
    · have h := (wpO_ite.mp h).2 q10
      refine z_aload_n C 1 dX3_read_64 rfl ?_
      refine z_gIv (v := gI σ5 703 x1 0) C li_X3_51 (nN eN7 hx1) rfl dX3_read_65 ?_
      have h := wpO_some.mp h
      exact z_ireturn T C dX3_read_68 (hI8 703 x1 _) eN7 h
    · have h := (wpO_ite.mp h).1 q10
      refine z_aload_n C 0 dX3_read_52 rfl ?_
      refine z_gIv (v := gI σ5 404 0 0) C li_X3_45 (sg_3 T) rfl dX3_read_53 ?_
      refine z_if_ne C 64 (hI8 404 0 _) dX3_read_56 (by decide) (fun q11 => ?_) (fun q11 => ?_)
      · have h := (wpO_ite.mp h).2 q11
        refine z_aload_n C 1 dX3_read_64 rfl ?_
        refine z_gIv (v := gI σ5 703 x1 0) C li_X3_51 (nN eN7 hx1) rfl dX3_read_65 ?_
        have h := wpO_some.mp h
        exact z_ireturn T C dX3_read_68 (hI8 703 x1 _) eN7 h
      · have h := (wpO_ite.mp h).1 q11
        refine z_bipush C dX3_read_59 (by decide) ?_
        refine z_goto C 68 dX3_read_61 (by decide) ?_
        have h := wpO_some.mp h
        exact z_ireturn T C dX3_read_68 (by decide) eN7 h
  have J32 : ∀ (x2 : Int) (σ1 : St), inr x2 → σ1.2.2.2 = σ.2.2.2 → wpO (fX3_read_j32 x2 σ1) (fun q => X q.1 q.2) → Z κ (0, 0) (Qm κ ad σ enI okI X) 32 [(2, vi x2)] [] ad σ1 := by
    intro x2 σ1 hx2 eN1 h
    unfold fX3_read_j32 at h
    refine z_rng (fun hI12 hJ13 => ?_)
    refine z_iload_n C 0 dX3_read_32 rfl ?_
    have h := wpO_some.mp h
    exact z_ireturn T C dX3_read_33 hx2 eN1 h
  have J11 : ∀ (x1 : Nat) (x2 : Int) (σ1 : St), x1 < gN σ 6 → inr x2 → σ1.2.2.2 = σ.2.2.2 → wpO (fX3_read_j11 x1 x2 σ1) (fun q => X q.1 q.2) → Z κ (0, 0) (Qm κ ad σ enI okI X) 11 [(0, vo ad 3 (some 0)), (1, vo ad 6 (some x1)), (2, vi x2)] [] ad σ1 := by
    intro x1 x2 σ1 hx1 hx2 eN1 h
    unfold fX3_read_j11 at h
    have step : ∀ (P11 : (Int × St) → Prop) (Q11 : ((Int × St) ⊕ St) → Prop), (∀ (x2 : Int) (σ1 : St), P11 ((x2, σ1)) → inr x2 → σ1.2.2.2 = σ.2.2.2 → Z κ (0, 0) (Qm κ ad σ enI okI X) 11 [(0, vo ad 3 (some 0)), (1, vo ad 6 (some x1)), (2, vi x2)] [] ad σ1) → (∀ (x2 : Int) (σ1 : St), Q11 (.inl ((x2, σ1))) → inr x2 → σ1.2.2.2 = σ.2.2.2 → Z κ (0, 0) (Qm κ ad σ enI okI X) 32 [(2, vi x2)] [] ad σ1) → (∀ (σ1 : St), Q11 (.inr (σ1)) → σ1.2.2.2 = σ.2.2.2 → Z κ (0, 0) (Qm κ ad σ enI okI X) 40 [(0, vo ad 3 (some 0)), (1, vo ad 6 (some x1))] [] ad σ1) → ∀ (x2 : Int) (σ1 : St), inr x2 → σ1.2.2.2 = σ.2.2.2 → wpO (fX3_read_l11 x1 x2 σ1) (onS P11 Q11) → Z κ (0, 0) (Qm κ ad σ enI okI X) 11 [(0, vo ad 3 (some 0)), (1, vo ad 6 (some x1)), (2, vi x2)] [] ad σ1 := by
      intro P11 Q11 hP11 hE11_32 hE11_40 x2 σ1 hx2 eN1 h
      unfold fX3_read_l11 at h
      refine z_rng (fun hI14 hJ15 => ?_)
      refine z_iload_n C 2 dX3_read_11 rfl ?_
      refine z_aload_n C 1 dX3_read_12 rfl ?_
      refine z_gIv (v := gI σ1 703 x1 0) C li_X3_51 (nN eN1 hx1) rfl dX3_read_13 ?_
      refine z_icmp_ge C 40 hx2 (hI14 703 x1 _) dX3_read_16 (by decide) (fun q16 => ?_) (fun q16 => ?_)
      · have h := (wpO_ite.mp h).1 q16
        refine z_sub [0, 1] rfl ?_
        have h := wpO_some.mp h
        exact hE11_40 σ1 h eN1
      · have h := (wpO_ite.mp h).2 q16
        refine z_aload_n C 0 dX3_read_19 rfl ?_
        refine z_aload_n C 1 dX3_read_20 rfl ?_
        refine z_gA T C li_X3_56 (nN eN1 hx1) dX3_read_21 ?_
        refine z_iload_n C 2 dX3_read_24 rfl ?_
        obtain ⟨hb17, h⟩ := wpO_ck.mp h
        refine z_iav (v := gI σ1 702 x1 x2.toNat) C ar_702 (nN7 T eN1 hx1) hx2 hb17 rfl dX3_read_25 ?_
        refine z_cV (st := []) T C (ct_X3_take (gI σ1 702 x1 x2.toNat) (hI14 702 x1 _)) lm_X3_59 lv_vX3_take dX3_read_26 [vi (gI σ1 702 x1 x2.toNat)] rfl rfl rfl rfl rfl (sg_3 T) trivial (by decide) (Nat.le_of_ble_eq_true rfl) csOK_0 h (fun r18 σ20 hr19 eN21 h => ?_)
        have eN22 := eN21.trans eN1
        show Z κ (0, 0) _ 29 _ [vi r18] ad σ20
        refine z_rng (fun hI23 hJ24 => ?_)
        refine z_if_ne C 34 (inr_b hr19) dX3_read_29 (by decide) (fun q25 => ?_) (fun q25 => ?_)
        · have h := (wpO_ite.mp h).2 q25
          obtain ⟨hk26, h⟩ := wpO_ck.mp h
          refine z_iinc (lv2 := [(2, vi (x2 + 1)), (0, vo ad 3 (some 0)), (1, vo ad 6 (some x1))]) C 2 dX3_read_34 rfl (by decide) rfl ?_
          refine z_goto C 11 dX3_read_37 (by decide) ?_
          refine z_sub [1, 2, 0] rfl ?_
          have h := wpO_some.mp h
          exact hP11 (x2 + 1) σ20 h hk26 eN22
        · have h := (wpO_ite.mp h).1 q25
          refine z_sub [2] rfl ?_
          have h := wpO_some.mp h
          exact hE11_32 x2 σ20 h hx2 eN22
    exact wh_ind (P := fun s : (Int × St) => inr s.1 → s.2.2.2.2 = σ.2.2.2 → Z κ (0, 0) (Qm κ ad σ enI okI X) 11 [(0, vo ad 3 (some 0)), (1, vo ad 6 (some x1)), (2, vi s.1)] [] ad s.2) (fun s hs g0 g1 => step _ _ (fun _ _ hp => hp) (fun x2 σ1 hq hx2 eN1 => J32 x2 σ1 hx2 eN1 hq) (fun σ1 hq eN1 => J40 x1 σ1 hx1 eN1 hq) s.1 s.2 g0 g1 hs) ((x2, σ1)) (wpO_bnk.mp h) hx2 eN1
  show Z κ (0, 0) (Qm κ ad σ enI okI X) 0 [(0, vo ad 3 (some 0)), (1, vo ad 6 (some x1))] [] ad σ
  refine z_rng (fun hI27 hJ28 => ?_)
  refine z_aload_n C 0 dX3_read_0 rfl ?_
  refine z_iconst C dX3_read_1 ?_
  refine z_pI C lq_X3_45 (sg_3 T) (by decide) dX3_read_2 ?_
  refine z_aload_n C 0 dX3_read_5 rfl ?_
  refine z_cV (st := []) T C ct_X3_openLevel lm_X3_48 lv_vX3_openLevel dX3_read_6 [] rfl rfl rfl rfl rfl (sg_3 T) trivial (by decide) (Nat.le_of_ble_eq_true rfl) csOK_0 h (fun r29 σ31 hr30 eN32 h => ?_)
  show Z κ (0, 0) _ 9 _ [] ad σ31
  refine z_rng (fun hI33 hJ34 => ?_)
  refine z_iconst C dX3_read_9 ?_
  refine z_istore_n (lv2 := [(2, vi 0), (0, vo ad 3 (some 0)), (1, vo ad 6 (some x1))]) C dX3_read_10 (by decide) rfl ?_
  refine z_sub [1, 2, 0] rfl ?_
  exact J11 x1 0 σ31 hx1 (by decide) eN32 h
noncomputable def fX3_held (σ : St) : Option Int :=
  if gI σ 401 0 0 = 0 then (if gI σ 402 0 0 = 0 then (some 0) else (some 1)) else (some 1)
set_option maxRecDepth 20000 in
set_option maxHeartbeats 4000000 in
theorem ct_X3_held  : Ct yX3_held cX3_held 1 (some .boolean) 0 (fun ad => [vo ad 3 (some 0)]) (pu (fX3_held)) enI okB (fun _ => True) := by
  refine Ct.of (by decide) (fun ad => Nat.le_of_ble_eq_true rfl) ?_
  intro κ ad σ X C T hpre h
  have C : Cx κ RX3 cX3_held 1 (some .boolean) 0 := C
  have h := wpO_pu.mp h
  unfold fX3_held at h
  show Z κ (0, 0) (Qm κ ad σ enI okB X) 0 [(0, vo ad 3 (some 0))] [] ad σ
  refine z_rng (fun hI1 hJ2 => ?_)
  refine z_aload_n C 0 dX3_held_0 rfl ?_
  refine z_gA T C li_X3_15 (sg_3 T) dX3_held_1 ?_
  refine z_iconst C dX3_held_4 ?_
  refine z_bav (v := gI σ 401 0 0) C ar_401 (sg_401 T) (by decide) (by decide) rfl dX3_held_5 ?_
  refine z_if_ne C 18 (hI1 401 0 _) dX3_held_6 (by decide) (fun q3 => ?_) (fun q3 => ?_)
  · have h := (wpO_ite.mp h).2 q3
    refine z_iconst C dX3_held_18 ?_
    refine z_goto C 23 dX3_held_19 (by decide) ?_
    have h := wpO_some.mp h
    exact z_breturn T C dX3_held_23 (by decide) rfl h
  · have h := (wpO_ite.mp h).1 q3
    refine z_aload_n C 0 dX3_held_9 rfl ?_
    refine z_gA T C li_X3_19 (sg_3 T) dX3_held_10 ?_
    refine z_iconst C dX3_held_13 ?_
    refine z_bav (v := gI σ 402 0 0) C ar_402 (sg_402 T) (by decide) (by decide) rfl dX3_held_14 ?_
    refine z_if_eq C 22 (hI1 402 0 _) dX3_held_15 (by decide) (fun q4 => ?_) (fun q4 => ?_)
    · have h := (wpO_ite.mp h).1 q4
      refine z_iconst C dX3_held_22 ?_
      have h := wpO_some.mp h
      exact z_breturn T C dX3_held_23 (by decide) rfl h
    · have h := (wpO_ite.mp h).2 q4
      refine z_iconst C dX3_held_18 ?_
      refine z_goto C 23 dX3_held_19 (by decide) ?_
      have h := wpO_some.mp h
      exact z_breturn T C dX3_held_23 (by decide) rfl h
noncomputable def fX11_firstBar_j89 (σ1 : St) : Option (Int × St) :=
  some ((-9), σ1)
noncomputable def fX11_firstBar_j80 (x4 : Int) (σ1 : St) : Option (Int × St) :=
  some (x4, σ1)
noncomputable def fX11_firstBar_j83 (x3 : Int) (x4 : Int) (σ1 : St) : Option ((Int × St) ⊕ ((Int × St) ⊕ St)) :=
  ck (inr (x4 + 1)) (some (.inl ((x4 + 1, σ1))))
noncomputable def fX11_firstBar_l28 (x3 : Int) (x4 : Int) (σ1 : St) : Option ((Int × St) ⊕ ((Int × St) ⊕ St)) :=
  if gI σ1 1210 0 0 ≤ x4 then (some (.inr (.inr (σ1)))) else (ck (0 ≤ x4 ∧ x4 < 6) (lt (gP σ1 1209 0 x4.toNat) (fun r12 => mop r12 (fun j14 => ck (j14 < gN σ1 6) (bnk (fX6_isInForce j14 x3 σ1) (fun r17 => if r17 = 0 then (fX11_firstBar_j83 x3 x4 σ1) else (ck (0 ≤ x4 ∧ x4 < 6) (lt (gP σ1 1209 0 x4.toNat) (fun r21 => mop r21 (fun j23 => ck (j23 < gN σ1 6) (bnd (fX3_read j23 σ1) (fun r26 σ28 => if r26 = (-9) then (bnk (fX3_held σ28) (fun r34 => if r34 = 0 then (fX11_firstBar_j83 x3 x4 σ28) else (some (.inr (.inl ((x4, σ28))))))) else (fX11_firstBar_j83 x3 x4 σ28)))) none)))))) none)))
noncomputable def fX11_firstBar_j28 (x3 : Int) (x4 : Int) (σ1 : St) : Option (Int × St) :=
  bnk (wh (fun s => fX11_firstBar_l28 x3 s.1 s.2) ((x4, σ1))) (fun e => Sum.elim (fun a0 => fX11_firstBar_j80 a0.1 a0.2) (fun b0 => fX11_firstBar_j89 b0) e)
noncomputable def fX11_firstBar (x1 : Nat) (x2 : Int) (x3 : Int) (σ : St) : Option (Int × St) :=
  bnk (fX8_oldOnes x1 (gI σ 1207 0 0) σ) (fun r39 => bnk (fX8_falseOnes x1 σ) (fun r41 => bnd (fX3_look x1 x2 r39 r41 σ) (fun _ σ45 => fX11_firstBar_j28 x3 0 σ45)))
set_option maxRecDepth 20000 in
set_option maxHeartbeats 4000000 in
theorem ct_X11_firstBar (x1 : Nat) (x2 : Int) (x3 : Int) (hx2 : inr x2) (hx3 : inr x3) : Ct yX11_firstBar cX11_firstBar 5 (some .int) 4 (fun ad => [vo ad 11 (some 0), vo ad 8 (some x1), vi x2, vi x3]) (fX11_firstBar x1 x2 x3) enI okI (fun σ => x1 < gN σ 8) := by
  refine Ct.of (by decide) (fun ad => Nat.le_of_ble_eq_true rfl) ?_
  intro κ ad σ X C T hpre h
  have C : Cx κ RX11 cX11_firstBar 5 (some .int) 4 := C
  have hx1 : x1 < gN σ 8 := hpre
  unfold fX11_firstBar at h
  have J89 : ∀ (σ1 : St), σ1.2.2.2 = σ.2.2.2 → wpO (fX11_firstBar_j89 σ1) (fun q => X q.1 q.2) → Z κ (0, 0) (Qm κ ad σ enI okI X) 89 [] [] ad σ1 := by
    intro σ1 eN1 h
    unfold fX11_firstBar_j89 at h
    refine z_rng (fun hI1 hJ2 => ?_)
    refine z_bipush C dX11_firstBar_89 (by decide) ?_
    have h := wpO_some.mp h
    exact z_ireturn T C dX11_firstBar_91 (by decide) eN1 h
  have J80 : ∀ (x4 : Int) (σ1 : St), inr x4 → σ1.2.2.2 = σ.2.2.2 → wpO (fX11_firstBar_j80 x4 σ1) (fun q => X q.1 q.2) → Z κ (0, 0) (Qm κ ad σ enI okI X) 80 [(4, vi x4)] [] ad σ1 := by
    intro x4 σ1 hx4 eN1 h
    unfold fX11_firstBar_j80 at h
    refine z_rng (fun hI3 hJ4 => ?_)
    refine z_iload C 0 dX11_firstBar_80 rfl ?_
    have h := wpO_some.mp h
    exact z_ireturn T C dX11_firstBar_82 hx4 eN1 h
  have J28 : ∀ (x3 : Int) (x4 : Int) (σ1 : St), inr x3 → inr x4 → σ1.2.2.2 = σ.2.2.2 → wpO (fX11_firstBar_j28 x3 x4 σ1) (fun q => X q.1 q.2) → Z κ (0, 0) (Qm κ ad σ enI okI X) 28 [(0, vo ad 11 (some 0)), (3, vi x3), (4, vi x4)] [] ad σ1 := by
    intro x3 x4 σ1 hx3 hx4 eN1 h
    unfold fX11_firstBar_j28 at h
    have step : ∀ (P28 : (Int × St) → Prop) (Q28 : ((Int × St) ⊕ St) → Prop), (∀ (x4 : Int) (σ1 : St), P28 ((x4, σ1)) → inr x4 → σ1.2.2.2 = σ.2.2.2 → Z κ (0, 0) (Qm κ ad σ enI okI X) 28 [(0, vo ad 11 (some 0)), (3, vi x3), (4, vi x4)] [] ad σ1) → (∀ (x4 : Int) (σ1 : St), Q28 (.inl ((x4, σ1))) → inr x4 → σ1.2.2.2 = σ.2.2.2 → Z κ (0, 0) (Qm κ ad σ enI okI X) 80 [(4, vi x4)] [] ad σ1) → (∀ (σ1 : St), Q28 (.inr (σ1)) → σ1.2.2.2 = σ.2.2.2 → Z κ (0, 0) (Qm κ ad σ enI okI X) 89 [] [] ad σ1) → ∀ (x4 : Int) (σ1 : St), inr x4 → σ1.2.2.2 = σ.2.2.2 → wpO (fX11_firstBar_l28 x3 x4 σ1) (onS P28 Q28) → Z κ (0, 0) (Qm κ ad σ enI okI X) 28 [(0, vo ad 11 (some 0)), (3, vi x3), (4, vi x4)] [] ad σ1 := by
      intro P28 Q28 hP28 hE28_80 hE28_89 x4 σ1 hx4 eN1 h
      unfold fX11_firstBar_l28 at h
      have J83 : ∀ (x4 : Int) (σ1 : St), inr x4 → σ1.2.2.2 = σ.2.2.2 → wpO (fX11_firstBar_j83 x3 x4 σ1) (onS P28 Q28) → Z κ (0, 0) (Qm κ ad σ enI okI X) 83 [(0, vo ad 11 (some 0)), (3, vi x3), (4, vi x4)] [] ad σ1 := by
        intro x4 σ1 hx4 eN1 h
        unfold fX11_firstBar_j83 at h
        refine z_rng (fun hI5 hJ6 => ?_)
        obtain ⟨hk7, h⟩ := wpO_ck.mp h
        refine z_iinc (lv2 := [(4, vi (x4 + 1)), (0, vo ad 11 (some 0)), (3, vi x3)]) C 2 dX11_firstBar_83 rfl (by decide) rfl ?_
        refine z_goto C 28 dX11_firstBar_86 (by decide) ?_
        refine z_sub [1, 2, 0] rfl ?_
        have h := wpO_some.mp h
        exact hP28 (x4 + 1) σ1 h hk7 eN1
      refine z_rng (fun hI8 hJ9 => ?_)
      refine z_iload C 2 dX11_firstBar_28 rfl ?_
      refine z_aload_n C 0 dX11_firstBar_30 rfl ?_
      refine z_gIv (v := gI σ1 1210 0 0) C li_X11_260 (sg_11 T) rfl dX11_firstBar_31 ?_
      refine z_icmp_ge C 89 hx4 (hI8 1210 0 _) dX11_firstBar_34 (by decide) (fun q10 => ?_) (fun q10 => ?_)
      · have h := (wpO_ite.mp h).1 q10
        refine z_sub [] rfl ?_
        have h := wpO_some.mp h
        exact hE28_89 σ1 h eN1
      · have h := (wpO_ite.mp h).2 q10
        refine z_aload_n C 0 dX11_firstBar_37 rfl ?_
        refine z_gA T C li_X11_45 (sg_11 T) dX11_firstBar_38 ?_
        refine z_iload C 2 dX11_firstBar_41 rfl ?_
        obtain ⟨hb11, h⟩ := wpO_ck.mp h
        refine z_aald (K := 6) (t0 := 6) C ar_1209 (fun _ => rfl) (sg_1209 T) hx4 hb11 dX11_firstBar_43 (fun r12 hr13 => ?_)
        have h := lt_elim h r12 hr13
        refine z_iload_n C 1 dX11_firstBar_44 rfl ?_
        obtain ⟨j14, hr15, h⟩ := mop_none h
        subst hr15
        obtain ⟨hj16, h⟩ := wpO_ck.mp h
        refine z_cVp (st := []) T C (ct_X6_isInForce j14 x3 hx3) lm_X11_392 lv_vX6_isInForce dX11_firstBar_45 [vi x3] rfl rfl rfl rfl rfl (nN eN1 (toN eN1 hj16)) (nNl eN1 (toN eN1 hj16)) (by decide) (Nat.le_of_ble_eq_true rfl) csOK_0 h (fun r17 hr18 h => ?_)
        show Z κ (0, 0) _ 48 _ [vi r17] ad σ1
        refine z_if_eq C 83 (inr_b hr18) dX11_firstBar_48 (by decide) (fun q19 => ?_) (fun q19 => ?_)
        · have h := (wpO_ite.mp h).1 q19
          exact J83 x4 σ1 hx4 eN1 h
        · have h := (wpO_ite.mp h).2 q19
          refine z_aload_n C 0 dX11_firstBar_51 rfl ?_
          refine z_gR T C li_X11_52 (sg_11 T) dX11_firstBar_52 ?_
          refine z_aload_n C 0 dX11_firstBar_55 rfl ?_
          refine z_gA T C li_X11_45 (sg_11 T) dX11_firstBar_56 ?_
          refine z_iload C 2 dX11_firstBar_59 rfl ?_
          obtain ⟨hb20, h⟩ := wpO_ck.mp h
          refine z_aald (K := 6) (t0 := 6) C ar_1209 (fun _ => rfl) (sg_1209 T) hx4 hb20 dX11_firstBar_61 (fun r21 hr22 => ?_)
          have h := lt_elim h r21 hr22
          obtain ⟨j23, hr24, h⟩ := mop_none h
          subst hr24
          obtain ⟨hj25, h⟩ := wpO_ck.mp h
          refine z_cV (st := []) T C (ct_X3_read j23) lm_X11_272 lv_vX3_read dX11_firstBar_62 [vo ad 6 (some j23)] rfl rfl rfl rfl rfl (sg_3 T) (nNl eN1 (toN eN1 hj25)) (by decide) (Nat.le_of_ble_eq_true rfl) csOK_0 h (fun r26 σ28 hr27 eN29 h => ?_)
          have eN30 := eN29.trans eN1
          show Z κ (0, 0) _ 65 _ [vi r26] ad σ28
          refine z_rng (fun hI31 hJ32 => ?_)
          refine z_bipush C dX11_firstBar_65 (by decide) ?_
          refine z_icmp_ne C 83 hr27 (by decide) dX11_firstBar_67 (by decide) (fun q33 => ?_) (fun q33 => ?_)
          · have h := (wpO_ite.mp h).2 q33
            exact J83 x4 σ28 hx4 eN30 h
          · have h := (wpO_ite.mp h).1 q33
            refine z_aload_n C 0 dX11_firstBar_70 rfl ?_
            refine z_gR T C li_X11_52 (sg_11 T) dX11_firstBar_71 ?_
            refine z_cVp (st := []) T C ct_X3_held lm_X11_395 lv_vX3_held dX11_firstBar_74 [] rfl rfl rfl rfl rfl (sg_3 T) trivial (by decide) (Nat.le_of_ble_eq_true rfl) csOK_0 h (fun r34 hr35 h => ?_)
            show Z κ (0, 0) _ 77 _ [vi r34] ad σ28
            refine z_if_eq C 83 (inr_b hr35) dX11_firstBar_77 (by decide) (fun q36 => ?_) (fun q36 => ?_)
            · have h := (wpO_ite.mp h).1 q36
              exact J83 x4 σ28 hx4 eN30 h
            · have h := (wpO_ite.mp h).2 q36
              refine z_sub [2] rfl ?_
              have h := wpO_some.mp h
              exact hE28_80 x4 σ28 h hx4 eN30
    exact wh_ind (P := fun s : (Int × St) => inr s.1 → s.2.2.2.2 = σ.2.2.2 → Z κ (0, 0) (Qm κ ad σ enI okI X) 28 [(0, vo ad 11 (some 0)), (3, vi x3), (4, vi s.1)] [] ad s.2) (fun s hs g0 g1 => step _ _ (fun _ _ hp => hp) (fun x4 σ1 hq hx4 eN1 => J80 x4 σ1 hx4 eN1 hq) (fun σ1 hq eN1 => J89 σ1 eN1 hq) s.1 s.2 g0 g1 hs) ((x4, σ1)) (wpO_bnk.mp h) hx4 eN1
  show Z κ (0, 0) (Qm κ ad σ enI okI X) 0 [(0, vo ad 11 (some 0)), (1, vo ad 8 (some x1)), (2, vi x2), (3, vi x3)] [] ad σ
  refine z_rng (fun hI37 hJ38 => ?_)
  refine z_aload_n C 0 dX11_firstBar_0 rfl ?_
  refine z_gR T C li_X11_52 (sg_11 T) dX11_firstBar_1 ?_
  refine z_aload_n C 1 dX11_firstBar_4 rfl ?_
  refine z_iload_n C 2 dX11_firstBar_5 rfl ?_
  refine z_aload_n C 1 dX11_firstBar_6 rfl ?_
  refine z_aload_n C 0 dX11_firstBar_7 rfl ?_
  refine z_gIv (v := gI σ 1207 0 0) C li_X11_35 (sg_11 T) rfl dX11_firstBar_8 ?_
  refine z_cVp (st := [vi x2, vo ad 8 (some x1), vo ad 3 (some 0)]) T C (ct_X8_oldOnes x1 (gI σ 1207 0 0) (hI37 1207 0 _)) lm_X11_240 lv_vX8_oldOnes dX11_firstBar_11 [vi (gI σ 1207 0 0)] rfl rfl rfl rfl rfl (nN rfl hx1) (nNl rfl hx1) (by decide) (Nat.le_of_ble_eq_true rfl) csOK_0 h (fun r39 hr40 h => ?_)
  show Z κ (0, 0) _ 14 _ [vi r39, vi x2, vo ad 8 (some x1), vo ad 3 (some 0)] ad σ
  refine z_aload_n C 1 dX11_firstBar_14 rfl ?_
  refine z_aload_n C 0 dX11_firstBar_15 rfl ?_
  refine z_gR T C li_X11_19 (sg_11 T) dX11_firstBar_16 ?_
  refine z_cVp (st := [vi r39, vi x2, vo ad 8 (some x1), vo ad 3 (some 0)]) T C (ct_X8_falseOnes x1) lm_X11_243 lv_vX8_falseOnes dX11_firstBar_19 [vo ad 1 (some 0)] rfl rfl rfl rfl rfl (nN rfl hx1) (nNl rfl hx1) (by decide) (Nat.le_of_ble_eq_true rfl) csOK_0 h (fun r41 hr42 h => ?_)
  show Z κ (0, 0) _ 22 _ [vi r41, vi r39, vi x2, vo ad 8 (some x1), vo ad 3 (some 0)] ad σ
  refine z_cV (st := []) T C (ct_X3_look x1 x2 r39 r41 hx2 hr40 hr42) lm_X11_388 lv_vX3_look dX11_firstBar_22 [vo ad 8 (some x1), vi x2, vi r39, vi r41] rfl rfl rfl rfl rfl (sg_3 T) (nNl rfl hx1) (by decide) (Nat.le_of_ble_eq_true rfl) csOK_0 h (fun r43 σ45 hr44 eN46 h => ?_)
  show Z κ (0, 0) _ 25 _ [] ad σ45
  refine z_rng (fun hI47 hJ48 => ?_)
  refine z_iconst C dX11_firstBar_25 ?_
  refine z_istore (lv2 := [(4, vi 0), (0, vo ad 11 (some 0)), (1, vo ad 8 (some x1)), (2, vi x2), (3, vi x3)]) C dX11_firstBar_26 (by decide) rfl ?_
  refine z_sub [1, 4, 0] rfl ?_
  exact J28 x3 0 σ45 hx3 (by decide) eN46 h
noncomputable def fX11_asNumber (x0 : Int) : Option Int :=
  if x0 = 0 then (some 0) else (some 1)
set_option maxRecDepth 20000 in
set_option maxHeartbeats 4000000 in
theorem ct_X11_asNumber (x0 : Int) (hx0 : x0 = 0 ∨ x0 = 1) : Ct yX11_asNumber cX11_asNumber 1 (some .int) 0 (fun ad => [vi x0]) (pu (fun _ => fX11_asNumber x0)) enI okI (fun _ => True) := by
  refine Ct.of (by decide) (fun ad => Nat.le_of_ble_eq_true rfl) ?_
  intro κ ad σ X C T hpre h
  have C : Cx κ RX11 cX11_asNumber 1 (some .int) 0 := C
  have h := wpO_pu.mp h
  unfold fX11_asNumber at h
  show Z κ (0, 0) (Qm κ ad σ enI okI X) 0 [(0, vi x0)] [] ad σ
  refine z_iload_n C 0 dX11_asNumber_0 rfl ?_
  refine z_if_eq C 8 (inr_b hx0) dX11_asNumber_1 (by decide) (fun q1 => ?_) (fun q1 => ?_)
  · have h := (wpO_ite.mp h).1 q1
    refine z_iconst C dX11_asNumber_8 ?_
    have h := wpO_some.mp h
    exact z_ireturn T C dX11_asNumber_9 (by decide) rfl h
  · have h := (wpO_ite.mp h).2 q1
    refine z_iconst C dX11_asNumber_4 ?_
    refine z_goto C 9 dX11_asNumber_5 (by decide) ?_
    have h := wpO_some.mp h
    exact z_ireturn T C dX11_asNumber_9 (by decide) rfl h
noncomputable def fX11_allowed_j63 (s0 : Int) (σ1 : St) : Option (Int × St) :=
  ck (s0 = 0 ∨ s0 = 1) (bnk (fX11_asNumber s0) (fun r4 => some (r4, σ1)))
noncomputable def fX11_allowed_j62 (σ1 : St) : Option (Int × St) :=
  fX11_allowed_j63 0 σ1
noncomputable def fX11_allowed (x1 : Int) (x2 : Int) (x3 : Int) (σ : St) : Option (Int × St) :=
  bnk (fX11_storyNumbered x1 σ) (fun r10 => mop r10 (fun j12 => ck (j12 < gN σ 8) (bnk (fX11_isLand x2) (fun r15 => if r15 = 0 then (some ((-1), σ)) else (bnk (fX11_isDay x3) (fun r18 => if r18 = 0 then (some ((-2), σ)) else (bnk (fX11_isLicensed (gI σ 900 j12 0) x2 x3 σ) (fun r21 => if r21 = 0 then (fX11_allowed_j62 σ) else (bnd (fX11_firstBar j12 x2 x3 σ) (fun r24 σ26 => if r24 = (-9) then (fX11_allowed_j63 1 σ26) else (fX11_allowed_j62 σ26)))))))))) (some ((-1), σ)))
set_option maxRecDepth 20000 in
set_option maxHeartbeats 4000000 in
theorem ct_X11_allowed (x1 : Int) (x2 : Int) (x3 : Int) (hx1 : inr x1) (hx2 : inr x2) (hx3 : inr x3) : Ct yX11_allowed cX11_allowed 5 (some .int) 5 (fun ad => [vo ad 11 (some 0), vi x1, vi x2, vi x3]) (fX11_allowed x1 x2 x3) enI okI (fun _ => True) := by
  refine Ct.of (by decide) (fun ad => Nat.le_of_ble_eq_true rfl) ?_
  intro κ ad σ X C T hpre h
  have C : Cx κ RX11 cX11_allowed 5 (some .int) 5 := C
  unfold fX11_allowed at h
  have J63 : ∀ (s0 : Int) (σ1 : St), inr s0 → σ1.2.2.2 = σ.2.2.2 → wpO (fX11_allowed_j63 s0 σ1) (fun q => X q.1 q.2) → Z κ (0, 0) (Qm κ ad σ enI okI X) 63 [] [vi s0] ad σ1 := by
    intro s0 σ1 hs0 eN1 h
    unfold fX11_allowed_j63 at h
    refine z_rng (fun hI1 hJ2 => ?_)
    obtain ⟨hb3, h⟩ := wpO_ck.mp h
    refine z_cSp (st := []) T C (ct_X11_asNumber s0 hb3) lm_X11_223 ls_X11_asNumber dX11_allowed_63 rfl rfl trivial (by decide) (Nat.le_of_ble_eq_true rfl) csOK_0 h (fun r4 hr5 h => ?_)
    show Z κ (0, 0) _ 66 _ [vi r4] ad σ1
    have h := wpO_some.mp h
    exact z_ireturn T C dX11_allowed_66 hr5 eN1 h
  have J62 : ∀ (σ1 : St), σ1.2.2.2 = σ.2.2.2 → wpO (fX11_allowed_j62 σ1) (fun q => X q.1 q.2) → Z κ (0, 0) (Qm κ ad σ enI okI X) 62 [] [] ad σ1 := by
    intro σ1 eN1 h
    unfold fX11_allowed_j62 at h
    refine z_rng (fun hI6 hJ7 => ?_)
    refine z_iconst C dX11_allowed_62 ?_
    exact J63 0 σ1 (by decide) eN1 h
  show Z κ (0, 0) (Qm κ ad σ enI okI X) 0 [(0, vo ad 11 (some 0)), (1, vi x1), (2, vi x2), (3, vi x3)] [] ad σ
  refine z_rng (fun hI8 hJ9 => ?_)
  refine z_aload_n C 0 dX11_allowed_0 rfl ?_
  refine z_iload_n C 1 dX11_allowed_1 rfl ?_
  refine z_cVp (st := []) T C (ct_X11_storyNumbered x1 hx1) lm_X11_205 lv_vX11_storyNumbered dX11_allowed_2 [vi x1] rfl rfl rfl rfl rfl (sg_11 T) trivial (by decide) (Nat.le_of_ble_eq_true rfl) csOK_0 h (fun r10 hr11 h => ?_)
  show Z κ (0, 0) _ 5 _ [vo ad 8 r10] ad σ
  refine z_astore (lv2 := [(4, vo ad 8 r10), (0, vo ad 11 (some 0)), (1, vi x1), (2, vi x2), (3, vi x3)]) C dX11_allowed_5 (by decide) rfl ?_
  refine z_aload C 0 dX11_allowed_7 rfl ?_
  refine z_ifnull C 19 dX11_allowed_9 (by decide) (fun hr13 => ?_) (fun j12 hr13 => ?_)
  · have h := (wpO_mop.mp h).2 hr13
    subst hr13
    refine z_iconst C dX11_allowed_19 ?_
    have h := wpO_some.mp h
    exact z_ireturn T C dX11_allowed_20 (by decide) rfl h
  · have h := (wpO_mop.mp h).1 j12 hr13
    subst hr13
    obtain ⟨hj14, h⟩ := wpO_ck.mp h
    refine z_iload_n C 3 dX11_allowed_12 rfl ?_
    refine z_cSp (st := []) T C (ct_X11_isLand x2 hx2) lm_X11_280 ls_X11_isLand dX11_allowed_13 rfl rfl trivial (by decide) (Nat.le_of_ble_eq_true rfl) csOK_0 h (fun r15 hr16 h => ?_)
    show Z κ (0, 0) _ 16 _ [vi r15] ad σ
    refine z_if_ne C 21 (inr_b hr16) dX11_allowed_16 (by decide) (fun q17 => ?_) (fun q17 => ?_)
    · have h := (wpO_ite.mp h).2 q17
      refine z_iload_n C 4 dX11_allowed_21 rfl ?_
      refine z_cSp (st := []) T C (ct_X11_isDay x3 hx3) lm_X11_257 ls_X11_isDay dX11_allowed_22 rfl rfl trivial (by decide) (Nat.le_of_ble_eq_true rfl) csOK_0 h (fun r18 hr19 h => ?_)
      show Z κ (0, 0) _ 25 _ [vi r18] ad σ
      refine z_if_ne C 31 (inr_b hr19) dX11_allowed_25 (by decide) (fun q20 => ?_) (fun q20 => ?_)
      · have h := (wpO_ite.mp h).2 q20
        refine z_aload_n C 1 dX11_allowed_31 rfl ?_
        refine z_aload C 0 dX11_allowed_32 rfl ?_
        refine z_gIv (v := gI σ 900 j12 0) C li_X11_307 (nN rfl (toN rfl hj14)) rfl dX11_allowed_34 ?_
        refine z_iload_n C 3 dX11_allowed_37 rfl ?_
        refine z_iload_n C 4 dX11_allowed_38 rfl ?_
        refine z_cVp (st := []) T C (ct_X11_isLicensed (gI σ 900 j12 0) x2 x3 (hI8 900 j12 _) hx2 hx3) lm_X11_308 lv_vX11_isLicensed dX11_allowed_39 [vi (gI σ 900 j12 0), vi x2, vi x3] rfl rfl rfl rfl rfl (sg_11 T) trivial (by decide) (Nat.le_of_ble_eq_true rfl) csOK_0 h (fun r21 hr22 h => ?_)
        show Z κ (0, 0) _ 42 _ [vi r21] ad σ
        refine z_if_eq C 62 (inr_b hr22) dX11_allowed_42 (by decide) (fun q23 => ?_) (fun q23 => ?_)
        · have h := (wpO_ite.mp h).1 q23
          refine z_sub [] rfl ?_
          exact J62 σ rfl h
        · have h := (wpO_ite.mp h).2 q23
          refine z_aload_n C 1 dX11_allowed_45 rfl ?_
          refine z_aload C 0 dX11_allowed_46 rfl ?_
          refine z_iload_n C 3 dX11_allowed_48 rfl ?_
          refine z_iload_n C 4 dX11_allowed_49 rfl ?_
          refine z_cV (st := []) T C (ct_X11_firstBar j12 x2 x3 hx2 hx3) lm_X11_283 lv_vX11_firstBar dX11_allowed_50 [vo ad 8 (some j12), vi x2, vi x3] rfl rfl rfl rfl rfl (sg_11 T) (nNl rfl (toN rfl hj14)) (by decide) (Nat.le_of_ble_eq_true rfl) csOK_0 h (fun r24 σ26 hr25 eN27 h => ?_)
          show Z κ (0, 0) _ 53 _ [vi r24] ad σ26
          refine z_rng (fun hI28 hJ29 => ?_)
          refine z_bipush C dX11_allowed_53 (by decide) ?_
          refine z_icmp_ne C 62 hr25 (by decide) dX11_allowed_55 (by decide) (fun q30 => ?_) (fun q30 => ?_)
          · have h := (wpO_ite.mp h).2 q30
            refine z_sub [] rfl ?_
            exact J62 σ26 eN27 h
          · have h := (wpO_ite.mp h).1 q30
            refine z_iconst C dX11_allowed_58 ?_
            refine z_goto C 63 dX11_allowed_59 (by decide) ?_
            refine z_sub [] rfl ?_
            exact J63 1 σ26 (by decide) eN27 h
      · have h := (wpO_ite.mp h).1 q20
        refine z_bipush C dX11_allowed_28 (by decide) ?_
        have h := wpO_some.mp h
        exact z_ireturn T C dX11_allowed_30 (by decide) rfl h
    · have h := (wpO_ite.mp h).1 q17
      refine z_iconst C dX11_allowed_19 ?_
      have h := wpO_some.mp h
      exact z_ireturn T C dX11_allowed_20 (by decide) rfl h
noncomputable def fX4_keepApart (x1 : Int) (x2 : Int) (x3 : Int) (σ : St) : Option (Int × St) :=
  ck (0 ≤ x1 ∧ x1 < 8) (bnk (fX11_hasMember (gI σ 502 0 x1.toNat) x2) (fun r4 => ck (0 ≤ x1 ∧ x1 < 8) (bnk (fX11_withMember (gI σ 502 0 x1.toNat) x2 x3) (fun r7 => ck (0 ≤ x1 ∧ x1 < 8) (ck (0 ≤ x2 ∧ x2 < 8) (bnk (fX11_withMember (gI (sI σ 502 0 x1.toNat r7) 502 0 x2.toNat) x1 x3) (fun r11 => ck (0 ≤ x2 ∧ x2 < 8) (bnk (fX11_asNumber r4) (fun r14 => some (r14, sI (sI σ 502 0 x1.toNat r7) 502 0 x2.toNat r11))))))))))
set_option maxRecDepth 20000 in
set_option maxHeartbeats 4000000 in
theorem ct_X4_keepApart (x1 : Int) (x2 : Int) (x3 : Int) (hx1 : inr x1) (hx2 : inr x2) (hx3 : x3 = 0 ∨ x3 = 1) : Ct yX4_keepApart cX4_keepApart 5 (some .int) 1 (fun ad => [vo ad 4 (some 0), vi x1, vi x2, vi x3]) (fX4_keepApart x1 x2 x3) enI okI (fun _ => True) := by
  refine Ct.of (by decide) (fun ad => Nat.le_of_ble_eq_true rfl) ?_
  intro κ ad σ X C T hpre h
  have C : Cx κ RX4 cX4_keepApart 5 (some .int) 1 := C
  unfold fX4_keepApart at h
  show Z κ (0, 0) (Qm κ ad σ enI okI X) 0 [(0, vo ad 4 (some 0)), (1, vi x1), (2, vi x2), (3, vi x3)] [] ad σ
  refine z_rng (fun hI1 hJ2 => ?_)
  refine z_aload_n C 0 dX4_keepApart_0 rfl ?_
  refine z_gA T C li_X4_18 (sg_4 T) dX4_keepApart_1 ?_
  refine z_iload_n C 1 dX4_keepApart_4 rfl ?_
  obtain ⟨hb3, h⟩ := wpO_ck.mp h
  refine z_iav (v := gI σ 502 0 x1.toNat) C ar_502 (sg_502 T) hx1 hb3 rfl dX4_keepApart_5 ?_
  refine z_iload_n C 2 dX4_keepApart_6 rfl ?_
  refine z_cSp (st := []) T C (ct_X11_hasMember (gI σ 502 0 x1.toNat) x2 (hI1 502 0 _) hx2) lm_X4_31 ls_X11_hasMember dX4_keepApart_7 rfl rfl trivial (by decide) (Nat.le_of_ble_eq_true rfl) csOK_0 h (fun r4 hr5 h => ?_)
  show Z κ (0, 0) _ 10 _ [vi r4] ad σ
  refine z_istore (lv2 := [(4, vi r4), (0, vo ad 4 (some 0)), (1, vi x1), (2, vi x2), (3, vi x3)]) C dX4_keepApart_10 (by decide) rfl ?_
  refine z_aload_n C 1 dX4_keepApart_12 rfl ?_
  refine z_gA T C li_X4_18 (sg_4 T) dX4_keepApart_13 ?_
  refine z_iload_n C 2 dX4_keepApart_16 rfl ?_
  refine z_aload_n C 1 dX4_keepApart_17 rfl ?_
  refine z_gA T C li_X4_18 (sg_4 T) dX4_keepApart_18 ?_
  refine z_iload_n C 2 dX4_keepApart_21 rfl ?_
  obtain ⟨hb6, h⟩ := wpO_ck.mp h
  refine z_iav (v := gI σ 502 0 x1.toNat) C ar_502 (sg_502 T) hx1 hb6 rfl dX4_keepApart_22 ?_
  refine z_iload_n C 3 dX4_keepApart_23 rfl ?_
  refine z_iload_n C 4 dX4_keepApart_24 rfl ?_
  refine z_cSp (st := [vi x1, vo ad 502 (some 0)]) T C (ct_X11_withMember (gI σ 502 0 x1.toNat) x2 x3 (hI1 502 0 _) hx2 hx3) lm_X4_35 ls_X11_withMember dX4_keepApart_25 rfl rfl trivial (by decide) (Nat.le_of_ble_eq_true rfl) csOK_0 h (fun r7 hr8 h => ?_)
  show Z κ (0, 0) _ 28 _ [vi r7, vi x1, vo ad 502 (some 0)] ad σ
  obtain ⟨hb9, h⟩ := wpO_ck.mp h
  refine z_iastore C ar_502 (sg_502 T) hx1 hb9 hr8 dX4_keepApart_28 ?_
  refine z_aload_n C 1 dX4_keepApart_29 rfl ?_
  refine z_gA T C li_X4_18 (sg_4 T) dX4_keepApart_30 ?_
  refine z_iload_n C 3 dX4_keepApart_33 rfl ?_
  refine z_aload_n C 1 dX4_keepApart_34 rfl ?_
  refine z_gA T C li_X4_18 (sg_4 T) dX4_keepApart_35 ?_
  refine z_iload_n C 3 dX4_keepApart_38 rfl ?_
  obtain ⟨hb10, h⟩ := wpO_ck.mp h
  refine z_iav (v := gI (sI σ 502 0 x1.toNat r7) 502 0 x2.toNat) C ar_502 (sg_502 T) hx2 hb10 rfl dX4_keepApart_39 ?_
  refine z_iload_n C 2 dX4_keepApart_40 rfl ?_
  refine z_iload_n C 4 dX4_keepApart_41 rfl ?_
  refine z_cSp (st := [vi x2, vo ad 502 (some 0)]) T C (ct_X11_withMember (gI (sI σ 502 0 x1.toNat r7) 502 0 x2.toNat) x1 x3 ((inr_sI hI1 hr8) 502 0 _) hx1 hx3) lm_X4_35 ls_X11_withMember dX4_keepApart_42 rfl rfl trivial (by decide) (Nat.le_of_ble_eq_true rfl) csOK_0 h (fun r11 hr12 h => ?_)
  show Z κ (0, 0) _ 45 _ [vi r11, vi x2, vo ad 502 (some 0)] ad (sI σ 502 0 x1.toNat r7)
  obtain ⟨hb13, h⟩ := wpO_ck.mp h
  refine z_iastore C ar_502 (sg_502 T) hx2 hb13 hr12 dX4_keepApart_45 ?_
  refine z_iload C 0 dX4_keepApart_46 rfl ?_
  refine z_cSp (st := []) T C (ct_X11_asNumber r4 hr5) lm_X4_39 ls_X11_asNumber dX4_keepApart_48 rfl rfl trivial (by decide) (Nat.le_of_ble_eq_true rfl) csOK_0 h (fun r14 hr15 h => ?_)
  show Z κ (0, 0) _ 51 _ [vi r14] ad (sI (sI σ 502 0 x1.toNat r7) 502 0 x2.toNat r11)
  have h := wpO_some.mp h
  exact z_ireturn T C dX4_keepApart_51 hr15 rfl h
noncomputable def fX11_apart (x1 : Int) (x2 : Int) (x3 : Int) (σ : St) : Option (Int × St) :=
  bnk (fX11_storyNumbered x1 σ) (fun r3 => mop r3 (fun j5 => ck (j5 < gN σ 8) (bnk (fX11_storyNumbered x2 σ) (fun r8 => mop r8 (fun j10 => ck (j10 < gN σ 8) (if x1 = x2 then (some ((-3), σ)) else (bnd (fX4_keepApart x1 x2 x3 σ) (fun r14 σ16 => some (r14, σ16))))) (some ((-1), σ))))) (some ((-1), σ)))
set_option maxRecDepth 20000 in
set_option maxHeartbeats 4000000 in
theorem ct_X11_apart (x1 : Int) (x2 : Int) (x3 : Int) (hx1 : inr x1) (hx2 : inr x2) (hx3 : x3 = 0 ∨ x3 = 1) : Ct yX11_apart cX11_apart 4 (some .int) 2 (fun ad => [vo ad 11 (some 0), vi x1, vi x2, vi x3]) (fX11_apart x1 x2 x3) enI okI (fun _ => True) := by
  refine Ct.of (by decide) (fun ad => Nat.le_of_ble_eq_true rfl) ?_
  intro κ ad σ X C T hpre h
  have C : Cx κ RX11 cX11_apart 4 (some .int) 2 := C
  unfold fX11_apart at h
  show Z κ (0, 0) (Qm κ ad σ enI okI X) 0 [(0, vo ad 11 (some 0)), (1, vi x1), (2, vi x2), (3, vi x3)] [] ad σ
  refine z_rng (fun hI1 hJ2 => ?_)
  refine z_aload_n C 0 dX11_apart_0 rfl ?_
  refine z_iload_n C 1 dX11_apart_1 rfl ?_
  refine z_cVp (st := []) T C (ct_X11_storyNumbered x1 hx1) lm_X11_205 lv_vX11_storyNumbered dX11_apart_2 [vi x1] rfl rfl rfl rfl rfl (sg_11 T) trivial (by decide) (Nat.le_of_ble_eq_true rfl) csOK_0 h (fun r3 hr4 h => ?_)
  show Z κ (0, 0) _ 5 _ [vo ad 8 r3] ad σ
  refine z_ifnull C 16 dX11_apart_5 (by decide) (fun hr6 => ?_) (fun j5 hr6 => ?_)
  · have h := (wpO_mop.mp h).2 hr6
    subst hr6
    refine z_iconst C dX11_apart_16 ?_
    have h := wpO_some.mp h
    exact z_ireturn T C dX11_apart_17 (by decide) rfl h
  · have h := (wpO_mop.mp h).1 j5 hr6
    subst hr6
    obtain ⟨hj7, h⟩ := wpO_ck.mp h
    refine z_aload_n C 0 dX11_apart_8 rfl ?_
    refine z_iload_n C 2 dX11_apart_9 rfl ?_
    refine z_cVp (st := []) T C (ct_X11_storyNumbered x2 hx2) lm_X11_205 lv_vX11_storyNumbered dX11_apart_10 [vi x2] rfl rfl rfl rfl rfl (sg_11 T) trivial (by decide) (Nat.le_of_ble_eq_true rfl) csOK_0 h (fun r8 hr9 h => ?_)
    show Z κ (0, 0) _ 13 _ [vo ad 8 r8] ad σ
    refine z_ifnonnull C 18 dX11_apart_13 (by decide) (fun j10 hr11 => ?_) (fun hr11 => ?_)
    · have h := (wpO_mop.mp h).1 j10 hr11
      subst hr11
      obtain ⟨hj12, h⟩ := wpO_ck.mp h
      refine z_iload_n C 1 dX11_apart_18 rfl ?_
      refine z_iload_n C 2 dX11_apart_19 rfl ?_
      refine z_icmp_ne C 28 hx1 hx2 dX11_apart_20 (by decide) (fun q13 => ?_) (fun q13 => ?_)
      · have h := (wpO_ite.mp h).2 q13
        refine z_aload_n C 0 dX11_apart_28 rfl ?_
        refine z_gR T C li_X11_65 (sg_11 T) dX11_apart_29 ?_
        refine z_iload_n C 1 dX11_apart_32 rfl ?_
        refine z_iload_n C 2 dX11_apart_33 rfl ?_
        refine z_iload_n C 3 dX11_apart_34 rfl ?_
        refine z_cV (st := []) T C (ct_X4_keepApart x1 x2 x3 hx1 hx2 hx3) lm_X11_315 lv_vX4_keepApart dX11_apart_35 [vi x1, vi x2, vi x3] rfl rfl rfl rfl rfl (sg_4 T) trivial (by decide) (Nat.le_of_ble_eq_true rfl) csOK_0 h (fun r14 σ16 hr15 eN17 h => ?_)
        show Z κ (0, 0) _ 38 _ [vi r14] ad σ16
        refine z_rng (fun hI18 hJ19 => ?_)
        have h := wpO_some.mp h
        exact z_ireturn T C dX11_apart_38 hr15 eN17 h
      · have h := (wpO_ite.mp h).1 q13
        refine z_bipush C dX11_apart_23 (by decide) ?_
        refine z_goto C 38 dX11_apart_25 (by decide) ?_
        have h := wpO_some.mp h
        exact z_ireturn T C dX11_apart_38 (by decide) rfl h
    · have h := (wpO_mop.mp h).2 hr11
      subst hr11
      refine z_iconst C dX11_apart_16 ?_
      have h := wpO_some.mp h
      exact z_ireturn T C dX11_apart_17 (by decide) rfl h
noncomputable def fX11_isPlace (x0 : Int) : Option Int :=
  bnk (fX11_within x0 0 7) (fun r1 => some r1)
set_option maxRecDepth 20000 in
set_option maxHeartbeats 4000000 in
theorem ct_X11_isPlace (x0 : Int) (hx0 : inr x0) : Ct yX11_isPlace cX11_isPlace 1 (some .boolean) 1 (fun ad => [vi x0]) (pu (fun _ => fX11_isPlace x0)) enI okB (fun _ => True) := by
  refine Ct.of (by decide) (fun ad => Nat.le_of_ble_eq_true rfl) ?_
  intro κ ad σ X C T hpre h
  have C : Cx κ RX11 cX11_isPlace 1 (some .boolean) 1 := C
  have h := wpO_pu.mp h
  unfold fX11_isPlace at h
  show Z κ (0, 0) (Qm κ ad σ enI okB X) 0 [(0, vi x0)] [] ad σ
  refine z_iload_n C 0 dX11_isPlace_0 rfl ?_
  refine z_iconst C dX11_isPlace_1 ?_
  refine z_bipush C dX11_isPlace_2 (by decide) ?_
  refine z_cSp (st := []) T C (ct_X11_within x0 0 7 hx0 (by decide) (by decide)) lm_X11_83 ls_X11_within dX11_isPlace_4 rfl rfl trivial (by decide) (Nat.le_of_ble_eq_true rfl) csOK_0 h (fun r1 hr2 h => ?_)
  show Z κ (0, 0) _ 7 _ [vi r1] ad σ
  have h := wpO_some.mp h
  exact z_breturn T C dX11_isPlace_7 hr2 rfl h
noncomputable def fX11_isHour (x0 : Int) : Option Int :=
  bnk (fX11_within x0 0 9999) (fun r1 => some r1)
set_option maxRecDepth 20000 in
set_option maxHeartbeats 4000000 in
theorem ct_X11_isHour (x0 : Int) (hx0 : inr x0) : Ct yX11_isHour cX11_isHour 1 (some .boolean) 1 (fun ad => [vi x0]) (pu (fun _ => fX11_isHour x0)) enI okB (fun _ => True) := by
  refine Ct.of (by decide) (fun ad => Nat.le_of_ble_eq_true rfl) ?_
  intro κ ad σ X C T hpre h
  have C : Cx κ RX11 cX11_isHour 1 (some .boolean) 1 := C
  have h := wpO_pu.mp h
  unfold fX11_isHour at h
  show Z κ (0, 0) (Qm κ ad σ enI okB X) 0 [(0, vi x0)] [] ad σ
  refine z_iload_n C 0 dX11_isHour_0 rfl ?_
  refine z_iconst C dX11_isHour_1 ?_
  refine z_sipush C dX11_isHour_2 (by decide) ?_
  refine z_cSp (st := []) T C (ct_X11_within x0 0 9999 hx0 (by decide) (by decide)) lm_X11_83 ls_X11_within dX11_isHour_5 rfl rfl trivial (by decide) (Nat.le_of_ble_eq_true rfl) csOK_0 h (fun r1 hr2 h => ?_)
  show Z κ (0, 0) _ 8 _ [vi r1] ad σ
  have h := wpO_some.mp h
  exact z_breturn T C dX11_isHour_8 hr2 rfl h
noncomputable def fX9_earliest (x1 : Int) (x2 : Int) (x3 : Int) (x4 : Int) (σ : St) : Option (Int × St) :=
  bnd (fX9_travel x1 x2 x4 σ) (fun _ σ5 => ck (0 ≤ x3 ∧ x3 < 8) (if gI σ5 1002 0 x3.toNat = 1000000 then (some ((-9), σ5)) else (ck (0 ≤ x3 ∧ x3 < 8) (some (gI σ5 1002 0 x3.toNat, σ5)))))
set_option maxRecDepth 20000 in
set_option maxHeartbeats 4000000 in
theorem ct_X9_earliest (x1 : Int) (x2 : Int) (x3 : Int) (x4 : Int) (hx1 : inr x1) (hx2 : inr x2) (hx3 : inr x3) (hx4 : x4 = 0 ∨ x4 = 1) : Ct yX9_earliest cX9_earliest 5 (some .int) 3 (fun ad => [vo ad 9 (some 0), vi x1, vi x2, vi x3, vi x4]) (fX9_earliest x1 x2 x3 x4) enI okI (fun _ => True) := by
  refine Ct.of (by decide) (fun ad => Nat.le_of_ble_eq_true rfl) ?_
  intro κ ad σ X C T hpre h
  have C : Cx κ RX9 cX9_earliest 5 (some .int) 3 := C
  unfold fX9_earliest at h
  show Z κ (0, 0) (Qm κ ad σ enI okI X) 0 [(0, vo ad 9 (some 0)), (1, vi x1), (2, vi x2), (3, vi x3), (4, vi x4)] [] ad σ
  refine z_rng (fun hI1 hJ2 => ?_)
  refine z_aload_n C 0 dX9_earliest_0 rfl ?_
  refine z_iload_n C 1 dX9_earliest_1 rfl ?_
  refine z_iload_n C 2 dX9_earliest_2 rfl ?_
  refine z_iload C 4 dX9_earliest_3 rfl ?_
  refine z_cV (st := []) T C (ct_X9_travel x1 x2 x4 hx1 hx2 hx4) lm_X9_50 lv_vX9_travel dX9_earliest_5 [vi x1, vi x2, vi x4] rfl rfl rfl rfl rfl (sg_9 T) trivial (by decide) (Nat.le_of_ble_eq_true rfl) csOK_0 h (fun r3 σ5 hr4 eN6 h => ?_)
  show Z κ (0, 0) _ 8 _ [] ad σ5
  refine z_rng (fun hI7 hJ8 => ?_)
  refine z_aload_n C 0 dX9_earliest_8 rfl ?_
  refine z_gA T C li_X9_17 (sg_9 T) dX9_earliest_9 ?_
  refine z_iload_n C 3 dX9_earliest_12 rfl ?_
  obtain ⟨hb9, h⟩ := wpO_ck.mp h
  refine z_iav (v := gI σ5 1002 0 x3.toNat) C ar_1002 (sg_1002 T) hx3 hb9 rfl dX9_earliest_13 ?_
  refine z_ldc C lc_X9_33 dX9_earliest_14 ?_
  refine z_icmp_ne C 24 (hI7 1002 0 _) (by decide) dX9_earliest_16 (by decide) (fun q10 => ?_) (fun q10 => ?_)
  · have h := (wpO_ite.mp h).2 q10
    refine z_aload_n C 0 dX9_earliest_24 rfl ?_
    refine z_gA T C li_X9_17 (sg_9 T) dX9_earliest_25 ?_
    refine z_iload_n C 3 dX9_earliest_28 rfl ?_
    obtain ⟨hb11, h⟩ := wpO_ck.mp h
    refine z_iav (v := gI σ5 1002 0 x3.toNat) C ar_1002 (sg_1002 T) hx3 hb11 rfl dX9_earliest_29 ?_
    have h := wpO_some.mp h
    exact z_ireturn T C dX9_earliest_30 (hI7 1002 0 _) eN6 h
  · have h := (wpO_ite.mp h).1 q10
    refine z_bipush C dX9_earliest_19 (by decide) ?_
    refine z_goto C 30 dX9_earliest_21 (by decide) ?_
    have h := wpO_some.mp h
    exact z_ireturn T C dX9_earliest_30 (by decide) eN6 h
noncomputable def fX11_arrival (x1 : Int) (x2 : Int) (x3 : Int) (x4 : Int) (σ : St) : Option (Int × St) :=
  bnk (fX11_isPlace x1) (fun r3 => if r3 = 0 then (some ((-1), σ)) else (bnk (fX11_isPlace x3) (fun r6 => if r6 = 0 then (some ((-1), σ)) else (bnk (fX11_isHour x2) (fun r9 => if r9 = 0 then (some ((-2), σ)) else (bnd (fX9_earliest x1 x2 x3 x4 σ) (fun r12 σ14 => some (r12, σ14))))))))
set_option maxRecDepth 20000 in
set_option maxHeartbeats 4000000 in
theorem ct_X11_arrival (x1 : Int) (x2 : Int) (x3 : Int) (x4 : Int) (hx1 : inr x1) (hx2 : inr x2) (hx3 : inr x3) (hx4 : x4 = 0 ∨ x4 = 1) : Ct yX11_arrival cX11_arrival 5 (some .int) 4 (fun ad => [vo ad 11 (some 0), vi x1, vi x2, vi x3, vi x4]) (fX11_arrival x1 x2 x3 x4) enI okI (fun _ => True) := by
  refine Ct.of (by decide) (fun ad => Nat.le_of_ble_eq_true rfl) ?_
  intro κ ad σ X C T hpre h
  have C : Cx κ RX11 cX11_arrival 5 (some .int) 4 := C
  unfold fX11_arrival at h
  show Z κ (0, 0) (Qm κ ad σ enI okI X) 0 [(0, vo ad 11 (some 0)), (1, vi x1), (2, vi x2), (3, vi x3), (4, vi x4)] [] ad σ
  refine z_rng (fun hI1 hJ2 => ?_)
  refine z_iload_n C 1 dX11_arrival_0 rfl ?_
  refine z_cSp (st := []) T C (ct_X11_isPlace x1 hx1) lm_X11_90 ls_X11_isPlace dX11_arrival_1 rfl rfl trivial (by decide) (Nat.le_of_ble_eq_true rfl) csOK_0 h (fun r3 hr4 h => ?_)
  show Z κ (0, 0) _ 4 _ [vi r3] ad σ
  refine z_if_eq C 14 (inr_b hr4) dX11_arrival_4 (by decide) (fun q5 => ?_) (fun q5 => ?_)
  · have h := (wpO_ite.mp h).1 q5
    refine z_iconst C dX11_arrival_14 ?_
    have h := wpO_some.mp h
    exact z_ireturn T C dX11_arrival_15 (by decide) rfl h
  · have h := (wpO_ite.mp h).2 q5
    refine z_iload_n C 3 dX11_arrival_7 rfl ?_
    refine z_cSp (st := []) T C (ct_X11_isPlace x3 hx3) lm_X11_90 ls_X11_isPlace dX11_arrival_8 rfl rfl trivial (by decide) (Nat.le_of_ble_eq_true rfl) csOK_0 h (fun r6 hr7 h => ?_)
    show Z κ (0, 0) _ 11 _ [vi r6] ad σ
    refine z_if_ne C 16 (inr_b hr7) dX11_arrival_11 (by decide) (fun q8 => ?_) (fun q8 => ?_)
    · have h := (wpO_ite.mp h).2 q8
      refine z_iload_n C 2 dX11_arrival_16 rfl ?_
      refine z_cSp (st := []) T C (ct_X11_isHour x2 hx2) lm_X11_94 ls_X11_isHour dX11_arrival_17 rfl rfl trivial (by decide) (Nat.le_of_ble_eq_true rfl) csOK_0 h (fun r9 hr10 h => ?_)
      show Z κ (0, 0) _ 20 _ [vi r9] ad σ
      refine z_if_ne C 26 (inr_b hr10) dX11_arrival_20 (by decide) (fun q11 => ?_) (fun q11 => ?_)
      · have h := (wpO_ite.mp h).2 q11
        refine z_aload_n C 0 dX11_arrival_26 rfl ?_
        refine z_gR T C li_X11_10 (sg_11 T) dX11_arrival_27 ?_
        refine z_iload_n C 1 dX11_arrival_30 rfl ?_
        refine z_iload_n C 2 dX11_arrival_31 rfl ?_
        refine z_iload_n C 3 dX11_arrival_32 rfl ?_
        refine z_iload C 4 dX11_arrival_33 rfl ?_
        refine z_cV (st := []) T C (ct_X9_earliest x1 x2 x3 x4 hx1 hx2 hx3 hx4) lm_X11_118 lv_vX9_earliest dX11_arrival_35 [vi x1, vi x2, vi x3, vi x4] rfl rfl rfl rfl rfl (sg_9 T) trivial (by decide) (Nat.le_of_ble_eq_true rfl) csOK_0 h (fun r12 σ14 hr13 eN15 h => ?_)
        show Z κ (0, 0) _ 38 _ [vi r12] ad σ14
        refine z_rng (fun hI16 hJ17 => ?_)
        have h := wpO_some.mp h
        exact z_ireturn T C dX11_arrival_38 hr13 eN15 h
      · have h := (wpO_ite.mp h).1 q11
        refine z_bipush C dX11_arrival_23 (by decide) ?_
        have h := wpO_some.mp h
        exact z_ireturn T C dX11_arrival_25 (by decide) rfl h
    · have h := (wpO_ite.mp h).1 q8
      refine z_iconst C dX11_arrival_14 ?_
      have h := wpO_some.mp h
      exact z_ireturn T C dX11_arrival_15 (by decide) rfl h
noncomputable def fX11_bars (x1 : Int) (x2 : Int) (x3 : Int) (σ : St) : Option (Int × St) :=
  bnk (fX11_storyNumbered x1 σ) (fun r3 => mop r3 (fun j5 => ck (j5 < gN σ 8) (bnk (fX11_isLand x2) (fun r8 => if r8 = 0 then (some ((-1), σ)) else (bnk (fX11_isDay x3) (fun r11 => if r11 = 0 then (some ((-2), σ)) else (bnd (fX11_firstBar j5 x2 x3 σ) (fun r14 σ16 => some (r14, σ16)))))))) (some ((-1), σ)))
set_option maxRecDepth 20000 in
set_option maxHeartbeats 4000000 in
theorem ct_X11_bars (x1 : Int) (x2 : Int) (x3 : Int) (hx1 : inr x1) (hx2 : inr x2) (hx3 : inr x3) : Ct yX11_bars cX11_bars 5 (some .int) 5 (fun ad => [vo ad 11 (some 0), vi x1, vi x2, vi x3]) (fX11_bars x1 x2 x3) enI okI (fun _ => True) := by
  refine Ct.of (by decide) (fun ad => Nat.le_of_ble_eq_true rfl) ?_
  intro κ ad σ X C T hpre h
  have C : Cx κ RX11 cX11_bars 5 (some .int) 5 := C
  unfold fX11_bars at h
  show Z κ (0, 0) (Qm κ ad σ enI okI X) 0 [(0, vo ad 11 (some 0)), (1, vi x1), (2, vi x2), (3, vi x3)] [] ad σ
  refine z_rng (fun hI1 hJ2 => ?_)
  refine z_aload_n C 0 dX11_bars_0 rfl ?_
  refine z_iload_n C 1 dX11_bars_1 rfl ?_
  refine z_cVp (st := []) T C (ct_X11_storyNumbered x1 hx1) lm_X11_205 lv_vX11_storyNumbered dX11_bars_2 [vi x1] rfl rfl rfl rfl rfl (sg_11 T) trivial (by decide) (Nat.le_of_ble_eq_true rfl) csOK_0 h (fun r3 hr4 h => ?_)
  show Z κ (0, 0) _ 5 _ [vo ad 8 r3] ad σ
  refine z_astore (lv2 := [(4, vo ad 8 r3), (0, vo ad 11 (some 0)), (1, vi x1), (2, vi x2), (3, vi x3)]) C dX11_bars_5 (by decide) rfl ?_
  refine z_aload C 0 dX11_bars_7 rfl ?_
  refine z_ifnull C 19 dX11_bars_9 (by decide) (fun hr6 => ?_) (fun j5 hr6 => ?_)
  · have h := (wpO_mop.mp h).2 hr6
    subst hr6
    refine z_iconst C dX11_bars_19 ?_
    have h := wpO_some.mp h
    exact z_ireturn T C dX11_bars_20 (by decide) rfl h
  · have h := (wpO_mop.mp h).1 j5 hr6
    subst hr6
    obtain ⟨hj7, h⟩ := wpO_ck.mp h
    refine z_iload_n C 3 dX11_bars_12 rfl ?_
    refine z_cSp (st := []) T C (ct_X11_isLand x2 hx2) lm_X11_280 ls_X11_isLand dX11_bars_13 rfl rfl trivial (by decide) (Nat.le_of_ble_eq_true rfl) csOK_0 h (fun r8 hr9 h => ?_)
    show Z κ (0, 0) _ 16 _ [vi r8] ad σ
    refine z_if_ne C 21 (inr_b hr9) dX11_bars_16 (by decide) (fun q10 => ?_) (fun q10 => ?_)
    · have h := (wpO_ite.mp h).2 q10
      refine z_iload_n C 4 dX11_bars_21 rfl ?_
      refine z_cSp (st := []) T C (ct_X11_isDay x3 hx3) lm_X11_257 ls_X11_isDay dX11_bars_22 rfl rfl trivial (by decide) (Nat.le_of_ble_eq_true rfl) csOK_0 h (fun r11 hr12 h => ?_)
      show Z κ (0, 0) _ 25 _ [vi r11] ad σ
      refine z_if_eq C 39 (inr_b hr12) dX11_bars_25 (by decide) (fun q13 => ?_) (fun q13 => ?_)
      · have h := (wpO_ite.mp h).1 q13
        refine z_bipush C dX11_bars_39 (by decide) ?_
        have h := wpO_some.mp h
        exact z_ireturn T C dX11_bars_41 (by decide) rfl h
      · have h := (wpO_ite.mp h).2 q13
        refine z_aload_n C 1 dX11_bars_28 rfl ?_
        refine z_aload C 0 dX11_bars_29 rfl ?_
        refine z_iload_n C 3 dX11_bars_31 rfl ?_
        refine z_iload_n C 4 dX11_bars_32 rfl ?_
        refine z_cV (st := []) T C (ct_X11_firstBar j5 x2 x3 hx2 hx3) lm_X11_283 lv_vX11_firstBar dX11_bars_33 [vo ad 8 (some j5), vi x2, vi x3] rfl rfl rfl rfl rfl (sg_11 T) (nNl rfl (toN rfl hj7)) (by decide) (Nat.le_of_ble_eq_true rfl) csOK_0 h (fun r14 σ16 hr15 eN17 h => ?_)
        show Z κ (0, 0) _ 36 _ [vi r14] ad σ16
        refine z_rng (fun hI18 hJ19 => ?_)
        refine z_goto C 41 dX11_bars_36 (by decide) ?_
        have h := wpO_some.mp h
        exact z_ireturn T C dX11_bars_41 hr15 eN17 h
    · have h := (wpO_ite.mp h).1 q10
      refine z_iconst C dX11_bars_19 ?_
      have h := wpO_some.mp h
      exact z_ireturn T C dX11_bars_20 (by decide) rfl h
noncomputable def fX7_whereAt (x0 : Nat) (x1 : Int) (σ : St) : Option Int :=
  if gI σ 807 x0 0 ≤ x1 then (if x1 < gI σ 810 x0 0 then (if x1 < gI σ 809 x0 0 then (if x1 < gI σ 808 x0 0 then (some 1) else (some 2)) else (some 3)) else (some 4)) else (some 0)
set_option maxRecDepth 20000 in
set_option maxHeartbeats 4000000 in
theorem ct_X7_whereAt (x0 : Nat) (x1 : Int) (hx1 : inr x1) : Ct yX7_whereAt cX7_whereAt 2 (some .int) 0 (fun ad => [vo ad 7 (some x0), vi x1]) (pu (fX7_whereAt x0 x1)) enI okI (fun σ => x0 < gN σ 7) := by
  refine Ct.of (by decide) (fun ad => Nat.le_of_ble_eq_true rfl) ?_
  intro κ ad σ X C T hpre h
  have C : Cx κ RX7 cX7_whereAt 2 (some .int) 0 := C
  have h := wpO_pu.mp h
  have hx0 : x0 < gN σ 7 := hpre
  unfold fX7_whereAt at h
  show Z κ (0, 0) (Qm κ ad σ enI okI X) 0 [(0, vo ad 7 (some x0)), (1, vi x1)] [] ad σ
  refine z_rng (fun hI1 hJ2 => ?_)
  refine z_iload_n C 1 dX7_whereAt_0 rfl ?_
  refine z_aload_n C 0 dX7_whereAt_1 rfl ?_
  refine z_gIv (v := gI σ 807 x0 0) C li_X7_49 (nN rfl hx0) rfl dX7_whereAt_2 ?_
  refine z_icmp_ge C 10 hx1 (hI1 807 x0 _) dX7_whereAt_5 (by decide) (fun q3 => ?_) (fun q3 => ?_)
  · have h := (wpO_ite.mp h).1 q3
    refine z_iload_n C 1 dX7_whereAt_10 rfl ?_
    refine z_aload_n C 0 dX7_whereAt_11 rfl ?_
    refine z_gIv (v := gI σ 810 x0 0) C li_X7_19 (nN rfl hx0) rfl dX7_whereAt_12 ?_
    refine z_icmp_lt C 20 hx1 (hI1 810 x0 _) dX7_whereAt_15 (by decide) (fun q4 => ?_) (fun q4 => ?_)
    · have h := (wpO_ite.mp h).1 q4
      refine z_iload_n C 1 dX7_whereAt_20 rfl ?_
      refine z_aload_n C 0 dX7_whereAt_21 rfl ?_
      refine z_gIv (v := gI σ 809 x0 0) C li_X7_16 (nN rfl hx0) rfl dX7_whereAt_22 ?_
      refine z_icmp_lt C 30 hx1 (hI1 809 x0 _) dX7_whereAt_25 (by decide) (fun q5 => ?_) (fun q5 => ?_)
      · have h := (wpO_ite.mp h).1 q5
        refine z_iload_n C 1 dX7_whereAt_30 rfl ?_
        refine z_aload_n C 0 dX7_whereAt_31 rfl ?_
        refine z_gIv (v := gI σ 808 x0 0) C li_X7_10 (nN rfl hx0) rfl dX7_whereAt_32 ?_
        refine z_icmp_lt C 42 hx1 (hI1 808 x0 _) dX7_whereAt_35 (by decide) (fun q6 => ?_) (fun q6 => ?_)
        · have h := (wpO_ite.mp h).1 q6
          refine z_iconst C dX7_whereAt_42 ?_
          have h := wpO_some.mp h
          exact z_ireturn T C dX7_whereAt_43 (by decide) rfl h
        · have h := (wpO_ite.mp h).2 q6
          refine z_iconst C dX7_whereAt_38 ?_
          refine z_goto C 43 dX7_whereAt_39 (by decide) ?_
          have h := wpO_some.mp h
          exact z_ireturn T C dX7_whereAt_43 (by decide) rfl h
      · have h := (wpO_ite.mp h).2 q5
        refine z_iconst C dX7_whereAt_28 ?_
        have h := wpO_some.mp h
        exact z_ireturn T C dX7_whereAt_29 (by decide) rfl h
    · have h := (wpO_ite.mp h).2 q4
      refine z_iconst C dX7_whereAt_18 ?_
      have h := wpO_some.mp h
      exact z_ireturn T C dX7_whereAt_19 (by decide) rfl h
  · have h := (wpO_ite.mp h).2 q3
    refine z_iconst C dX7_whereAt_8 ?_
    have h := wpO_some.mp h
    exact z_ireturn T C dX7_whereAt_9 (by decide) rfl h
noncomputable def fX11_come (x1 : Int) (σ : St) : Option (Int × St) :=
  bnk (fX11_shotNumbered x1 σ) (fun r3 => mop r3 (fun j5 => ck (j5 < gN σ 7) (bnk (fX7_whereAt j5 (gI σ 1200 0 0) σ) (fun r8 => if r8 = 2 then (if gI σ 811 j5 0 ≤ gI σ 1200 0 0 then (ck (inr ((gI σ 1200 0 0) - (gI σ 811 j5 0))) (some ((gI σ 1200 0 0) - (gI σ 811 j5 0), sI σ 809 j5 0 (gI σ 1200 0 0)))) else (some ((-3), σ))) else (some ((-3), σ))))) (some ((-1), σ)))
set_option maxRecDepth 20000 in
set_option maxHeartbeats 4000000 in
theorem ct_X11_come (x1 : Int) (hx1 : inr x1) : Ct yX11_come cX11_come 3 (some .int) 2 (fun ad => [vo ad 11 (some 0), vi x1]) (fX11_come x1) enI okI (fun _ => True) := by
  refine Ct.of (by decide) (fun ad => Nat.le_of_ble_eq_true rfl) ?_
  intro κ ad σ X C T hpre h
  have C : Cx κ RX11 cX11_come 3 (some .int) 2 := C
  unfold fX11_come at h
  show Z κ (0, 0) (Qm κ ad σ enI okI X) 0 [(0, vo ad 11 (some 0)), (1, vi x1)] [] ad σ
  refine z_rng (fun hI1 hJ2 => ?_)
  refine z_aload_n C 0 dX11_come_0 rfl ?_
  refine z_iload_n C 1 dX11_come_1 rfl ?_
  refine z_cVp (st := []) T C (ct_X11_shotNumbered x1 hx1) lm_X11_144 lv_vX11_shotNumbered dX11_come_2 [vi x1] rfl rfl rfl rfl rfl (sg_11 T) trivial (by decide) (Nat.le_of_ble_eq_true rfl) csOK_0 h (fun r3 hr4 h => ?_)
  show Z κ (0, 0) _ 5 _ [vo ad 7 r3] ad σ
  refine z_astore_n (lv2 := [(2, vo ad 7 r3), (0, vo ad 11 (some 0)), (1, vi x1)]) C dX11_come_5 (by decide) rfl ?_
  refine z_aload_n C 0 dX11_come_6 rfl ?_
  refine z_ifnonnull C 12 dX11_come_7 (by decide) (fun j5 hr6 => ?_) (fun hr6 => ?_)
  · have h := (wpO_mop.mp h).1 j5 hr6
    subst hr6
    obtain ⟨hj7, h⟩ := wpO_ck.mp h
    refine z_aload_n C 0 dX11_come_12 rfl ?_
    refine z_aload_n C 1 dX11_come_13 rfl ?_
    refine z_gIv (v := gI σ 1200 0 0) C li_X11_87 (sg_11 T) rfl dX11_come_14 ?_
    refine z_cVp (st := []) T C (ct_X7_whereAt j5 (gI σ 1200 0 0) (hI1 1200 0 _)) lm_X11_166 lv_vX7_whereAt dX11_come_17 [vi (gI σ 1200 0 0)] rfl rfl rfl rfl rfl (nN rfl (toN rfl hj7)) (nNl rfl (toN rfl hj7)) (by decide) (Nat.le_of_ble_eq_true rfl) csOK_0 h (fun r8 hr9 h => ?_)
    show Z κ (0, 0) _ 20 _ [vi r8] ad σ
    refine z_iconst C dX11_come_20 ?_
    refine z_icmp_ne C 35 hr9 (by decide) dX11_come_21 (by decide) (fun q10 => ?_) (fun q10 => ?_)
    · have h := (wpO_ite.mp h).2 q10
      refine z_bipush C dX11_come_35 (by decide) ?_
      have h := wpO_some.mp h
      exact z_ireturn T C dX11_come_37 (by decide) rfl h
    · have h := (wpO_ite.mp h).1 q10
      refine z_aload_n C 0 dX11_come_24 rfl ?_
      refine z_gIv (v := gI σ 811 j5 0) C li_X11_173 (nN rfl (toN rfl hj7)) rfl dX11_come_25 ?_
      refine z_aload_n C 1 dX11_come_28 rfl ?_
      refine z_gIv (v := gI σ 1200 0 0) C li_X11_87 (sg_11 T) rfl dX11_come_29 ?_
      refine z_icmp_le C 38 (hI1 811 j5 _) (hI1 1200 0 _) dX11_come_32 (by decide) (fun q11 => ?_) (fun q11 => ?_)
      · have h := (wpO_ite.mp h).1 q11
        refine z_aload_n C 0 dX11_come_38 rfl ?_
        refine z_aload_n C 1 dX11_come_39 rfl ?_
        refine z_gIv (v := gI σ 1200 0 0) C li_X11_87 (sg_11 T) rfl dX11_come_40 ?_
        refine z_pI C lq_X11_179 (nN rfl (toN rfl hj7)) (hI1 1200 0 _) dX11_come_43 ?_
        refine z_aload_n C 1 dX11_come_46 rfl ?_
        refine z_gIv (v := gI σ 1200 0 0) C li_X11_87 (sg_11 T) (gn (by decide) rfl) dX11_come_47 ?_
        refine z_aload_n C 0 dX11_come_50 rfl ?_
        refine z_gIv (v := gI σ 811 j5 0) C li_X11_173 (nN rfl (toN rfl hj7)) (gn (by decide) rfl) dX11_come_51 ?_
        obtain ⟨hk12, h⟩ := wpO_ck.mp h
        refine z_isub C dX11_come_54 ?_
        have h := wpO_some.mp h
        exact z_ireturn T C dX11_come_55 hk12 rfl h
      · have h := (wpO_ite.mp h).2 q11
        refine z_bipush C dX11_come_35 (by decide) ?_
        have h := wpO_some.mp h
        exact z_ireturn T C dX11_come_37 (by decide) rfl h
  · have h := (wpO_mop.mp h).2 hr6
    subst hr6
    refine z_iconst C dX11_come_10 ?_
    have h := wpO_some.mp h
    exact z_ireturn T C dX11_come_11 (by decide) rfl h
noncomputable def fX8_price_j42 (x2 : Int) (σ : St) : Option Int :=
  some x2
noncomputable def fX8_price_l4 (x0 : Nat) (x1 : Nat) (n1 : Nat) (σ : St) (x2 : Int) (x3 : Int) : Option ((Int × Int) ⊕ Int) :=
  if gI σ 905 x0 0 ≤ x3 then (some (.inr x2)) else (ck (0 ≤ x3 ∧ x3 < 6) (lt (gP σ 904 x0 x3.toNat) (fun r7 => mop r7 (fun j9 => ck (j9 < gN σ 7) (ck (0 ≤ x3 ∧ x3 < 6) (lt (gP σ 904 x0 x3.toNat) (fun r13 => mop r13 (fun j15 => ck (j15 < gN σ 7) (ck (0 ≤ gI σ 806 j15 0 ∧ gI σ 806 j15 0 < (n1 : Int)) (ck (inr ((gI σ 803 j9 0) * (gI σ x1 0 ((gI σ 806 j15 0).toNat)))) (ck (inr (x2 + ((gI σ 803 j9 0) * (gI σ x1 0 ((gI σ 806 j15 0).toNat))))) (ck (inr (x3 + 1)) (some (.inl ((x2 + ((gI σ 803 j9 0) * (gI σ x1 0 ((gI σ 806 j15 0).toNat))), x3 + 1))))))))) none)))) none)))
noncomputable def fX8_price_j4 (x0 : Nat) (x1 : Nat) (n1 : Nat) (x2 : Int) (x3 : Int) (σ : St) : Option Int :=
  bnk (wh (fun s => fX8_price_l4 x0 x1 n1 σ s.1 s.2) ((x2, x3))) (fun e => fX8_price_j42 e σ)
noncomputable def fX8_price (x0 : Nat) (x1 : Nat) (n1 : Nat) (σ : St) : Option Int :=
  fX8_price_j4 x0 x1 n1 0 0 σ
set_option maxRecDepth 20000 in
set_option maxHeartbeats 4000000 in
theorem ct_X8_price (x0 : Nat) (x1 : Nat) (n1 : Nat) (ha_x1 : la x1 = some (0, n1)) (hs_x1 : ∀ {κ : Cxt} {σ : St}, isT κ → okj κ σ x1 0) (hn_x1 : inr (n1 : Int)) : Ct yX8_price cX8_price 4 (some .int) 0 (fun ad => [vo ad 8 (some x0), vo ad x1 (some 0)]) (pu (fX8_price x0 x1 n1)) enI okI (fun σ => x0 < gN σ 8) := by
  refine Ct.of (by decide) (fun ad => Nat.le_of_ble_eq_true rfl) ?_
  intro κ ad σ X C T hpre h
  have C : Cx κ RX8 cX8_price 4 (some .int) 0 := C
  have h := wpO_pu.mp h
  have hx0 : x0 < gN σ 8 := hpre
  unfold fX8_price at h
  have J42 : ∀ (x2 : Int), inr x2 → wpO (fX8_price_j42 x2 σ) (fun r => X r σ) → Z κ (0, 0) (Qm κ ad σ enI okI X) 42 [(2, vi x2)] [] ad σ := by
    intro x2 hx2 h
    unfold fX8_price_j42 at h
    refine z_rng (fun hI1 hJ2 => ?_)
    refine z_iload_n C 0 dX8_price_42 rfl ?_
    have h := wpO_some.mp h
    exact z_ireturn T C dX8_price_43 hx2 rfl h
  have J4 : ∀ (x0 : Nat) (x2 : Int) (x3 : Int), x0 < gN σ 8 → inr x2 → inr x3 → wpO (fX8_price_j4 x0 x1 n1 x2 x3 σ) (fun r => X r σ) → Z κ (0, 0) (Qm κ ad σ enI okI X) 4 [(0, vo ad 8 (some x0)), (1, vo ad x1 (some 0)), (2, vi x2), (3, vi x3)] [] ad σ := by
    intro x0 x2 x3 hx0 hx2 hx3 h
    unfold fX8_price_j4 at h
    have step : ∀ (P4 : (Int × Int) → Prop) (Q4 : Int → Prop), (∀ (x2 : Int) (x3 : Int), P4 ((x2, x3)) → inr x2 → inr x3 → Z κ (0, 0) (Qm κ ad σ enI okI X) 4 [(0, vo ad 8 (some x0)), (1, vo ad x1 (some 0)), (2, vi x2), (3, vi x3)] [] ad σ) → (∀ (x2 : Int), Q4 (x2) → inr x2 → Z κ (0, 0) (Qm κ ad σ enI okI X) 42 [(2, vi x2)] [] ad σ) → ∀ (x2 : Int) (x3 : Int), inr x2 → inr x3 → wpO (fX8_price_l4 x0 x1 n1 σ x2 x3) (onS P4 Q4) → Z κ (0, 0) (Qm κ ad σ enI okI X) 4 [(0, vo ad 8 (some x0)), (1, vo ad x1 (some 0)), (2, vi x2), (3, vi x3)] [] ad σ := by
      intro P4 Q4 hP4 hE4_42 x2 x3 hx2 hx3 h
      unfold fX8_price_l4 at h
      refine z_rng (fun hI3 hJ4 => ?_)
      refine z_iload_n C 3 dX8_price_4 rfl ?_
      refine z_aload_n C 0 dX8_price_5 rfl ?_
      refine z_gIv (v := gI σ 905 x0 0) C li_X8_30 (nN rfl hx0) rfl dX8_price_6 ?_
      refine z_icmp_ge C 42 hx3 (hI3 905 x0 _) dX8_price_9 (by decide) (fun q5 => ?_) (fun q5 => ?_)
      · have h := (wpO_ite.mp h).1 q5
        refine z_sub [2] rfl ?_
        have h := wpO_some.mp h
        exact hE4_42 x2 h hx2
      · have h := (wpO_ite.mp h).2 q5
        refine z_iload_n C 2 dX8_price_12 rfl ?_
        refine z_aload_n C 0 dX8_price_13 rfl ?_
        refine z_gA T C li_X8_11 (nN rfl hx0) dX8_price_14 ?_
        refine z_iload_n C 3 dX8_price_17 rfl ?_
        obtain ⟨hb6, h⟩ := wpO_ck.mp h
        refine z_aald (K := 7) (t0 := 4) C ar_904 (fun _ => rfl) (nN9 T rfl hx0) hx3 hb6 dX8_price_18 (fun r7 hr8 => ?_)
        have h := lt_elim h r7 hr8
        obtain ⟨j9, hr10, h⟩ := mop_none h
        subst hr10
        obtain ⟨hj11, h⟩ := wpO_ck.mp h
        refine z_gIv (v := gI σ 803 j9 0) C li_X8_40 (nN rfl (toN rfl hj11)) rfl dX8_price_19 ?_
        refine z_aload_n C 1 dX8_price_22 rfl ?_
        refine z_aload_n C 0 dX8_price_23 rfl ?_
        refine z_gA T C li_X8_11 (nN rfl hx0) dX8_price_24 ?_
        refine z_iload_n C 3 dX8_price_27 rfl ?_
        obtain ⟨hb12, h⟩ := wpO_ck.mp h
        refine z_aald (K := 7) (t0 := 4) C ar_904 (fun _ => rfl) (nN9 T rfl hx0) hx3 hb12 dX8_price_28 (fun r13 hr14 => ?_)
        have h := lt_elim h r13 hr14
        obtain ⟨j15, hr16, h⟩ := mop_none h
        subst hr16
        obtain ⟨hj17, h⟩ := wpO_ck.mp h
        refine z_gIv (v := gI σ 806 j15 0) C li_X8_57 (nN rfl (toN rfl hj17)) rfl dX8_price_29 ?_
        obtain ⟨hb18, h⟩ := wpO_ck.mp h
        refine z_iav (v := gI σ x1 0 ((gI σ 806 j15 0).toNat)) C ha_x1 (hs_x1 T) (hI3 806 j15 _) hb18 rfl dX8_price_32 ?_
        obtain ⟨hk19, h⟩ := wpO_ck.mp h
        refine z_imul C dX8_price_33 ?_
        obtain ⟨hk20, h⟩ := wpO_ck.mp h
        refine z_iadd C dX8_price_34 ?_
        refine z_istore_n (lv2 := [(2, vi (x2 + ((gI σ 803 j9 0) * (gI σ x1 0 ((gI σ 806 j15 0).toNat))))), (0, vo ad 8 (some x0)), (1, vo ad x1 (some 0)), (3, vi x3)]) C dX8_price_35 (by decide) rfl ?_
        obtain ⟨hk21, h⟩ := wpO_ck.mp h
        refine z_iinc (lv2 := [(3, vi (x3 + 1)), (2, vi (x2 + ((gI σ 803 j9 0) * (gI σ x1 0 ((gI σ 806 j15 0).toNat))))), (0, vo ad 8 (some x0)), (1, vo ad x1 (some 0))]) C 3 dX8_price_36 rfl (by decide) rfl ?_
        refine z_goto C 4 dX8_price_39 (by decide) ?_
        refine z_sub [2, 3, 1, 0] rfl ?_
        have h := wpO_some.mp h
        exact hP4 (x2 + ((gI σ 803 j9 0) * (gI σ x1 0 ((gI σ 806 j15 0).toNat)))) (x3 + 1) h hk20 hk21
    exact wh_ind (P := fun s : (Int × Int) => inr s.1 → inr s.2 → Z κ (0, 0) (Qm κ ad σ enI okI X) 4 [(0, vo ad 8 (some x0)), (1, vo ad x1 (some 0)), (2, vi s.1), (3, vi s.2)] [] ad σ) (fun s hs g0 g1 => step _ _ (fun _ _ hp => hp) (fun x2 hq hx2 => J42 x2 hx2 hq) s.1 s.2 g0 g1 hs) ((x2, x3)) (wpO_bnk.mp h) hx2 hx3
  show Z κ (0, 0) (Qm κ ad σ enI okI X) 0 [(0, vo ad 8 (some x0)), (1, vo ad x1 (some 0))] [] ad σ
  refine z_rng (fun hI22 hJ23 => ?_)
  refine z_iconst C dX8_price_0 ?_
  refine z_istore_n (lv2 := [(2, vi 0), (0, vo ad 8 (some x0)), (1, vo ad x1 (some 0))]) C dX8_price_1 (by decide) rfl ?_
  refine z_iconst C dX8_price_2 ?_
  refine z_istore_n (lv2 := [(3, vi 0), (2, vi 0), (0, vo ad 8 (some x0)), (1, vo ad x1 (some 0))]) C dX8_price_3 (by decide) rfl ?_
  refine z_sub [2, 3, 1, 0] rfl ?_
  exact J4 x0 0 0 hx0 (by decide) (by decide) h
noncomputable def fX11_cost (x1 : Int) (σ : St) : Option Int :=
  bnk (fX11_storyNumbered x1 σ) (fun r3 => mop r3 (fun j5 => ck (j5 < gN σ 8) (bnk (fX8_price j5 1208 3 σ) (fun r8 => some r8))) (some ((-1))))
set_option maxRecDepth 20000 in
set_option maxHeartbeats 4000000 in
theorem ct_X11_cost (x1 : Int) (hx1 : inr x1) : Ct yX11_cost cX11_cost 3 (some .int) 2 (fun ad => [vo ad 11 (some 0), vi x1]) (pu (fX11_cost x1)) enI okI (fun _ => True) := by
  refine Ct.of (by decide) (fun ad => Nat.le_of_ble_eq_true rfl) ?_
  intro κ ad σ X C T hpre h
  have C : Cx κ RX11 cX11_cost 3 (some .int) 2 := C
  have h := wpO_pu.mp h
  unfold fX11_cost at h
  show Z κ (0, 0) (Qm κ ad σ enI okI X) 0 [(0, vo ad 11 (some 0)), (1, vi x1)] [] ad σ
  refine z_rng (fun hI1 hJ2 => ?_)
  refine z_aload_n C 0 dX11_cost_0 rfl ?_
  refine z_iload_n C 1 dX11_cost_1 rfl ?_
  refine z_cVp (st := []) T C (ct_X11_storyNumbered x1 hx1) lm_X11_205 lv_vX11_storyNumbered dX11_cost_2 [vi x1] rfl rfl rfl rfl rfl (sg_11 T) trivial (by decide) (Nat.le_of_ble_eq_true rfl) csOK_0 h (fun r3 hr4 h => ?_)
  show Z κ (0, 0) _ 5 _ [vo ad 8 r3] ad σ
  refine z_astore_n (lv2 := [(2, vo ad 8 r3), (0, vo ad 11 (some 0)), (1, vi x1)]) C dX11_cost_5 (by decide) rfl ?_
  refine z_aload_n C 0 dX11_cost_6 rfl ?_
  refine z_ifnonnull C 14 dX11_cost_7 (by decide) (fun j5 hr6 => ?_) (fun hr6 => ?_)
  · have h := (wpO_mop.mp h).1 j5 hr6
    subst hr6
    obtain ⟨hj7, h⟩ := wpO_ck.mp h
    refine z_aload_n C 0 dX11_cost_14 rfl ?_
    refine z_aload_n C 1 dX11_cost_15 rfl ?_
    refine z_gA T C li_X11_39 (sg_11 T) dX11_cost_16 ?_
    refine z_cVp (st := []) T C (ct_X8_price j5 1208 3 ar_1208 (fun T => sg_1208 T) (by decide)) lm_X11_253 lv_vX8_price dX11_cost_19 [vo ad 1208 (some 0)] rfl rfl rfl rfl rfl (nN rfl (toN rfl hj7)) (nNl rfl (toN rfl hj7)) (by decide) (Nat.le_of_ble_eq_true rfl) csOK_0 h (fun r8 hr9 h => ?_)
    show Z κ (0, 0) _ 22 _ [vi r8] ad σ
    have h := wpO_some.mp h
    exact z_ireturn T C dX11_cost_22 hr9 rfl h
  · have h := (wpO_mop.mp h).2 hr6
    subst hr6
    refine z_iconst C dX11_cost_10 ?_
    refine z_goto C 22 dX11_cost_11 (by decide) ?_
    have h := wpO_some.mp h
    exact z_ireturn T C dX11_cost_22 (by decide) rfl h
noncomputable def fX11_shotsIn_j38 (x1 : Int) (σ : St) : Option Int :=
  some x1
noncomputable def fX11_shotsIn_j32 (x1 : Int) (x2 : Int) (σ : St) : Option ((Int × Int) ⊕ Int) :=
  ck (inr (x2 + 1)) (some (.inl ((x1, x2 + 1))))
noncomputable def fX11_shotsIn_l4 (σ : St) (x1 : Int) (x2 : Int) : Option ((Int × Int) ⊕ Int) :=
  if gI σ 1204 0 0 ≤ x2 then (some (.inr x1)) else (ck (0 ≤ x2 ∧ x2 < 40) (lt (gP σ 1203 0 x2.toNat) (fun r10 => mop r10 (fun j12 => ck (j12 < gN σ 7) (bnk (fX7_whereAt j12 (gI σ 1200 0 0) σ) (fun r15 => if r15 = 3 then (ck (inr (x1 + 1)) (fX11_shotsIn_j32 (x1 + 1) x2 σ)) else (fX11_shotsIn_j32 x1 x2 σ)))) none)))
noncomputable def fX11_shotsIn_j4 (x1 : Int) (x2 : Int) (σ : St) : Option Int :=
  bnk (wh (fun s => fX11_shotsIn_l4 σ s.1 s.2) ((x1, x2))) (fun e => fX11_shotsIn_j38 e σ)
noncomputable def fX11_shotsIn (σ : St) : Option Int :=
  fX11_shotsIn_j4 0 0 σ
set_option maxRecDepth 20000 in
set_option maxHeartbeats 4000000 in
theorem ct_X11_shotsIn  : Ct yX11_shotsIn cX11_shotsIn 3 (some .int) 1 (fun ad => [vo ad 11 (some 0)]) (pu (fX11_shotsIn)) enI okI (fun _ => True) := by
  refine Ct.of (by decide) (fun ad => Nat.le_of_ble_eq_true rfl) ?_
  intro κ ad σ X C T hpre h
  have C : Cx κ RX11 cX11_shotsIn 3 (some .int) 1 := C
  have h := wpO_pu.mp h
  unfold fX11_shotsIn at h
  have J38 : ∀ (x1 : Int), inr x1 → wpO (fX11_shotsIn_j38 x1 σ) (fun r => X r σ) → Z κ (0, 0) (Qm κ ad σ enI okI X) 38 [(1, vi x1)] [] ad σ := by
    intro x1 hx1 h
    unfold fX11_shotsIn_j38 at h
    refine z_rng (fun hI1 hJ2 => ?_)
    refine z_iload_n C 0 dX11_shotsIn_38 rfl ?_
    have h := wpO_some.mp h
    exact z_ireturn T C dX11_shotsIn_39 hx1 rfl h
  have J4 : ∀ (x1 : Int) (x2 : Int), inr x1 → inr x2 → wpO (fX11_shotsIn_j4 x1 x2 σ) (fun r => X r σ) → Z κ (0, 0) (Qm κ ad σ enI okI X) 4 [(0, vo ad 11 (some 0)), (1, vi x1), (2, vi x2)] [] ad σ := by
    intro x1 x2 hx1 hx2 h
    unfold fX11_shotsIn_j4 at h
    have step : ∀ (P4 : (Int × Int) → Prop) (Q4 : Int → Prop), (∀ (x1 : Int) (x2 : Int), P4 ((x1, x2)) → inr x1 → inr x2 → Z κ (0, 0) (Qm κ ad σ enI okI X) 4 [(0, vo ad 11 (some 0)), (1, vi x1), (2, vi x2)] [] ad σ) → (∀ (x1 : Int), Q4 (x1) → inr x1 → Z κ (0, 0) (Qm κ ad σ enI okI X) 38 [(1, vi x1)] [] ad σ) → ∀ (x1 : Int) (x2 : Int), inr x1 → inr x2 → wpO (fX11_shotsIn_l4 σ x1 x2) (onS P4 Q4) → Z κ (0, 0) (Qm κ ad σ enI okI X) 4 [(0, vo ad 11 (some 0)), (1, vi x1), (2, vi x2)] [] ad σ := by
      intro P4 Q4 hP4 hE4_38 x1 x2 hx1 hx2 h
      unfold fX11_shotsIn_l4 at h
      have J32 : ∀ (x1 : Int) (x2 : Int), inr x1 → inr x2 → wpO (fX11_shotsIn_j32 x1 x2 σ) (onS P4 Q4) → Z κ (0, 0) (Qm κ ad σ enI okI X) 32 [(0, vo ad 11 (some 0)), (1, vi x1), (2, vi x2)] [] ad σ := by
        intro x1 x2 hx1 hx2 h
        unfold fX11_shotsIn_j32 at h
        refine z_rng (fun hI3 hJ4 => ?_)
        obtain ⟨hk5, h⟩ := wpO_ck.mp h
        refine z_iinc (lv2 := [(2, vi (x2 + 1)), (0, vo ad 11 (some 0)), (1, vi x1)]) C 2 dX11_shotsIn_32 rfl (by decide) rfl ?_
        refine z_goto C 4 dX11_shotsIn_35 (by decide) ?_
        refine z_sub [1, 2, 0] rfl ?_
        have h := wpO_some.mp h
        exact hP4 x1 (x2 + 1) h hx1 hk5
      refine z_rng (fun hI6 hJ7 => ?_)
      refine z_iload_n C 2 dX11_shotsIn_4 rfl ?_
      refine z_aload_n C 0 dX11_shotsIn_5 rfl ?_
      refine z_gIv (v := gI σ 1204 0 0) C li_X11_131 (sg_11 T) rfl dX11_shotsIn_6 ?_
      refine z_icmp_ge C 38 hx2 (hI6 1204 0 _) dX11_shotsIn_9 (by decide) (fun q8 => ?_) (fun q8 => ?_)
      · have h := (wpO_ite.mp h).1 q8
        refine z_sub [1] rfl ?_
        have h := wpO_some.mp h
        exact hE4_38 x1 h hx1
      · have h := (wpO_ite.mp h).2 q8
        refine z_aload_n C 0 dX11_shotsIn_12 rfl ?_
        refine z_gA T C li_X11_25 (sg_11 T) dX11_shotsIn_13 ?_
        refine z_iload_n C 2 dX11_shotsIn_16 rfl ?_
        obtain ⟨hb9, h⟩ := wpO_ck.mp h
        refine z_aald (K := 7) (t0 := 4) C ar_1203 (fun _ => rfl) (sg_1203 T) hx2 hb9 dX11_shotsIn_17 (fun r10 hr11 => ?_)
        have h := lt_elim h r10 hr11
        refine z_aload_n C 0 dX11_shotsIn_18 rfl ?_
        refine z_gIv (v := gI σ 1200 0 0) C li_X11_87 (sg_11 T) rfl dX11_shotsIn_19 ?_
        obtain ⟨j12, hr13, h⟩ := mop_none h
        subst hr13
        obtain ⟨hj14, h⟩ := wpO_ck.mp h
        refine z_cVp (st := []) T C (ct_X7_whereAt j12 (gI σ 1200 0 0) (hI6 1200 0 _)) lm_X11_166 lv_vX7_whereAt dX11_shotsIn_22 [vi (gI σ 1200 0 0)] rfl rfl rfl rfl rfl (nN rfl (toN rfl hj14)) (nNl rfl (toN rfl hj14)) (by decide) (Nat.le_of_ble_eq_true rfl) csOK_0 h (fun r15 hr16 h => ?_)
        show Z κ (0, 0) _ 25 _ [vi r15] ad σ
        refine z_iconst C dX11_shotsIn_25 ?_
        refine z_icmp_ne C 32 hr16 (by decide) dX11_shotsIn_26 (by decide) (fun q17 => ?_) (fun q17 => ?_)
        · have h := (wpO_ite.mp h).2 q17
          exact J32 x1 x2 hx1 hx2 h
        · have h := (wpO_ite.mp h).1 q17
          obtain ⟨hk18, h⟩ := wpO_ck.mp h
          refine z_iinc (lv2 := [(1, vi (x1 + 1)), (0, vo ad 11 (some 0)), (2, vi x2)]) C 1 dX11_shotsIn_29 rfl (by decide) rfl ?_
          refine z_sub [1, 0, 2] rfl ?_
          exact J32 (x1 + 1) x2 hk18 hx2 h
    exact wh_ind (P := fun s : (Int × Int) => inr s.1 → inr s.2 → Z κ (0, 0) (Qm κ ad σ enI okI X) 4 [(0, vo ad 11 (some 0)), (1, vi s.1), (2, vi s.2)] [] ad σ) (fun s hs g0 g1 => step _ _ (fun _ _ hp => hp) (fun x1 hq hx1 => J38 x1 hx1 hq) s.1 s.2 g0 g1 hs) ((x1, x2)) (wpO_bnk.mp h) hx1 hx2
  show Z κ (0, 0) (Qm κ ad σ enI okI X) 0 [(0, vo ad 11 (some 0))] [] ad σ
  refine z_rng (fun hI19 hJ20 => ?_)
  refine z_iconst C dX11_shotsIn_0 ?_
  refine z_istore_n (lv2 := [(1, vi 0), (0, vo ad 11 (some 0))]) C dX11_shotsIn_1 (by decide) rfl ?_
  refine z_iconst C dX11_shotsIn_2 ?_
  refine z_istore_n (lv2 := [(2, vi 0), (1, vi 0), (0, vo ad 11 (some 0))]) C dX11_shotsIn_3 (by decide) rfl ?_
  refine z_sub [2, 1, 0] rfl ?_
  exact J4 0 0 (by decide) (by decide) h
noncomputable def fX11_count (x1 : Int) (σ : St) : Option Int :=
  if x1 = 0 then (some (gI σ 1204 0 0)) else (if x1 = 1 then (bnk (fX11_shotsIn σ) (fun r5 => some r5)) else (if x1 = 2 then (some (gI σ 1206 0 0)) else (if x1 = 3 then (some (gI σ 1210 0 0)) else (if x1 = 4 then (some (gI σ 1214 0 0)) else (if x1 = 5 then (some (gI σ 102 0 0)) else (if x1 = 6 then (some (gI σ 300 0 0)) else (if x1 = 7 then (some (gI σ 1200 0 0)) else (some ((-2))))))))))
set_option maxRecDepth 20000 in
set_option maxHeartbeats 4000000 in
theorem ct_X11_count (x1 : Int) (hx1 : inr x1) : Ct yX11_count cX11_count 2 (some .int) 2 (fun ad => [vo ad 11 (some 0), vi x1]) (pu (fX11_count x1)) enI okI (fun _ => True) := by
  refine Ct.of (by decide) (fun ad => Nat.le_of_ble_eq_true rfl) ?_
  intro κ ad σ X C T hpre h
  have C : Cx κ RX11 cX11_count 2 (some .int) 2 := C
  have h := wpO_pu.mp h
  unfold fX11_count at h
  show Z κ (0, 0) (Qm κ ad σ enI okI X) 0 [(0, vo ad 11 (some 0)), (1, vi x1)] [] ad σ
  refine z_rng (fun hI1 hJ2 => ?_)
  refine z_iload_n C 1 dX11_count_0 rfl ?_
  by_cases q3 : x1 = 0
  · have h := (wpO_ite.mp h).1 q3
    refine z_tableIn (off := 47) C 48 hx1 dX11_count_1 (by omega) (by omega) (by rw [q3]; rfl) (by decide) ?_
    refine z_aload_n C 0 dX11_count_48 rfl ?_
    refine z_gIv (v := gI σ 1204 0 0) C li_X11_131 (sg_11 T) rfl dX11_count_49 ?_
    have h := wpO_some.mp h
    exact z_ireturn T C dX11_count_52 (hI1 1204 0 _) rfl h
  have h := (wpO_ite.mp h).2 q3
  by_cases q4 : x1 = 1
  · have h := (wpO_ite.mp h).1 q4
    refine z_tableIn (off := 52) C 53 hx1 dX11_count_1 (by omega) (by omega) (by rw [q4]; rfl) (by decide) ?_
    refine z_aload_n C 0 dX11_count_53 rfl ?_
    refine z_cVp (st := []) T C ct_X11_shotsIn lm_X11_385 lv_vX11_shotsIn dX11_count_54 [] rfl rfl rfl rfl rfl (sg_11 T) trivial (by decide) (Nat.le_of_ble_eq_true rfl) csOK_0 h (fun r5 hr6 h => ?_)
    show Z κ (0, 0) _ 57 _ [vi r5] ad σ
    have h := wpO_some.mp h
    exact z_ireturn T C dX11_count_57 hr6 rfl h
  have h := (wpO_ite.mp h).2 q4
  by_cases q7 : x1 = 2
  · have h := (wpO_ite.mp h).1 q7
    refine z_tableIn (off := 57) C 58 hx1 dX11_count_1 (by omega) (by omega) (by rw [q7]; rfl) (by decide) ?_
    refine z_aload_n C 0 dX11_count_58 rfl ?_
    refine z_gIv (v := gI σ 1206 0 0) C li_X11_200 (sg_11 T) rfl dX11_count_59 ?_
    have h := wpO_some.mp h
    exact z_ireturn T C dX11_count_62 (hI1 1206 0 _) rfl h
  have h := (wpO_ite.mp h).2 q7
  by_cases q8 : x1 = 3
  · have h := (wpO_ite.mp h).1 q8
    refine z_tableIn (off := 62) C 63 hx1 dX11_count_1 (by omega) (by omega) (by rw [q8]; rfl) (by decide) ?_
    refine z_aload_n C 0 dX11_count_63 rfl ?_
    refine z_gIv (v := gI σ 1210 0 0) C li_X11_260 (sg_11 T) rfl dX11_count_64 ?_
    have h := wpO_some.mp h
    exact z_ireturn T C dX11_count_67 (hI1 1210 0 _) rfl h
  have h := (wpO_ite.mp h).2 q8
  by_cases q9 : x1 = 4
  · have h := (wpO_ite.mp h).1 q9
    refine z_tableIn (off := 67) C 68 hx1 dX11_count_1 (by omega) (by omega) (by rw [q9]; rfl) (by decide) ?_
    refine z_aload_n C 0 dX11_count_68 rfl ?_
    refine z_gIv (v := gI σ 1214 0 0) C li_X11_298 (sg_11 T) rfl dX11_count_69 ?_
    have h := wpO_some.mp h
    exact z_ireturn T C dX11_count_72 (hI1 1214 0 _) rfl h
  have h := (wpO_ite.mp h).2 q9
  by_cases q10 : x1 = 5
  · have h := (wpO_ite.mp h).1 q10
    refine z_tableIn (off := 72) C 73 hx1 dX11_count_1 (by omega) (by omega) (by rw [q10]; rfl) (by decide) ?_
    refine z_aload_n C 0 dX11_count_73 rfl ?_
    refine z_gR T C li_X11_72 (sg_11 T) dX11_count_74 ?_
    refine z_gIv (v := gI σ 102 0 0) C li_X11_356 (sg_0 T) rfl dX11_count_77 ?_
    have h := wpO_some.mp h
    exact z_ireturn T C dX11_count_80 (hI1 102 0 _) rfl h
  have h := (wpO_ite.mp h).2 q10
  by_cases q11 : x1 = 6
  · have h := (wpO_ite.mp h).1 q11
    refine z_tableIn (off := 80) C 81 hx1 dX11_count_1 (by omega) (by omega) (by rw [q11]; rfl) (by decide) ?_
    refine z_aload_n C 0 dX11_count_81 rfl ?_
    refine z_gR T C li_X11_79 (sg_11 T) dX11_count_82 ?_
    refine z_gIv (v := gI σ 300 0 0) C li_X11_379 (sg_2 T) rfl dX11_count_85 ?_
    have h := wpO_some.mp h
    exact z_ireturn T C dX11_count_88 (hI1 300 0 _) rfl h
  have h := (wpO_ite.mp h).2 q11
  by_cases q12 : x1 = 7
  · have h := (wpO_ite.mp h).1 q12
    refine z_tableIn (off := 88) C 89 hx1 dX11_count_1 (by omega) (by omega) (by rw [q12]; rfl) (by decide) ?_
    refine z_aload_n C 0 dX11_count_89 rfl ?_
    refine z_gIv (v := gI σ 1200 0 0) C li_X11_87 (sg_11 T) rfl dX11_count_90 ?_
    have h := wpO_some.mp h
    exact z_ireturn T C dX11_count_93 (hI1 1200 0 _) rfl h
  have h := (wpO_ite.mp h).2 q12
  refine z_tableOut C 94 hx1 dX11_count_1 (by omega) (by decide) ?_
  refine z_bipush C dX11_count_94 (by decide) ?_
  have h := wpO_some.mp h
  exact z_ireturn T C dX11_count_96 (by decide) rfl h
noncomputable def fX11_cover (σ : St) : Option (Int × St) :=
  bnd (fX0_plan σ) (fun _ σ5 => some (gI σ5 110 0 0, σ5))
set_option maxRecDepth 20000 in
set_option maxHeartbeats 4000000 in
theorem ct_X11_cover  : Ct yX11_cover cX11_cover 1 (some .int) 5 (fun ad => [vo ad 11 (some 0)]) fX11_cover enI okI (fun _ => True) := by
  refine Ct.of (by decide) (fun ad => Nat.le_of_ble_eq_true rfl) ?_
  intro κ ad σ X C T hpre h
  have C : Cx κ RX11 cX11_cover 1 (some .int) 5 := C
  unfold fX11_cover at h
  show Z κ (0, 0) (Qm κ ad σ enI okI X) 0 [(0, vo ad 11 (some 0))] [] ad σ
  refine z_rng (fun hI1 hJ2 => ?_)
  refine z_aload_n C 0 dX11_cover_0 rfl ?_
  refine z_gR T C li_X11_72 (sg_11 T) dX11_cover_1 ?_
  refine z_aload_n C 0 dX11_cover_4 rfl ?_
  refine z_gR T C li_X11_10 (sg_11 T) dX11_cover_5 ?_
  refine z_cV (st := []) T C ct_X0_plan lm_X11_351 lv_vX0_plan dX11_cover_8 [vo ad 9 (some 0)] rfl rfl rfl rfl rfl (sg_0 T) trivial (by decide) (Nat.le_of_ble_eq_true rfl) csOK_0 h (fun r3 σ5 hr4 eN6 h => ?_)
  show Z κ (0, 0) _ 11 _ [] ad σ5
  refine z_rng (fun hI7 hJ8 => ?_)
  refine z_aload_n C 0 dX11_cover_11 rfl ?_
  refine z_gR T C li_X11_72 (sg_11 T) dX11_cover_12 ?_
  refine z_gIv (v := gI σ5 110 0 0) C li_X11_355 (sg_0 T) rfl dX11_cover_15 ?_
  have h := wpO_some.mp h
  exact z_ireturn T C dX11_cover_18 (hI7 110 0 _) eN6 h
noncomputable def fX11_covered (x1 : Int) (σ : St) : Option (Int × St) :=
  ck (inr ((gI σ 102 0 0) - 1)) (bnk (fX11_within x1 0 ((gI σ 102 0 0) - 1)) (fun r4 => if r4 = 0 then (some ((-1), σ)) else (bnd (fX0_plan σ) (fun _ σ9 => bnk (fX11_hasMember (gI σ9 111 0 0) x1) (fun r13 => if r13 = 0 then (bnk (fX11_hasMember (gI σ9 112 0 0) x1) (fun r16 => bnk (fX11_asNumber r16) (fun r18 => some (r18, σ9)))) else (some (2, σ9)))))))
set_option maxRecDepth 20000 in
set_option maxHeartbeats 4000000 in
theorem ct_X11_covered (x1 : Int) (hx1 : inr x1) : Ct yX11_covered cX11_covered 2 (some .int) 5 (fun ad => [vo ad 11 (some 0), vi x1]) (fX11_covered x1) enI okI (fun _ => True) := by
  refine Ct.of (by decide) (fun ad => Nat.le_of_ble_eq_true rfl) ?_
  intro κ ad σ X C T hpre h
  have C : Cx κ RX11 cX11_covered 2 (some .int) 5 := C
  unfold fX11_covered at h
  show Z κ (0, 0) (Qm κ ad σ enI okI X) 0 [(0, vo ad 11 (some 0)), (1, vi x1)] [] ad σ
  refine z_rng (fun hI1 hJ2 => ?_)
  refine z_iload_n C 1 dX11_covered_0 rfl ?_
  refine z_iconst C dX11_covered_1 ?_
  refine z_aload_n C 0 dX11_covered_2 rfl ?_
  refine z_gR T C li_X11_72 (sg_11 T) dX11_covered_3 ?_
  refine z_gIv (v := gI σ 102 0 0) C li_X11_356 (sg_0 T) rfl dX11_covered_6 ?_
  refine z_iconst C dX11_covered_9 ?_
  obtain ⟨hk3, h⟩ := wpO_ck.mp h
  refine z_isub C dX11_covered_10 ?_
  refine z_cSp (st := []) T C (ct_X11_within x1 0 ((gI σ 102 0 0) - 1) hx1 (by decide) hk3) lm_X11_83 ls_X11_within dX11_covered_11 rfl rfl trivial (by decide) (Nat.le_of_ble_eq_true rfl) csOK_0 h (fun r4 hr5 h => ?_)
  show Z κ (0, 0) _ 14 _ [vi r4] ad σ
  refine z_if_ne C 19 (inr_b hr5) dX11_covered_14 (by decide) (fun q6 => ?_) (fun q6 => ?_)
  · have h := (wpO_ite.mp h).2 q6
    refine z_aload_n C 0 dX11_covered_19 rfl ?_
    refine z_gR T C li_X11_72 (sg_11 T) dX11_covered_20 ?_
    refine z_aload_n C 0 dX11_covered_23 rfl ?_
    refine z_gR T C li_X11_10 (sg_11 T) dX11_covered_24 ?_
    refine z_cV (st := []) T C ct_X0_plan lm_X11_351 lv_vX0_plan dX11_covered_27 [vo ad 9 (some 0)] rfl rfl rfl rfl rfl (sg_0 T) trivial (by decide) (Nat.le_of_ble_eq_true rfl) csOK_0 h (fun r7 σ9 hr8 eN10 h => ?_)
    show Z κ (0, 0) _ 30 _ [] ad σ9
    refine z_rng (fun hI11 hJ12 => ?_)
    refine z_aload_n C 0 dX11_covered_30 rfl ?_
    refine z_gR T C li_X11_72 (sg_11 T) dX11_covered_31 ?_
    refine z_gIv (v := gI σ9 111 0 0) C li_X11_359 (sg_0 T) rfl dX11_covered_34 ?_
    refine z_iload_n C 1 dX11_covered_37 rfl ?_
    refine z_cSp (st := []) T C (ct_X11_hasMember (gI σ9 111 0 0) x1 (hI11 111 0 _) hx1) lm_X11_290 ls_X11_hasMember dX11_covered_38 rfl rfl trivial (by decide) (Nat.le_of_ble_eq_true rfl) csOK_0 h (fun r13 hr14 h => ?_)
    show Z κ (0, 0) _ 41 _ [vi r13] ad σ9
    refine z_if_eq C 46 (inr_b hr14) dX11_covered_41 (by decide) (fun q15 => ?_) (fun q15 => ?_)
    · have h := (wpO_ite.mp h).1 q15
      refine z_aload_n C 0 dX11_covered_46 rfl ?_
      refine z_gR T C li_X11_72 (sg_11 T) dX11_covered_47 ?_
      refine z_gIv (v := gI σ9 112 0 0) C li_X11_362 (sg_0 T) rfl dX11_covered_50 ?_
      refine z_iload_n C 1 dX11_covered_53 rfl ?_
      refine z_cSp (st := []) T C (ct_X11_hasMember (gI σ9 112 0 0) x1 (hI11 112 0 _) hx1) lm_X11_290 ls_X11_hasMember dX11_covered_54 rfl rfl trivial (by decide) (Nat.le_of_ble_eq_true rfl) csOK_0 h (fun r16 hr17 h => ?_)
      show Z κ (0, 0) _ 57 _ [vi r16] ad σ9
      refine z_cSp (st := []) T C (ct_X11_asNumber r16 hr17) lm_X11_223 ls_X11_asNumber dX11_covered_57 rfl rfl trivial (by decide) (Nat.le_of_ble_eq_true rfl) csOK_0 h (fun r18 hr19 h => ?_)
      show Z κ (0, 0) _ 60 _ [vi r18] ad σ9
      have h := wpO_some.mp h
      exact z_ireturn T C dX11_covered_60 hr19 eN10 h
    · have h := (wpO_ite.mp h).2 q15
      refine z_iconst C dX11_covered_44 ?_
      have h := wpO_some.mp h
      exact z_ireturn T C dX11_covered_45 (by decide) eN10 h
  · have h := (wpO_ite.mp h).1 q6
    refine z_iconst C dX11_covered_17 ?_
    have h := wpO_some.mp h
    exact z_ireturn T C dX11_covered_18 (by decide) rfl h
noncomputable def fX8_remove_j59 (x0 : Nat) (x2 : Int) (σ1 : St) : Option (Int × St) :=
  ck (inr ((gI σ1 905 x0 0) - 1)) (some (x2, sI σ1 905 x0 0 ((gI σ1 905 x0 0) - 1)))
noncomputable def fX8_remove_l31 (x0 : Nat) (x2 : Int) (x3 : Int) (σ1 : St) : Option ((Int × St) ⊕ St) :=
  if gI σ1 905 x0 0 ≤ x3 then (some (.inr σ1)) else (ck (inr (x3 - 1)) (ck (0 ≤ x3 ∧ x3 < 6) (lt (gP σ1 904 x0 x3.toNat) (fun r9 => ck (0 ≤ x3 - 1 ∧ x3 - 1 < 6) (ck (okrB σ1 7 r9 = true) (ck (inr (x3 + 1)) (some (.inl ((x3 + 1, sP σ1 904 x0 ((x3 - 1).toNat) r9))))))))))
noncomputable def fX8_remove_j31 (x0 : Nat) (x2 : Int) (x3 : Int) (σ1 : St) : Option (Int × St) :=
  bnk (wh (fun s => fX8_remove_l31 x0 x2 s.1 s.2) ((x3, σ1))) (fun e => fX8_remove_j59 x0 x2 e)
noncomputable def fX8_remove (x0 : Nat) (x1 : Int) (σ : St) : Option (Int × St) :=
  ck (inr ((gI σ 905 x0 0) - 1)) (bnk (fX11_within x1 0 ((gI σ 905 x0 0) - 1)) (fun r17 => if r17 = 0 then (some ((-2), σ)) else (ck (0 ≤ x1 ∧ x1 < 6) (lt (gP σ 904 x0 x1.toNat) (fun r21 => mop r21 (fun j23 => ck (j23 < gN σ 7) (ck (inr (x1 + 1)) (fX8_remove_j31 x0 (gI σ 800 j23 0) (x1 + 1) σ))) none)))))
set_option maxRecDepth 20000 in
set_option maxHeartbeats 4000000 in
theorem ct_X8_remove (x0 : Nat) (x1 : Int) (hx1 : inr x1) : Ct yX8_remove cX8_remove 4 (some .int) 1 (fun ad => [vo ad 8 (some x0), vi x1]) (fX8_remove x0 x1) enI okI (fun σ => x0 < gN σ 8) := by
  refine Ct.of (by decide) (fun ad => Nat.le_of_ble_eq_true rfl) ?_
  intro κ ad σ X C T hpre h
  have C : Cx κ RX8 cX8_remove 4 (some .int) 1 := C
  have hx0 : x0 < gN σ 8 := hpre
  unfold fX8_remove at h
  have J59 : ∀ (x0 : Nat) (x2 : Int) (σ1 : St), x0 < gN σ 8 → inr x2 → σ1.2.2.2 = σ.2.2.2 → wpO (fX8_remove_j59 x0 x2 σ1) (fun q => X q.1 q.2) → Z κ (0, 0) (Qm κ ad σ enI okI X) 59 [(0, vo ad 8 (some x0)), (2, vi x2)] [] ad σ1 := by
    intro x0 x2 σ1 hx0 hx2 eN1 h
    unfold fX8_remove_j59 at h
    refine z_rng (fun hI1 hJ2 => ?_)
    refine z_aload_n C 0 dX8_remove_59 rfl ?_
    refine z_dup C dX8_remove_60 rfl ?_
    refine z_gIv (v := gI σ1 905 x0 0) C li_X8_30 (nN eN1 hx0) rfl dX8_remove_61 ?_
    refine z_iconst C dX8_remove_64 ?_
    obtain ⟨hk3, h⟩ := wpO_ck.mp h
    refine z_isub C dX8_remove_65 ?_
    refine z_pI C lq_X8_30 (nN eN1 hx0) hk3 dX8_remove_66 ?_
    refine z_iload_n C 1 dX8_remove_69 rfl ?_
    have h := wpO_some.mp h
    exact z_ireturn T C dX8_remove_70 hx2 eN1 h
  have J31 : ∀ (x0 : Nat) (x2 : Int) (x3 : Int) (σ1 : St), x0 < gN σ 8 → inr x2 → inr x3 → σ1.2.2.2 = σ.2.2.2 → wpO (fX8_remove_j31 x0 x2 x3 σ1) (fun q => X q.1 q.2) → Z κ (0, 0) (Qm κ ad σ enI okI X) 31 [(0, vo ad 8 (some x0)), (2, vi x2), (3, vi x3)] [] ad σ1 := by
    intro x0 x2 x3 σ1 hx0 hx2 hx3 eN1 h
    unfold fX8_remove_j31 at h
    have step : ∀ (P31 : (Int × St) → Prop) (Q31 : St → Prop), (∀ (x3 : Int) (σ1 : St), P31 ((x3, σ1)) → inr x3 → σ1.2.2.2 = σ.2.2.2 → Z κ (0, 0) (Qm κ ad σ enI okI X) 31 [(0, vo ad 8 (some x0)), (2, vi x2), (3, vi x3)] [] ad σ1) → (∀ (σ1 : St), Q31 (σ1) → σ1.2.2.2 = σ.2.2.2 → Z κ (0, 0) (Qm κ ad σ enI okI X) 59 [(0, vo ad 8 (some x0)), (2, vi x2)] [] ad σ1) → ∀ (x3 : Int) (σ1 : St), inr x3 → σ1.2.2.2 = σ.2.2.2 → wpO (fX8_remove_l31 x0 x2 x3 σ1) (onS P31 Q31) → Z κ (0, 0) (Qm κ ad σ enI okI X) 31 [(0, vo ad 8 (some x0)), (2, vi x2), (3, vi x3)] [] ad σ1 := by
      intro P31 Q31 hP31 hE31_59 x3 σ1 hx3 eN1 h
      unfold fX8_remove_l31 at h
      refine z_rng (fun hI4 hJ5 => ?_)
      refine z_iload_n C 2 dX8_remove_31 rfl ?_
      refine z_aload_n C 0 dX8_remove_32 rfl ?_
      refine z_gIv (v := gI σ1 905 x0 0) C li_X8_30 (nN eN1 hx0) rfl dX8_remove_33 ?_
      refine z_icmp_ge C 59 hx3 (hI4 905 x0 _) dX8_remove_36 (by decide) (fun q6 => ?_) (fun q6 => ?_)
      · have h := (wpO_ite.mp h).1 q6
        refine z_sub [0, 1] rfl ?_
        have h := wpO_some.mp h
        exact hE31_59 σ1 h eN1
      · have h := (wpO_ite.mp h).2 q6
        refine z_aload_n C 0 dX8_remove_39 rfl ?_
        refine z_gA T C li_X8_11 (nN eN1 hx0) dX8_remove_40 ?_
        refine z_iload_n C 2 dX8_remove_43 rfl ?_
        refine z_iconst C dX8_remove_44 ?_
        obtain ⟨hk7, h⟩ := wpO_ck.mp h
        refine z_isub C dX8_remove_45 ?_
        refine z_aload_n C 0 dX8_remove_46 rfl ?_
        refine z_gA T C li_X8_11 (nN eN1 hx0) dX8_remove_47 ?_
        refine z_iload_n C 2 dX8_remove_50 rfl ?_
        obtain ⟨hb8, h⟩ := wpO_ck.mp h
        refine z_aald (K := 7) (t0 := 4) C ar_904 (fun _ => rfl) (nN9 T eN1 hx0) hx3 hb8 dX8_remove_51 (fun r9 hr10 => ?_)
        have h := lt_elim h r9 hr10
        obtain ⟨hb11, h⟩ := wpO_ck.mp h
        obtain ⟨hk12, h⟩ := wpO_ck.mp h
        refine z_aastore (K := 7) (t0 := 4) C ar_904 (fun _ => rfl) ⟨_, _, rfl⟩ rfl (nN9 T eN1 hx0) hk7 hb11 (okrB_use hk12) dX8_remove_52 ?_
        obtain ⟨hk13, h⟩ := wpO_ck.mp h
        refine z_iinc (lv2 := [(3, vi (x3 + 1)), (0, vo ad 8 (some x0)), (2, vi x2)]) C 2 dX8_remove_53 rfl (by decide) rfl ?_
        refine z_goto C 31 dX8_remove_56 (by decide) ?_
        refine z_sub [1, 2, 0] rfl ?_
        have h := wpO_some.mp h
        exact hP31 (x3 + 1) (sP σ1 904 x0 ((x3 - 1).toNat) r9) h hk13 eN1
    exact wh_ind (P := fun s : (Int × St) => inr s.1 → s.2.2.2.2 = σ.2.2.2 → Z κ (0, 0) (Qm κ ad σ enI okI X) 31 [(0, vo ad 8 (some x0)), (2, vi x2), (3, vi s.1)] [] ad s.2) (fun s hs g0 g1 => step _ _ (fun _ _ hp => hp) (fun σ1 hq eN1 => J59 x0 x2 σ1 hx0 hx2 eN1 hq) s.1 s.2 g0 g1 hs) ((x3, σ1)) (wpO_bnk.mp h) hx3 eN1
  show Z κ (0, 0) (Qm κ ad σ enI okI X) 0 [(0, vo ad 8 (some x0)), (1, vi x1)] [] ad σ
  refine z_rng (fun hI14 hJ15 => ?_)
  refine z_iload_n C 1 dX8_remove_0 rfl ?_
  refine z_iconst C dX8_remove_1 ?_
  refine z_aload_n C 0 dX8_remove_2 rfl ?_
  refine z_gIv (v := gI σ 905 x0 0) C li_X8_30 (nN rfl hx0) rfl dX8_remove_3 ?_
  refine z_iconst C dX8_remove_6 ?_
  obtain ⟨hk16, h⟩ := wpO_ck.mp h
  refine z_isub C dX8_remove_7 ?_
  refine z_cSp (st := []) T C (ct_X11_within x1 0 ((gI σ 905 x0 0) - 1) hx1 (by decide) hk16) lm_X8_33 ls_X11_within dX8_remove_8 rfl rfl trivial (by decide) (Nat.le_of_ble_eq_true rfl) csOK_0 h (fun r17 hr18 h => ?_)
  show Z κ (0, 0) _ 11 _ [vi r17] ad σ
  refine z_if_ne C 17 (inr_b hr18) dX8_remove_11 (by decide) (fun q19 => ?_) (fun q19 => ?_)
  · have h := (wpO_ite.mp h).2 q19
    refine z_aload_n C 0 dX8_remove_17 rfl ?_
    refine z_gA T C li_X8_11 (nN rfl hx0) dX8_remove_18 ?_
    refine z_iload_n C 1 dX8_remove_21 rfl ?_
    obtain ⟨hb20, h⟩ := wpO_ck.mp h
    refine z_aald (K := 7) (t0 := 4) C ar_904 (fun _ => rfl) (nN9 T rfl hx0) hx1 hb20 dX8_remove_22 (fun r21 hr22 => ?_)
    have h := lt_elim h r21 hr22
    obtain ⟨j23, hr24, h⟩ := mop_none h
    subst hr24
    obtain ⟨hj25, h⟩ := wpO_ck.mp h
    refine z_gIv (v := gI σ 800 j23 0) C li_X8_37 (nN rfl (toN rfl hj25)) rfl dX8_remove_23 ?_
    refine z_istore_n (lv2 := [(2, vi (gI σ 800 j23 0)), (0, vo ad 8 (some x0)), (1, vi x1)]) C dX8_remove_26 (by decide) rfl ?_
    refine z_iload_n C 2 dX8_remove_27 rfl ?_
    refine z_iconst C dX8_remove_28 ?_
    obtain ⟨hk26, h⟩ := wpO_ck.mp h
    refine z_iadd C dX8_remove_29 ?_
    refine z_istore_n (lv2 := [(3, vi (x1 + 1)), (2, vi (gI σ 800 j23 0)), (0, vo ad 8 (some x0)), (1, vi x1)]) C dX8_remove_30 (by decide) rfl ?_
    refine z_sub [2, 1, 0] rfl ?_
    exact J31 x0 (gI σ 800 j23 0) (x1 + 1) σ hx0 (hI14 800 j23 _) hk26 rfl h
  · have h := (wpO_ite.mp h).1 q19
    refine z_bipush C dX8_remove_14 (by decide) ?_
    have h := wpO_some.mp h
    exact z_ireturn T C dX8_remove_16 (by decide) rfl h
noncomputable def fX11_cut (x1 : Int) (x2 : Int) (σ : St) : Option (Int × St) :=
  bnk (fX11_storyNumbered x1 σ) (fun r3 => mop r3 (fun j5 => ck (j5 < gN σ 8) (bnd (fX8_remove j5 x2 σ) (fun r8 σ10 => some (r8, σ10)))) (some ((-1), σ)))
set_option maxRecDepth 20000 in
set_option maxHeartbeats 4000000 in
theorem ct_X11_cut (x1 : Int) (x2 : Int) (hx1 : inr x1) (hx2 : inr x2) : Ct yX11_cut cX11_cut 4 (some .int) 2 (fun ad => [vo ad 11 (some 0), vi x1, vi x2]) (fX11_cut x1 x2) enI okI (fun _ => True) := by
  refine Ct.of (by decide) (fun ad => Nat.le_of_ble_eq_true rfl) ?_
  intro κ ad σ X C T hpre h
  have C : Cx κ RX11 cX11_cut 4 (some .int) 2 := C
  unfold fX11_cut at h
  show Z κ (0, 0) (Qm κ ad σ enI okI X) 0 [(0, vo ad 11 (some 0)), (1, vi x1), (2, vi x2)] [] ad σ
  refine z_rng (fun hI1 hJ2 => ?_)
  refine z_aload_n C 0 dX11_cut_0 rfl ?_
  refine z_iload_n C 1 dX11_cut_1 rfl ?_
  refine z_cVp (st := []) T C (ct_X11_storyNumbered x1 hx1) lm_X11_205 lv_vX11_storyNumbered dX11_cut_2 [vi x1] rfl rfl rfl rfl rfl (sg_11 T) trivial (by decide) (Nat.le_of_ble_eq_true rfl) csOK_0 h (fun r3 hr4 h => ?_)
  show Z κ (0, 0) _ 5 _ [vo ad 8 r3] ad σ
  refine z_astore_n (lv2 := [(3, vo ad 8 r3), (0, vo ad 11 (some 0)), (1, vi x1), (2, vi x2)]) C dX11_cut_5 (by decide) rfl ?_
  refine z_aload_n C 0 dX11_cut_6 rfl ?_
  refine z_ifnonnull C 14 dX11_cut_7 (by decide) (fun j5 hr6 => ?_) (fun hr6 => ?_)
  · have h := (wpO_mop.mp h).1 j5 hr6
    subst hr6
    obtain ⟨hj7, h⟩ := wpO_ck.mp h
    refine z_aload_n C 0 dX11_cut_14 rfl ?_
    refine z_iload_n C 3 dX11_cut_15 rfl ?_
    refine z_cV (st := []) T C (ct_X8_remove j5 x2 hx2) lm_X11_217 lv_vX8_remove dX11_cut_16 [vi x2] rfl rfl rfl rfl rfl (nN rfl (toN rfl hj7)) (nNl rfl (toN rfl hj7)) (by decide) (Nat.le_of_ble_eq_true rfl) csOK_0 h (fun r8 σ10 hr9 eN11 h => ?_)
    show Z κ (0, 0) _ 19 _ [vi r8] ad σ10
    refine z_rng (fun hI12 hJ13 => ?_)
    have h := wpO_some.mp h
    exact z_ireturn T C dX11_cut_19 hr9 eN11 h
  · have h := (wpO_mop.mp h).2 hr6
    subst hr6
    refine z_iconst C dX11_cut_10 ?_
    refine z_goto C 19 dX11_cut_11 (by decide) ?_
    have h := wpO_some.mp h
    exact z_ireturn T C dX11_cut_19 (by decide) rfl h
noncomputable def fX11_event (x1 : Int) (x2 : Int) (x3 : Int) (σ : St) : Option (Int × St) :=
  bnk (fX11_isPlace x1) (fun r3 => if r3 = 0 then (some ((-1), σ)) else (bnk (fX11_isHour x2) (fun r6 => if r6 = 0 then (some ((-2), σ)) else (bnk (fX11_within x3 1 999) (fun r9 => if r9 = 0 then (some ((-2), σ)) else (bnd (fX0_announce x1 x2 x3 σ) (fun r12 σ14 => some (r12, σ14))))))))
set_option maxRecDepth 20000 in
set_option maxHeartbeats 4000000 in
theorem ct_X11_event (x1 : Int) (x2 : Int) (x3 : Int) (hx1 : inr x1) (hx2 : inr x2) (hx3 : inr x3) : Ct yX11_event cX11_event 4 (some .int) 2 (fun ad => [vo ad 11 (some 0), vi x1, vi x2, vi x3]) (fX11_event x1 x2 x3) enI okI (fun _ => True) := by
  refine Ct.of (by decide) (fun ad => Nat.le_of_ble_eq_true rfl) ?_
  intro κ ad σ X C T hpre h
  have C : Cx κ RX11 cX11_event 4 (some .int) 2 := C
  unfold fX11_event at h
  show Z κ (0, 0) (Qm κ ad σ enI okI X) 0 [(0, vo ad 11 (some 0)), (1, vi x1), (2, vi x2), (3, vi x3)] [] ad σ
  refine z_rng (fun hI1 hJ2 => ?_)
  refine z_iload_n C 1 dX11_event_0 rfl ?_
  refine z_cSp (st := []) T C (ct_X11_isPlace x1 hx1) lm_X11_90 ls_X11_isPlace dX11_event_1 rfl rfl trivial (by decide) (Nat.le_of_ble_eq_true rfl) csOK_0 h (fun r3 hr4 h => ?_)
  show Z κ (0, 0) _ 4 _ [vi r3] ad σ
  refine z_if_ne C 9 (inr_b hr4) dX11_event_4 (by decide) (fun q5 => ?_) (fun q5 => ?_)
  · have h := (wpO_ite.mp h).2 q5
    refine z_iload_n C 2 dX11_event_9 rfl ?_
    refine z_cSp (st := []) T C (ct_X11_isHour x2 hx2) lm_X11_94 ls_X11_isHour dX11_event_10 rfl rfl trivial (by decide) (Nat.le_of_ble_eq_true rfl) csOK_0 h (fun r6 hr7 h => ?_)
    show Z κ (0, 0) _ 13 _ [vi r6] ad σ
    refine z_if_eq C 27 (inr_b hr7) dX11_event_13 (by decide) (fun q8 => ?_) (fun q8 => ?_)
    · have h := (wpO_ite.mp h).1 q8
      refine z_bipush C dX11_event_27 (by decide) ?_
      have h := wpO_some.mp h
      exact z_ireturn T C dX11_event_29 (by decide) rfl h
    · have h := (wpO_ite.mp h).2 q8
      refine z_iload_n C 3 dX11_event_16 rfl ?_
      refine z_iconst C dX11_event_17 ?_
      refine z_sipush C dX11_event_18 (by decide) ?_
      refine z_cSp (st := []) T C (ct_X11_within x3 1 999 hx3 (by decide) (by decide)) lm_X11_83 ls_X11_within dX11_event_21 rfl rfl trivial (by decide) (Nat.le_of_ble_eq_true rfl) csOK_0 h (fun r9 hr10 h => ?_)
      show Z κ (0, 0) _ 24 _ [vi r9] ad σ
      refine z_if_ne C 30 (inr_b hr10) dX11_event_24 (by decide) (fun q11 => ?_) (fun q11 => ?_)
      · have h := (wpO_ite.mp h).2 q11
        refine z_aload_n C 0 dX11_event_30 rfl ?_
        refine z_gR T C li_X11_72 (sg_11 T) dX11_event_31 ?_
        refine z_iload_n C 1 dX11_event_34 rfl ?_
        refine z_iload_n C 2 dX11_event_35 rfl ?_
        refine z_iload_n C 3 dX11_event_36 rfl ?_
        refine z_cV (st := []) T C (ct_X0_announce x1 x2 x3 hx1 hx2 hx3) lm_X11_348 lv_vX0_announce dX11_event_37 [vi x1, vi x2, vi x3] rfl rfl rfl rfl rfl (sg_0 T) trivial (by decide) (Nat.le_of_ble_eq_true rfl) csOK_0 h (fun r12 σ14 hr13 eN15 h => ?_)
        show Z κ (0, 0) _ 40 _ [vi r12] ad σ14
        refine z_rng (fun hI16 hJ17 => ?_)
        have h := wpO_some.mp h
        exact z_ireturn T C dX11_event_40 hr13 eN15 h
      · have h := (wpO_ite.mp h).1 q11
        refine z_bipush C dX11_event_27 (by decide) ?_
        have h := wpO_some.mp h
        exact z_ireturn T C dX11_event_29 (by decide) rfl h
  · have h := (wpO_ite.mp h).1 q5
    refine z_iconst C dX11_event_7 ?_
    have h := wpO_some.mp h
    exact z_ireturn T C dX11_event_8 (by decide) rfl h
