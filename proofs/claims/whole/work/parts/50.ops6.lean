theorem bnk_of {α β : Type} {f : Option α} {k : α → Option β} {a : α} {b : Option β} (h : f = some a) (hk : k a = b) : bnk f k = b := by rw [h]; exact hk
theorem sumN_01 {g : Nat → Int} (h : ∀ i, 0 ≤ g i ∧ g i ≤ 1) (n : Nat) : 0 ≤ sumN g n ∧ sumN g n ≤ n := by
  have := sumN_bd h n
  omega
theorem b2i_01 {P : Prop} [Decidable P] : 0 ≤ b2i P ∧ b2i P ≤ 1 := by
  rcases b2i_b (P := P) with h | h <;> rw [h] <;> decide
theorem shI {σ : St} (h : RS σ) {i : Nat} (hi : i < gN σ 7) : (∀ x : Int, x = (i : Int) → gP σ 1203 0 x.toNat = some i) ∧ i < 40 := by
  obtain ⟨s1, s2, s3, s4⟩ := h
  refine ⟨fun x hx => ?_, by omega⟩
  subst hx
  rw [Int.toNat_natCast]; exact (s4 i hi).1
theorem op_11 : OP11 RR := by
  intro σ hSF hR
  obtain ⟨hT, hW, hS, hF, hY, hA, hL, hG, hE, hC, hH, hQ⟩ := id hR
  obtain ⟨t1, t2, t3⟩ := id hT
  obtain ⟨s1, s2, s3, s4⟩ := id hS
  have hb := sumN_01 (g := fun i => b2i (wv σ i (gI σ 1200 0 0) = 2 ∧ gI σ 812 i 0 < gI σ 1200 0 0)) (fun i => b2i_01)
  refine opR (r := sumN (fun i => b2i (wv σ i (gI σ 1200 0 0) = 2 ∧ gI σ 812 i 0 < gI σ 1200 0 0)) (gN σ 7)) ?_ ?_ hR
  · unfold fX11_overdue fX11_overdue_j4 fX11_overdue_j54
    refine bnk_of (wh_sum (fun i => b2i (wv σ i (gI σ 1200 0 0) = 2 ∧ gI σ 812 i 0 < gI σ 1200 0 0)) (gN σ 7) (fun i hi => ?_) ?_) rfl
    · have hbi := hb i
      generalize sumN (fun i => b2i (wv σ i (gI σ 1200 0 0) = 2 ∧ gI σ 812 i 0 < gI σ 1200 0 0)) i = A at hbi
      show fX11_overdue_l4 σ A (i : Int) = _
      unfold fX11_overdue_l4 fX11_overdue_j48
      rw [s2, if_neg (by omega), ck_x (by omega) (by omega), lt_def, Int.toNat_natCast, (s4 i hi).1, mop_s, ck_n hi, wv_c, bnk_some, ck_x (by omega) (by omega), lt_def, mop_s, ck_n hi]
      by_cases c : wv σ i (gI σ 1200 0 0) = 2
      · rw [if_pos c]
        by_cases c2 : gI σ 1200 0 0 ≤ gI σ 812 i 0
        · rw [if_pos c2, ck_i (by omega) (by omega), b2i_neg (by omega), Int.add_zero]
        · rw [if_neg c2, ck_i (by omega) (by omega), ck_i (by omega) (by omega), b2i_pos (by omega)]
      · rw [if_neg c, ck_i (by omega) (by omega), b2i_neg (fun z => c z.1), Int.add_zero]
    · show fX11_overdue_l4 σ _ _ = _
      unfold fX11_overdue_l4
      rw [s2, if_pos (by omega)]
  · unfold fX12_overdue fX12_overdue_j4 fX12_overdue_j52
    refine bnk_of (wh_sum (fun i => b2i (wv σ i (gI σ 1200 0 0) = 2 ∧ gI σ 812 i 0 < gI σ 1200 0 0)) (gN σ 7) (fun i hi => ?_) ?_) rfl
    · have hbi := hb i
      generalize sumN (fun i => b2i (wv σ i (gI σ 1200 0 0) = 2 ∧ gI σ 812 i 0 < gI σ 1200 0 0)) i = A at hbi
      show fX12_overdue_l4 σ A (i : Int) = _
      have hs := s4 i hi
      have e := wv_m (x := (i : Int)) (h := gI σ 1200 0 0) t3 (by rw [Int.toNat_natCast]; exact hs) (by omega) t3
      rw [Int.toNat_natCast] at e
      obtain ⟨q1, q2, q3, q4, q5, q6, q7, q8, q9, r1, r2, r3, r4, r5, r6, r7, x1, x2, x3, x4, x5, x6⟩ := hs
      unfold fX12_overdue_l4 fX12_overdue_j43 fX12_overdue_j44
      rw [s1, if_neg (by omega), t1, e, bnk_some, ck_x (by omega) (by omega), Int.toNat_natCast, x5]
      by_cases c : wv σ i (gI σ 1200 0 0) = 2
      · rw [if_pos c]
        by_cases c2 : gI σ 1200 0 0 ≤ gI σ 812 i 0
        · rw [if_pos c2, ck_i (by omega) (by omega), ck_i (by omega) (by omega), b2i_neg (by omega)]
        · rw [if_neg c2, ck_i (by omega) (by omega), ck_i (by omega) (by omega), b2i_pos (by omega)]
      · rw [if_neg c, ck_i (by omega) (by omega), ck_i (by omega) (by omega), b2i_neg (fun z => c z.1)]
    · show fX12_overdue_l4 σ _ _ = _
      unfold fX12_overdue_l4
      rw [s1, if_pos (by omega)]
/-- how many shots are in -/
def inN (σ : St) : Int := sumN (fun i => b2i (wv σ i (gI σ 1200 0 0) = 3)) (gN σ 7)
theorem in_c {σ : St} (hS : RS σ) : fX11_shotsIn σ = some (inN σ) := by
  obtain ⟨s1, s2, s3, s4⟩ := id hS
  have hb := sumN_01 (g := fun i => b2i (wv σ i (gI σ 1200 0 0) = 3)) (fun i => b2i_01)
  unfold fX11_shotsIn fX11_shotsIn_j4 fX11_shotsIn_j38
  refine bnk_of (wh_sum (fun i => b2i (wv σ i (gI σ 1200 0 0) = 3)) (gN σ 7) (fun i hi => ?_) ?_) rfl
  · have hbi := hb i
    generalize sumN (fun i => b2i (wv σ i (gI σ 1200 0 0) = 3)) i = A at hbi
    show fX11_shotsIn_l4 σ A (i : Int) = _
    unfold fX11_shotsIn_l4 fX11_shotsIn_j32
    rw [s2, if_neg (by omega), ck_x (by omega) (by omega), lt_def, Int.toNat_natCast, (s4 i hi).1, mop_s, ck_n hi, wv_c, bnk_some]
    by_cases c : wv σ i (gI σ 1200 0 0) = 3
    · rw [if_pos c, ck_i (by omega) (by omega), ck_i (by omega) (by omega), b2i_pos c]
    · rw [if_neg c, ck_i (by omega) (by omega), b2i_neg c, Int.add_zero]
  · show fX11_shotsIn_l4 σ _ _ = _
    unfold fX11_shotsIn_l4
    rw [s2, if_pos (by omega)]
theorem in_m {σ : St} {x : Int} (hT : RT σ) (hS : RS σ) : fX12_count x σ = fX12_count_j39 x (inN σ) σ := by
  obtain ⟨s1, s2, s3, s4⟩ := id hS
  obtain ⟨t1, t2, t3⟩ := id hT
  have hb := sumN_01 (g := fun i => b2i (wv σ i (gI σ 1200 0 0) = 3)) (fun i => b2i_01)
  unfold fX12_count fX12_count_j4
  refine bnk_of (wh_sum (fun i => b2i (wv σ i (gI σ 1200 0 0) = 3)) (gN σ 7) (fun i hi => ?_) ?_) rfl
  · have hbi := hb i
    generalize sumN (fun i => b2i (wv σ i (gI σ 1200 0 0) = 3)) i = A at hbi
    show fX12_count_l4 x σ A (i : Int) = _
    have e := wv_m (x := (i : Int)) (h := gI σ 1200 0 0) t3 (by rw [Int.toNat_natCast]; exact s4 i hi) (by omega) t3
    rw [Int.toNat_natCast] at e
    unfold fX12_count_l4 fX12_count_j31
    rw [s1, if_neg (by omega), t1, e, bnk_some]
    by_cases c : wv σ i (gI σ 1200 0 0) = 3
    · rw [if_pos c, ck_i (by omega) (by omega), ck_i (by omega) (by omega), b2i_pos c]
    · rw [if_neg c, ck_i (by omega) (by omega), ck_i (by omega) (by omega), b2i_neg c]
  · show fX12_count_l4 x σ _ _ = _
    unfold fX12_count_l4
    rw [s1, if_pos (by omega)]
theorem op_49 : OP49 RR := by
  intro a1 ha1 σ hSF hR
  obtain ⟨hT, hW, hS, hF, hY, hA, hL, hG, hE, hC, hH, hQ⟩ := id hR
  rw [in_m hT hS]
  unfold fX11_count fX12_count_j39
  rw [in_c hS, hT.1, hS.1, hS.2.1, hY.1, hY.2.1, hL.1, hL.2.1, hG.1, hG.2.1, hC.2.1, hH.1, bnk_some]
  repeat' split
  all_goals exact opR rfl rfl hR
theorem op_14 : OP14 RR := by
  intro a1 a2 a3 ha1 ha2 ha3 σ hSF hR
  obtain ⟨hT, hW, hS, hF, hY, hA, hL, hG, hE, hC, hH, hQ⟩ := id hR
  obtain ⟨t1, t2, t3⟩ := id hT
  obtain ⟨s1, s2, s3, s4⟩ := id hS
  by_cases p1 : 0 ≤ a1 ∧ a1 ≤ 255
  · by_cases p2 : 0 ≤ a2 ∧ a2 ≤ 9999
    · have hb := sumN_01 (g := fun i => b2i (wv σ i (gI σ 1200 0 0) = 3 ∧ iand (gI σ 805 i 0) a1 = a1 ∧ ¬ gI σ 802 i 0 < a2)) (fun i => b2i_01)
      refine opR (r := fstF (fun i => decide ((wv σ i (gI σ 1200 0 0) = 3 ∧ iand (gI σ 805 i 0) a1 = a1 ∧ ¬ gI σ 802 i 0 < a2) ∧ sumN (fun i => b2i (wv σ i (gI σ 1200 0 0) = 3 ∧ iand (gI σ 805 i 0) a1 = a1 ∧ ¬ gI σ 802 i 0 < a2)) i = a3)) 0 (gN σ 7)) ?_ ?_ hR
      · unfold fX11_find fX11_find_j23 fX11_find_j54 fX11_find_j66
        rw [c_isMarkSet_eq, bnkI, if_pos p1, c_isHour_eq, bnkI, if_pos p2]
        refine wh_fst2 (fun i => sumN (fun i => b2i (wv σ i (gI σ 1200 0 0) = 3 ∧ iand (gI σ 805 i 0) a1 = a1 ∧ ¬ gI σ 802 i 0 < a2)) i) _ (gN σ 7) (fun i hi => ?_) ?_
        · have hbi := hb i
          rw [sumN]
          generalize sumN (fun i => b2i (wv σ i (gI σ 1200 0 0) = 3 ∧ iand (gI σ 805 i 0) a1 = a1 ∧ ¬ gI σ 802 i 0 < a2)) i = A at hbi
          show fX11_find_l23 a1 a2 a3 σ A (i : Int) = _
          unfold fX11_find_l23 fX11_find_j60 fX11_isCard
          rw [s2, if_neg (by omega), ck_x (by omega) (by omega), lt_def, Int.toNat_natCast, (s4 i hi).1, mop_s, ck_n hi, wv_c, bnk_some]
          by_cases c : wv σ i (gI σ 1200 0 0) = 3
          · rw [if_pos c]
            by_cases c2 : iand (gI σ 805 i 0) a1 = a1
            · rw [if_pos c2]
              by_cases c3 : gI σ 802 i 0 < a2
              · rw [if_pos c3, bnk_some, if_pos rfl, ck_i (by omega) (by omega), if_neg (by simp [c3]), b2i_neg (fun z => z.2.2 c3), Int.add_zero]
              · rw [if_neg c3, bnk_some, if_neg (by decide)]
                by_cases c4 : A = a3
                · rw [if_pos c4, if_pos (by simp [c, c2, c3, c4])]
                · rw [if_neg c4, ck_i (by omega) (by omega), ck_i (by omega) (by omega), if_neg (by simp [c4]), b2i_pos ⟨c, c2, c3⟩]
            · rw [if_neg c2, bnk_some, if_pos rfl, ck_i (by omega) (by omega), if_neg (by simp [c2]), b2i_neg (fun z => c2 z.2.1), Int.add_zero]
          · rw [if_neg c, bnk_some, if_pos rfl, ck_i (by omega) (by omega), if_neg (by simp [c]), b2i_neg (fun z => c z.1), Int.add_zero]
        · show fX11_find_l23 a1 a2 a3 σ _ _ = _
          unfold fX11_find_l23
          rw [s2, if_pos (by omega)]
      · unfold fX12_find fX12_find_j28 fX12_find_j84 fX12_find_j96
        rw [in_eq, bnkI, if_pos p1, m_isHour_eq, bnkI, if_pos p2]
        by_cases p3 : a3 < 0
        · have e0 : wh (fun s => fX12_find_l28 a1 a2 a3 σ s.1 s.2) (a3, 0) = some (.inr ()) := by
            apply wh_inr
            show fX12_find_l28 a1 a2 a3 σ _ _ = _
            unfold fX12_find_l28
            rw [if_pos p3]
            split <;> rfl
          rw [e0]
          have e1 : ∀ k i, fstF (fun i => decide ((wv σ i (gI σ 1200 0 0) = 3 ∧ iand (gI σ 805 i 0) a1 = a1 ∧ ¬ gI σ 802 i 0 < a2) ∧ sumN (fun i => b2i (wv σ i (gI σ 1200 0 0) = 3 ∧ iand (gI σ 805 i 0) a1 = a1 ∧ ¬ gI σ 802 i 0 < a2)) i = a3)) i k = -9 := by
            intro k
            induction k with
            | zero => intro i; rfl
            | succ k ih =>
              intro i
              unfold fstF
              rw [if_neg (fun z => by have h1 := hb i; have h2 := (of_decide_eq_true z).2; omega), ih]
          rw [e1]; rfl
        · have := wh_fst2 (f := fun s => fX12_find_l28 a1 a2 a3 σ s.1 s.2) (fun i => a3 - sumN (fun i => b2i (wv σ i (gI σ 1200 0 0) = 3 ∧ iand (gI σ 805 i 0) a1 = a1 ∧ ¬ gI σ 802 i 0 < a2)) i) (fun i => decide ((wv σ i (gI σ 1200 0 0) = 3 ∧ iand (gI σ 805 i 0) a1 = a1 ∧ ¬ gI σ 802 i 0 < a2) ∧ sumN (fun i => b2i (wv σ i (gI σ 1200 0 0) = 3 ∧ iand (gI σ 805 i 0) a1 = a1 ∧ ¬ gI σ 802 i 0 < a2)) i = a3)) (gN σ 7) (fun i hi => ?_) ?_
          · rw [show a3 - sumN (fun i => b2i (wv σ i (gI σ 1200 0 0) = 3 ∧ iand (gI σ 805 i 0) a1 = a1 ∧ ¬ gI σ 802 i 0 < a2)) 0 = a3 from Int.sub_zero a3] at this
            exact this
          · have hbi := hb i
            rw [sumN]
            generalize sumN (fun i => b2i (wv σ i (gI σ 1200 0 0) = 3 ∧ iand (gI σ 805 i 0) a1 = a1 ∧ ¬ gI σ 802 i 0 < a2)) i = A at hbi
            show fX12_find_l28 a1 a2 a3 σ (a3 - A) (i : Int) = _
            have hs := s4 i hi
            have e := wv_m (x := (i : Int)) (h := gI σ 1200 0 0) t3 (by rw [Int.toNat_natCast]; exact hs) (by omega) t3
            rw [Int.toNat_natCast] at e
            obtain ⟨q1, q2, q3, q4, q5, q6, q7, q8, q9, r1, r2, r3, r4, r5, r6, r7, x1, x2, x3, x4, x5, x6⟩ := hs
            unfold fX12_find_l28 fX12_find_j90
            rw [s1, if_neg (by omega), if_neg p3, t1, e, bnk_some, Int.toNat_natCast, q7, q4, ck_x (by omega) (by omega), ck_x (by omega) (by omega)]
            by_cases c : wv σ i (gI σ 1200 0 0) = 3
            · rw [if_pos c]
              by_cases c2 : iand (gI σ 805 i 0) a1 = a1
              · rw [if_pos c2]
                by_cases c3 : gI σ 802 i 0 < a2
                · rw [if_pos c3, ck_i (by omega) (by omega), if_neg (by simp [c3]), b2i_neg (fun z => z.2.2 c3), Int.add_zero]
                · rw [if_neg c3]
                  by_cases c4 : A = a3
                  · rw [if_pos (by omega), if_pos (by simp [c, c2, c3, c4])]
                  · rw [if_neg (by omega), ck_i (by omega) (by omega), ck_i (by omega) (by omega), if_neg (by simp [c4]), b2i_pos ⟨c, c2, c3⟩, show a3 - A + -1 = a3 - (A + 1) by omega]
              · rw [if_neg c2, ck_i (by omega) (by omega), if_neg (by simp [c2]), b2i_neg (fun z => c2 z.2.1), Int.add_zero]
            · rw [if_neg c, ck_i (by omega) (by omega), if_neg (by simp [c]), b2i_neg (fun z => c z.1), Int.add_zero]
          · show fX12_find_l28 a1 a2 a3 σ _ _ = _
            unfold fX12_find_l28
            rw [s1, if_pos (by omega)]
    · refine opR (r := -2) ?_ ?_ hR
      · unfold fX11_find
        rw [c_isMarkSet_eq, bnkI, if_pos p1, c_isHour_eq, bnkI, if_neg p2]
      · unfold fX12_find
        rw [in_eq, bnkI, if_pos p1, m_isHour_eq, bnkI, if_neg p2]
  · refine opR (r := -2) ?_ ?_ hR
    · unfold fX11_find
      rw [c_isMarkSet_eq, bnkI, if_neg p1]
    · unfold fX12_find
      rw [in_eq, bnkI, if_neg p1]
