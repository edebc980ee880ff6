/-! shots, stories, rules by their numbers -/
theorem shN {σ : St} {x : Int} (h : RS σ) (p : ¬ (0 ≤ x ∧ x < (gN σ 7 : Int))) : fX11_shotNumbered x σ = some none ∧ fX12_isShot x σ = some 0 := by
  obtain ⟨s1, s2, s3, s4⟩ := h
  constructor
  · unfold fX11_shotNumbered
    rw [s2, ck_i (by omega) (by omega), within_eq, bnkI, if_neg (by omega)]
  · rw [m_isShot_eq x σ (by constructor <;> omega), b2i_neg (by omega)]
theorem shP {σ : St} {x : Int} (h : RS σ) (p : 0 ≤ x ∧ x < (gN σ 7 : Int)) : fX11_shotNumbered x σ = some (some x.toNat) ∧ fX12_isShot x σ = some 1 ∧ x.toNat < gN σ 7 ∧ (0 ≤ x ∧ x < 40) ∧ RS1 σ x.toNat := by
  obtain ⟨s1, s2, s3, s4⟩ := h
  have h4 := s4 x.toNat (by omega)
  refine ⟨?_, ?_, by omega, by omega, h4⟩
  · unfold fX11_shotNumbered
    rw [s2, ck_i (by omega) (by omega), within_eq, bnkI, if_pos (by omega), ck_x (by omega) (by omega), h4.1]; rfl
  · rw [m_isShot_eq x σ (by constructor <;> omega), b2i_pos (by omega)]
theorem stN {σ : St} {x : Int} (h : RY σ) (p : ¬ (0 ≤ x ∧ x < (gN σ 8 : Int))) : fX11_storyNumbered x σ = some none ∧ fX12_isStory x σ = some 0 := by
  obtain ⟨s1, s2, s3, s4, s5⟩ := h
  constructor
  · unfold fX11_storyNumbered
    rw [s2, ck_i (by omega) (by omega), within_eq, bnkI, if_neg (by omega)]
  · rw [m_isStory_eq x σ (by constructor <;> omega), b2i_neg (by omega)]
theorem stP {σ : St} {x : Int} (h : RY σ) (p : 0 ≤ x ∧ x < (gN σ 8 : Int)) : fX11_storyNumbered x σ = some (some x.toNat) ∧ fX12_isStory x σ = some 1 ∧ x.toNat < gN σ 8 ∧ (0 ≤ x ∧ x < 8) ∧ RY1 σ x.toNat := by
  obtain ⟨s1, s2, s3, s4, s5⟩ := h
  have h4 := s4 x.toNat (by omega)
  refine ⟨?_, ?_, by omega, by omega, h4⟩
  · unfold fX11_storyNumbered
    rw [s2, ck_i (by omega) (by omega), within_eq, bnkI, if_pos (by omega), ck_x (by omega) (by omega), h4.1]; rfl
  · rw [m_isStory_eq x σ (by constructor <;> omega), b2i_pos (by omega)]
theorem ruN {σ : St} {x : Int} (h : RL_ σ) (p : ¬ (0 ≤ x ∧ x < (gN σ 6 : Int))) : fX11_ruleNumbered x σ = some none ∧ fX12_isRule x σ = some 0 := by
  obtain ⟨s1, s2, s3, s4, s5⟩ := h
  constructor
  · unfold fX11_ruleNumbered
    rw [s2, ck_i (by omega) (by omega), within_eq, bnkI, if_neg (by omega)]
  · rw [m_isRule_eq x σ (by constructor <;> omega), b2i_neg (by omega)]
theorem ruP {σ : St} {x : Int} (h : RL_ σ) (p : 0 ≤ x ∧ x < (gN σ 6 : Int)) : fX11_ruleNumbered x σ = some (some x.toNat) ∧ fX12_isRule x σ = some 1 ∧ x.toNat < gN σ 6 ∧ (0 ≤ x ∧ x < 6) ∧ RL1 σ x.toNat := by
  obtain ⟨s1, s2, s3, s4, s5⟩ := h
  have h4 := s4 x.toNat (by omega)
  refine ⟨?_, ?_, by omega, by omega, h4⟩
  · unfold fX11_ruleNumbered
    rw [s2, ck_i (by omega) (by omega), within_eq, bnkI, if_pos (by omega), ck_x (by omega) (by omega), h4.1]; rfl
  · rw [m_isRule_eq x σ (by constructor <;> omega), b2i_pos (by omega)]
/-- where a shot is -/
def wv (σ : St) (i : Nat) (h : Int) : Int := if gI σ 807 i 0 ≤ h then (if h < gI σ 810 i 0 then (if h < gI σ 809 i 0 then (if h < gI σ 808 i 0 then 1 else 2) else 3) else 4) else 0
theorem wv_c (σ : St) (i : Nat) (h : Int) : fX7_whereAt i h σ = some (wv σ i h) := by
  unfold fX7_whereAt wv
  split
  · split
    · split
      · split <;> rfl
      · rfl
    · rfl
  · rfl
theorem was_eq (a b : Int) : fX12_was a b = some (b2i (a ≠ -9 ∧ a ≤ b)) := by
  unfold fX12_was
  by_cases h : a = -9
  · rw [if_pos h, b2i_neg (by omega)]
  · rw [if_neg h]
    by_cases h2 : b < a
    · rw [if_pos h2, b2i_neg (by omega)]
    · rw [if_neg h2, b2i_pos (by omega)]
theorem RX.was {t c m lo h : Int} (q : RX t c m lo) (hh : h ≤ 9999) (hlo : 0 ≤ lo) : (m ≠ -9 ∧ m ≤ h) ↔ ¬ h < c := by
  unfold RX at q
  constructor <;> intro p <;> omega
theorem wv_m {σ : St} {x h : Int} (ht : gI σ 1200 0 0 ≤ 9999) (hs : RS1 σ x.toNat) (hx : 0 ≤ x ∧ x < 40) (hh : h ≤ 9999) : fX12_whereOf x h σ = some (wv σ x.toNat h) := by
  obtain ⟨q1, q2, q3, q4, q5, q6, q7, q8, q9, r1, r2, r3, r4, r5, r6, r7, x1, x2, x3, x4⟩ := hs
  have w1 := x1.was hh r7.1
  have w2 := x2.was hh r7.1
  have w3 := x3.was hh r7.1
  have g1 : gI σ 807 x.toNat 0 ≤ gI σ 808 x.toNat 0 := by unfold RX at x1; omega
  have g2 : gI σ 807 x.toNat 0 ≤ gI σ 809 x.toNat 0 := by unfold RX at x2; omega
  have g3 : gI σ 807 x.toNat 0 ≤ gI σ 810 x.toNat 0 := by unfold RX at x3; omega
  unfold fX12_whereOf
  simp only [ck_x hx.1 hx.2, was_eq, bnk_some, b2i_ite, w1, w2, w3, q9]
  unfold wv
  by_cases c0 : gI σ 807 x.toNat 0 ≤ h
  · rw [if_pos c0]
    by_cases c1 : h < gI σ 810 x.toNat 0
    · rw [if_pos c1, if_neg (fun n => n c1)]
      by_cases c2 : h < gI σ 809 x.toNat 0
      · rw [if_pos c2, if_neg (fun n => n c2)]
        by_cases c3 : h < gI σ 808 x.toNat 0
        · rw [if_pos c3, if_neg (fun n => n c3), if_neg (by omega)]
        · rw [if_neg c3, if_pos c3]
      · rw [if_neg c2, if_pos c2]
    · rw [if_neg c1, if_pos c1]
  · rw [if_neg c0, if_neg (by omega), if_neg (by omega), if_neg (by omega), if_pos (by omega)]
theorem op_5 : OP5 RR := by
  intro a1 a2 ha1 ha2 σ hSF hR
  have hS := hR.2.2.1
  by_cases p : 0 ≤ a1 ∧ a1 < (gN σ 7 : Int)
  · obtain ⟨e1, e2, e3, e4, q1, q2, q3, q4, q5, q6, q7, q8, q9, -⟩ := shP hS p
    unfold fX11_about fX12_about
    simp only [e1, e2, bnk_some, mop_s, ck_n e3, ck_x e4.1 e4.2, q3, q4, q5, q6, q7, q8, if_neg (show ¬ (1 : Int) = 0 by decide)]
    by_cases c0 : a2 = 0
    · simp only [if_pos c0]; exact opR rfl rfl hR
    · simp only [if_neg c0]
      by_cases c1 : a2 = 1
      · simp only [if_pos c1]; exact opR rfl rfl hR
      · simp only [if_neg c1]
        by_cases c2 : a2 = 2
        · simp only [if_pos c2]; exact opR rfl rfl hR
        · simp only [if_neg c2]
          by_cases c3 : a2 = 3
          · simp only [if_pos c3]; exact opR rfl rfl hR
          · simp only [if_neg c3]
            by_cases c4 : a2 = 4
            · simp only [if_pos c4]; exact opR rfl rfl hR
            · simp only [if_neg c4]
              by_cases c5 : a2 = 5
              · simp only [if_pos c5]; exact opR rfl rfl hR
              · simp only [if_neg c5]; exact opR rfl rfl hR
  · obtain ⟨e1, e2⟩ := shN hS p
    refine opR (r := -1) ?_ ?_ hR
    · unfold fX11_about; rw [e1]; rfl
    · unfold fX12_about; rw [e2]; rfl
theorem op_7 : OP7 RR := by
  intro a1 a2 ha1 ha2 σ hSF hR
  have hS := hR.2.2.1
  by_cases p : 0 ≤ a1 ∧ a1 < (gN σ 7 : Int)
  · obtain ⟨e1, e2, e3, e4, q1, q2, q3, q4, q5, q6, q7, q8, q9, r1, r2, r3, r4, r5, r6, r7, x1, x2, x3, x4, x5, x6⟩ := shP hS p
    unfold fX11_expected fX12_expected
    simp only [e1, e2, bnk_some, mop_s, ck_n e3, ck_x e4.1 e4.2, x4, x5, if_neg (show ¬ (1 : Int) = 0 by decide)]
    by_cases c0 : a2 = 0
    · simp only [if_pos c0]; exact opR rfl rfl hR
    · simp only [if_neg c0]; exact opR rfl rfl hR
  · obtain ⟨e1, e2⟩ := shN hS p
    refine opR (r := -1) ?_ ?_ hR
    · unfold fX11_expected; rw [e1]; rfl
    · unfold fX12_expected; rw [e2]; rfl
theorem op_10 : OP10 RR := by
  intro a1 a2 ha1 ha2 σ hSF hR
  have hS := hR.2.2.1
  obtain ⟨t1, t2, t3⟩ := hR.1
  by_cases p : 0 ≤ a1 ∧ a1 < (gN σ 7 : Int)
  · obtain ⟨e1, e2, e3, e4, hs⟩ := shP hS p
    by_cases c0 : 0 ≤ a2 ∧ a2 ≤ gI σ 1200 0 0
    · refine opR (r := wv σ a1.toNat a2) ?_ ?_ hR
      · unfold fX11_where; simp only [e1, bnk_some, mop_s, ck_n e3, within_eq, b2i_ite, if_pos c0, wv_c]
      · unfold fX12_where; rw [e2, bnk_some, if_neg (by decide), t1, in_eq, bnkI, if_pos c0, wv_m t3 hs e4 (by omega)]; rfl
    · refine opR (r := -2) ?_ ?_ hR
      · unfold fX11_where; simp only [e1, bnk_some, mop_s, ck_n e3, within_eq, b2i_ite, if_neg c0]
      · unfold fX12_where; rw [e2, bnk_some, if_neg (by decide), t1, in_eq, bnkI, if_neg c0]
  · obtain ⟨e1, e2⟩ := shN hS p
    refine opR (r := -1) ?_ ?_ hR
    · unfold fX11_where; rw [e1]; rfl
    · unfold fX12_where; rw [e2]; rfl
theorem op_31 : OP31 RR := by
  intro a1 ha1 σ hSF hR
  obtain ⟨hT, hW, hS, hF, hY, hA, hL, hG, hE, hC, hH, hQ⟩ := id hR
  obtain ⟨g1, g2, g3, g4, -⟩ := hG
  by_cases p : 0 ≤ a1 ∧ a1 < (gN σ 5 : Int)
  · obtain ⟨q1, q2, q3, q4, q5, q6, -⟩ := g4 a1.toNat (by omega)
    refine opR (r := gI σ 604 a1.toNat 0) ?_ ?_ hR
    · unfold fX11_left; rw [g2, ck_i (by omega) (by omega), within_eq, bnkI, if_pos (by omega), ck_x (by omega) (by omega), lt_def, q1, mop_s, ck_n (by omega)]
    · unfold fX12_left; rw [g1, ck_i (by omega) (by omega), in_eq, bnkI, if_pos (by omega), ck_x (by omega) (by omega), q6]
  · refine opR (r := -1) ?_ ?_ hR
    · unfold fX11_left; rw [g2, ck_i (by omega) (by omega), within_eq, bnkI, if_neg (by omega)]
    · unfold fX12_left; rw [g1, ck_i (by omega) (by omega), in_eq, bnkI, if_neg (by omega)]
