/-! the halls' ways; the most that is earned -/
def HLd (σ τ : St) (fre : Nat → Bool) (h : Nat) : Prop := EG τ (stH fre (cnH σ) h) 0 (2 + h) 1 0 ∧ ∀ j, j < cnH σ h → EG τ (stH fre (cnH σ) h + 1 + j) (2 + h) (10 + (frH σ h + j)) 1 (- eaH σ h (frH σ h + j))
theorem hall_in {σ τ : St} {h K : Nat} {x : Int} (hH : RH σ) (hx : Ex SCm σ τ) (hh : h < hlN σ) (hb : K + cnH σ h ≤ 98) : ∀ i j, j + i = cnH σ h → ∀ τ1, Ex SCe τ τ1 → gI τ1 1384 0 0 = ((2 * (K + j) : Nat) : Int) → Kp τ τ1 K → (∀ j', j' < j → EG τ1 (K + j') (2 + h) (10 + (frH σ h + j')) 1 (- eaH σ h (frH σ h + j'))) → ∃ τ', wh (fun s => fX12_earnsMost_l124 x (h : Int) s.1 s.2) ((((frH σ h + j : Nat) : Int), τ1)) = some τ' ∧ Ex SCe τ τ' ∧ gI τ' 1384 0 0 = ((2 * (K + cnH σ h) : Nat) : Int) ∧ Kp τ τ' K ∧ ∀ j, j < cnH σ h → EG τ' (K + j) (2 + h) (10 + (frH σ h + j)) 1 (- eaH σ h (frH σ h + j)) := by
  obtain ⟨e1, e2, h8, h4, h5, e6, e7, e8⟩ := hH.hl
  obtain ⟨q1, q2, q3, q4, q5, q6, q7⟩ := h4 h hh
  obtain ⟨f1, f2, f3, f4⟩ := hH.fc h hh
  intro i
  induction i with
  | zero =>
    intro j hj τ1 hE hK hp hk
    have : j = cnH σ h := by omega
    subst this
    refine ⟨τ1, wh_inr ?_, hE, hK, hp, hk⟩
    show fX12_earnsMost_l124 x (h : Int) ((frH σ h + cnH σ h : Nat) : Int) τ1 = _
    unfold fX12_earnsMost_l124
    rw [ck_x (by omega) (by omega), Int.toNat_natCast, hE.i (c := 1380) (by decide), hx.i (c := 1380) (by decide), q2, if_pos (by omega)]
  | succ i ih =>
    intro j hj τ1 hE hK hp hk
    have hx1 : Ex SCm σ τ1 := hx.trans (hE.mono (by decide))
    have b := ea_bd (w := frH σ h + j) (h := h) hH (by omega) hh
    obtain ⟨τ2, d1, d2, d3, d4, d5⟩ := edge_m (u := 2 + h) (v := 10 + (frH σ h + j)) (r := 1) (p := - eaH σ h (frH σ h + j)) hK (by omega) (by omega)
    obtain ⟨τ', k1, k2⟩ := ih (j + 1) (by omega) τ2 (hE.trans d2) d3 (hp.trans d5 (by omega)) (fun j' hj' => by
      by_cases z : j' = j
      · rw [z]; exact d4
      · exact d5 (K + j') (by omega) _ _ _ _ (hk j' (by omega)))
    refine ⟨τ', wh_inl ?_ k1, k2⟩
    show fX12_earnsMost_l124 x (h : Int) ((frH σ h + j : Nat) : Int) τ1 = some (.inl (((frH σ h + (j + 1) : Nat) : Int), τ2))
    unfold fX12_earnsMost_l124
    rw [ck_x (by omega) (by omega), Int.toNat_natCast, hE.i (c := 1380) (by decide), hx.i (c := 1380) (by decide), q2, if_neg (by omega), ck_i (by omega) (by omega), ck_i (by omega) (by omega), earns_m hH hx1 (by omega) hh, bnk_some, ck_i (by omega) (by omega), show (2 : Int) + (h : Int) = ((2 + h : Nat) : Int) by omega, show (10 : Int) + ((frH σ h + j : Nat) : Int) = ((10 + (frH σ h + j) : Nat) : Int) by omega, d1, bnd_some, ck_i (by omega) (by omega)]; rfl
theorem halls_m {σ τ : St} {F : Nat → Int} {x : Int} (hH : RH σ) (hx : Ex SCm σ τ) (hF : ∀ h, h < hlN σ → gI τ 1391 0 h = F h) : ∀ i h, h + i = hlN σ → ∀ τ1, Ex SCe τ τ1 → gI τ1 1384 0 0 = ((2 * stH (fun h => decide (F h = 9)) (cnH σ) h : Nat) : Int) → Kp τ τ1 9 → (∀ h', h' < h → F h' = 9 → HLd σ τ1 (fun h => decide (F h = 9)) h') → ∃ τ', wh (fun s => fX12_earnsMost_l88 x s.1 s.2) (((h : Int), τ1)) = some τ' ∧ Ex SCe τ τ' ∧ gI τ' 1384 0 0 = ((2 * stH (fun h => decide (F h = 9)) (cnH σ) (hlN σ) : Nat) : Int) ∧ Kp τ τ' 9 ∧ ∀ h, h < hlN σ → F h = 9 → HLd σ τ' (fun h => decide (F h = 9)) h := by
  obtain ⟨e1, e2, h8, h4, h5, e6, e7, e8⟩ := hH.hl
  intro i
  induction i with
  | zero =>
    intro h hh τ1 hE hK hp hk
    have : h = hlN σ := by omega
    subst this
    refine ⟨τ1, wh_inr ?_, hE, hK, hp, hk⟩
    show fX12_earnsMost_l88 x ((hlN σ : Nat) : Int) τ1 = _
    unfold fX12_earnsMost_l88
    rw [hE.i (c := 1378) (by decide), hx.i (c := 1378) (by decide), e2, if_pos (by omega)]
  | succ i ih =>
    intro h hh τ1 hE hK hp hk
    obtain ⟨f1, f2, f3, f4⟩ := hH.fc h (by omega)
    obtain ⟨q1, q2, q3, q4, q5, q6, q7⟩ := h4 h (by omega)
    have hx1 : Ex SCm σ τ1 := hx.trans (hE.mono (by decide))
    have hsb := st_bd (fre := fun h => decide (F h = 9)) (cn := cnH σ) h (fun k hk' => by have := hH.fc k (by omega); omega)
    have hs9 : 9 ≤ stH (fun h => decide (F h = 9)) (cnH σ) h := by
      have := st_mono (fre := fun h => decide (F h = 9)) (cn := cnH σ) 0 h
      rw [Nat.zero_add] at this
      exact this
    have head : fX12_earnsMost_l88 x (h : Int) τ1 = if F h = 9 then (ck (inr (2 + (h : Int))) (bnd (fX12_edge 0 (2 + (h : Int)) 1 0 τ1) (fun _ σ57 => ck (0 ≤ (h : Int) ∧ (h : Int) < 8) (fX12_earnsMost_j124 x (h : Int) (gI σ57 1379 0 h) σ57)))) else (fX12_earnsMost_j159 x (h : Int) τ1) := by
      unfold fX12_earnsMost_l88
      rw [hE.i (c := 1378) (by decide), hx.i (c := 1378) (by decide), e2, if_neg (by omega), ck_x (by omega) (by omega), Int.toNat_natCast, hE.i (c := 1391) (by decide), hF h (by omega)]
    have jmp : ∀ τ2, fX12_earnsMost_j159 x (h : Int) τ2 = some (.inl (((h + 1 : Nat) : Int), τ2)) := by
      intro τ2
      unfold fX12_earnsMost_j159
      rw [ck_i (by omega) (by omega)]; rfl
    by_cases c : F h = 9
    · have est : stH (fun h => decide (F h = 9)) (cnH σ) (h + 1) = stH (fun h => decide (F h = 9)) (cnH σ) h + 1 + cnH σ h := if_pos (by rw [decide_eq_true_iff]; exact c)
      obtain ⟨τ2, d1, d2, d3, d4, d5⟩ := edge_m (u := 0) (v := 2 + h) (r := 1) (p := 0) hK (by omega) (by omega)
      have hx2 : Ex SCm σ τ2 := hx1.trans (d2.mono (by decide))
      have d1 : fX12_edge 0 ((2 + h : Nat) : Int) 1 0 τ1 = some ((), τ2) := d1
      obtain ⟨τ3, w1, w2, w3, w4, w5⟩ := hall_in (h := h) (K := stH (fun h => decide (F h = 9)) (cnH σ) h + 1) (x := x) hH hx2 (by omega) (by omega) (cnH σ h) 0 (by omega) τ2 Ex.rf d3 (fun _ _ _ _ _ _ h => h) (fun j' hj' => by omega)
      have hkp : Kp τ1 τ3 (stH (fun h => decide (F h = 9)) (cnH σ) h) := d5.trans w4 (by omega)
      obtain ⟨τ', k1, k2⟩ := ih (h + 1) (by omega) τ3 ((hE.trans d2).trans w2) (by rw [est]; exact w3) (hp.trans hkp hs9) (fun h' hh' ch' => by
        by_cases z : h' = h
        · rw [z]
          exact ⟨w4 _ (by omega) _ _ _ _ d4, w5⟩
        · have hl := hk h' (by omega) ch'
          have hm := st_mono (fre := fun h => decide (F h = 9)) (cn := cnH σ) (h' + 1) (h - (h' + 1))
          rw [show h' + 1 + (h - (h' + 1)) = h by omega] at hm
          have est' : stH (fun h => decide (F h = 9)) (cnH σ) (h' + 1) = stH (fun h => decide (F h = 9)) (cnH σ) h' + 1 + cnH σ h' := if_pos (by rw [decide_eq_true_iff]; exact ch')
          exact ⟨hkp _ (by omega) _ _ _ _ hl.1, fun j hj => hkp _ (by omega) _ _ _ _ (hl.2 j hj)⟩)
      refine ⟨τ', wh_inl ?_ k1, k2⟩
      show fX12_earnsMost_l88 x (h : Int) τ1 = some (.inl (((h + 1 : Nat) : Int), τ3))
      rw [head, if_pos c, ck_i (by omega) (by omega), show (2 : Int) + (h : Int) = ((2 + h : Nat) : Int) by omega, d1, bnd_some, ck_x (by omega) (by omega), hx2.i (c := 1379) (by decide), q1, f1]
      unfold fX12_earnsMost_j124
      exact bnk_of w1 (jmp _)
    · have est : stH (fun h => decide (F h = 9)) (cnH σ) (h + 1) = stH (fun h => decide (F h = 9)) (cnH σ) h := if_neg (by rw [decide_eq_true_iff]; exact c)
      obtain ⟨τ', k1, k2⟩ := ih (h + 1) (by omega) τ1 hE (by rw [est]; exact hK) hp (fun h' hh' ch' => by
        by_cases z : h' = h
        · rw [z] at ch'; exact absurd ch' c
        · exact hk h' (by omega) ch')
      refine ⟨τ', wh_inl ?_ k1, k2⟩
      show fX12_earnsMost_l88 x (h : Int) τ1 = some (.inl (((h + 1 : Nat) : Int), τ1))
      rw [head, if_neg c, jmp]
