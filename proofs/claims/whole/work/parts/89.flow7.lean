/-! the most that is earned, some halls being bound -/
def VA (σ : St) (a : Nat → Nat) : Prop := (∀ h, h < hlN σ → a h = 9 ∨ (frH σ h ≤ a h ∧ a h < frH σ h + cnH σ h)) ∧ ∀ w, w < 9 → sumN (fun h => if a h = w then (1 : Int) else 0) (hlN σ) ≤ (prN_ σ : Int)
def XT (σ : St) (F : Nat → Int) (a : Nat → Nat) : Prop := ∀ h, h < hlN σ → F h = 9 ∨ F h = (if a h = 9 then -9 else (a h : Int))
def TE (σ : St) (a : Nat → Nat) : Int := sumN (fun h => if a h = 9 then 0 else eaH σ h (a h)) (hlN σ)
theorem xt_cnt {σ : St} {F : Nat → Int} {b : Nat → Nat} (hX : XT σ F b) {w : Nat} (hw : w < 9) : sumN (fun h => if b h = w then (1 : Int) else 0) (hlN σ) = sumN (fun h => if F h = (w : Int) then (1 : Int) else 0) (hlN σ) + cwn (hlN σ) (fun h => decide (F h = 9)) b w := by
  unfold cwn
  rw [← sumN_add]
  refine sumN_c _ (fun h hh => ?_)
  show (if b h = w then (1 : Int) else 0) = (if F h = (w : Int) then (1 : Int) else 0) + (if decide (F h = 9) = true ∧ b h = w then 1 else 0)
  simp only [decide_eq_true_iff]
  rcases hX h hh with q | q
  · rw [if_neg (show ¬ F h = (w : Int) by omega)]
    by_cases z : b h = w
    · rw [if_pos z, if_pos ⟨q, z⟩]; rfl
    · rw [if_neg z, if_neg (fun y => z y.2)]; rfl
  · by_cases z9 : b h = 9
    · rw [if_pos z9] at q
      rw [if_neg (show ¬ b h = w by omega), if_neg (show ¬ F h = (w : Int) by omega), if_neg (fun y => by omega)]; rfl
    · rw [if_neg z9] at q
      by_cases z : b h = w
      · rw [if_pos z, if_pos (by omega), if_neg (fun y => by omega)]; rfl
      · rw [if_neg z, if_neg (show ¬ F h = (w : Int) by omega), if_neg (fun y => z y.2)]; rfl
theorem xt_te {σ : St} {F : Nat → Int} {b : Nat → Nat} (hH : RH σ) (hX : XT σ F b) (hb : ∀ h, h < hlN σ → b h = 9 ∨ (frH σ h ≤ b h ∧ b h < frH σ h + cnH σ h)) : TE σ b = sumN (bsW σ F) 9 + gnA (hlN σ) (fun h => decide (F h = 9)) (eaH σ) b := by
  have e : sumN (bsW σ F) 9 = sumN (fun h => sumN (fun w => if F h = (w : Int) then eaH σ h w else 0) 9) (hlN σ) := sumN_comm (A := fun h w => if F h = (w : Int) then eaH σ h w else 0) 9 (hlN σ)
  unfold TE gnA
  rw [e, ← sumN_add]
  refine sumN_c _ (fun h hh => ?_)
  show (if b h = 9 then 0 else eaH σ h (b h)) = sumN (fun w => if F h = (w : Int) then eaH σ h w else 0) 9 + (if decide (F h = 9) = true then (if b h = 9 then 0 else eaH σ h (b h)) else 0)
  simp only [decide_eq_true_iff]
  have z9 := (hH.fc h hh).2.2.1
  have zb := hb h hh
  rcases hX h hh with q | q
  · rw [if_pos q, sumN_0 (f := fun w => if F h = (w : Int) then eaH σ h w else 0) 9 (fun w hw => if_neg (by omega)), Int.zero_add]
  · by_cases c : b h = 9
    · rw [if_pos c] at q
      rw [if_pos c, if_neg (by omega), sumN_0 (f := fun w => if F h = (w : Int) then eaH σ h w else 0) 9 (fun w hw => if_neg (by omega))]; rfl
    · rw [if_neg c] at q
      rw [if_neg c, if_neg (by omega), sumN_only (m := b h) (by omega) (fun i hi hne => if_neg (by omega)), if_pos q, Int.add_zero]
theorem most_m {σ τ : St} {F : Nat → Int} (hH : RH σ) (hx : Ex SCm σ τ) (hF : ∀ h, h < hlN σ → gI τ 1391 0 h = F h) (hFv : ∀ h, h < hlN σ → F h = 9 ∨ F h = -9 ∨ ((frH σ h : Int) ≤ F h ∧ F h < (frH σ h : Int) + (cnH σ h : Int))) : ∃ r τ', fX12_earnsMost τ = some (r, τ') ∧ Ex [1384, 1385, 1386, 1387, 1388, 1389, 1390] τ τ' ∧ ((r = -9 ∧ ∀ b, VA σ b → ¬ XT σ F b) ∨ (∃ a, VA σ a ∧ XT σ F a ∧ TE σ a = r ∧ ∀ b, VA σ b → XT σ F b → TE σ b ≤ r)) := by
  obtain ⟨e1, e2, h8, h4, h5, e6, e7, e8⟩ := hH.hl
  have hx0 : Ex SCm σ (sI τ 1384 0 0 0) := hx.sI (by decide)
  have hE0 : Ex SCe τ (sI τ 1384 0 0 0) := Ex.rf.sI (by decide)
  have hF0 : ∀ h, h < hlN σ → gI (sI τ 1384 0 0 0) 1391 0 h = F h := fun h hh => by rw [ii (by omega)]; exact hF h hh
  rcases weeks_m hH hx0 hF0 9 0 (by omega) (sI τ 1384 0 0 0) Ex.rf (by rw [gs]; rfl) (fun k hk => by omega) with ⟨τ', k1, k2, w, hw, hc⟩ | ⟨τ1, k1, k2, k3, k4⟩
  · refine ⟨-9, τ', ?_, (hE0.trans k2).mono (by decide), .inl ⟨rfl, fun b hb hX => ?_⟩⟩
    · unfold fX12_earnsMost fX12_earnsMost_j9
      exact bnk_of k1 rfl
    · have z1 := xt_cnt hX hw
      have z2 := hb.2 w hw
      have z3 := (cwn_nn (n := hlN σ) (fre := fun h => decide (F h = 9)) (a := b) (w := w)).1
      unfold cpW at hc
      omega
  · have hx1 : Ex SCm σ τ1 := hx0.trans (k2.mono (by decide))
    have hF1 : ∀ h, h < hlN σ → gI τ1 1391 0 h = F h := fun h hh => by rw [k2.i (c := 1391) (by decide)]; exact hF0 h hh
    obtain ⟨τ2, l1, l2, l3, l4, l5⟩ := halls_m (x := sumN (bsW σ F) 9) hH hx1 hF1 (hlN σ) 0 (by omega) τ1 Ex.rf k3 (fun _ _ _ _ _ _ h => h) (fun h' hh' => by omega)
    have hfr : ∀ h, h < hlN σ → frH σ h + cnH σ h ≤ 9 := fun h hh => (hH.fc h hh).2.2.1
    have hsb := st_bd (fre := fun h => decide (F h = 9)) (cn := cnH σ) (hlN σ) (fun k hk => by have := hfr k hk; omega)
    have hwk : ∀ w, w < 9 → EG τ2 w (10 + w) 1 (cpW σ F w) 0 := fun w hw => l4 w hw _ _ _ _ (k4 w hw).1
    have cp8 : ∀ w, w < 9 → 0 ≤ cpW σ F w ∧ cpW σ F w ≤ 8 := fun w hw => by
      have a := (k4 w hw).2
      have := (bs_bd (F := F) (w := w) hH hw (hlN σ) (Nat.le_refl _)).2
      unfold cpW at a ⊢; omega
    have shp : ∀ k, k < stH (fun h => decide (F h = 9)) (cnH σ) (hlN σ) → ∃ u v r p, EG τ2 k u v r p ∧ ((10 ≤ u ∧ u < 19 ∧ v = 1 ∧ 0 ≤ r ∧ r ≤ 8 ∧ p = 0) ∨ (u = 0 ∧ 2 ≤ v ∧ v < 10 ∧ r = 1 ∧ p = 0) ∨ (2 ≤ u ∧ u < 10 ∧ 10 ≤ v ∧ v < 19 ∧ r = 1 ∧ -9999 ≤ p ∧ p ≤ 0)) := by
      intro k hk
      rcases st_cov (hlN σ) k hk with z | ⟨h, z1, z2, z3 | ⟨j, z3, z4⟩⟩
      · have := cp8 k z
        exact ⟨_, _, _, _, hwk k z, .inl ⟨by omega, by omega, rfl, by omega, by omega, rfl⟩⟩
      · rw [z3]
        exact ⟨_, _, _, _, (l5 h z1 (of_decide_eq_true z2)).1, .inr (.inl ⟨rfl, by omega, by omega, rfl, rfl⟩)⟩
      · rw [z4]
        have z5 := hfr h z1
        have b := ea_bd (w := frH σ h + j) (h := h) hH (by omega) z1
        exact ⟨_, _, _, _, (l5 h z1 (of_decide_eq_true z2)).2 j z3, .inr (.inr ⟨by omega, by omega, by omega, by omega, rfl, by omega, by omega⟩)⟩
    generalize hK : stH (fun h => decide (F h = 9)) (cnH σ) (hlN σ) = K at *
    have hG : GR (fun e => (gI τ2 1385 0 e).toNat) (fun e => (gI τ2 1386 0 e).toNat) (fun e => gI τ2 1388 0 e) K := by
      refine ⟨by omega, fun e he => ?_, fun k hk => ?_⟩
      · obtain ⟨u, v, r, p, ⟨⟨b1, b2, b3, b4⟩, b5, b6, b7, b8⟩, hs⟩ := shp (e / 2) (by omega)
        show (gI τ2 1385 0 e).toNat < 19 ∧ (gI τ2 1386 0 e).toNat < 19 ∧ -9999 ≤ gI τ2 1388 0 e ∧ gI τ2 1388 0 e ≤ 9999
        rcases (by omega : e = 2 * (e / 2) ∨ e = 2 * (e / 2) + 1) with q | q
        · rw [q, b1, b2, b4]; omega
        · rw [q, b5, b6, b8]; omega
      · obtain ⟨u, v, r, p, ⟨⟨b1, b2, b3, b4⟩, b5, b6, b7, b8⟩, hs⟩ := shp k hk
        show (gI τ2 1385 0 (2 * k + 1)).toNat = (gI τ2 1386 0 (2 * k)).toNat ∧ (gI τ2 1386 0 (2 * k + 1)).toNat = (gI τ2 1385 0 (2 * k)).toNat ∧ gI τ2 1388 0 (2 * k + 1) = - gI τ2 1388 0 (2 * k)
        rw [b1, b2, b4, b5, b6, b8]
        exact ⟨rfl, rfl, rfl⟩
    have hN : NT τ2 (fun e => (gI τ2 1385 0 e).toNat) (fun e => (gI τ2 1386 0 e).toNat) (fun e => gI τ2 1388 0 e) K := by
      refine ⟨l3, fun e he => ?_⟩
      obtain ⟨u, v, r, p, ⟨⟨b1, b2, b3, b4⟩, b5, b6, b7, b8⟩, hs⟩ := shp (e / 2) (by omega)
      show gI τ2 1385 0 e = ((gI τ2 1385 0 e).toNat : Int) ∧ gI τ2 1386 0 e = ((gI τ2 1386 0 e).toNat : Int) ∧ gI τ2 1388 0 e = gI τ2 1388 0 e
      rcases (by omega : e = 2 * (e / 2) ∨ e = 2 * (e / 2) + 1) with q | q
      · rw [q, b1, b2]; omega
      · rw [q, b5, b6]; omega
    have hcap : ∀ k, k < K → 0 ≤ gI τ2 1387 0 (2 * k) ∧ gI τ2 1387 0 (2 * k) ≤ 8 := fun k hk => by
      obtain ⟨u, v, r, p, ⟨⟨b1, b2, b3, b4⟩, b5, b6, b7, b8⟩, hs⟩ := shp k hk
      rw [b3]; omega
    have hr1 : ∀ k, k < K → gI τ2 1387 0 (2 * k + 1) = 0 := fun k hk => by
      obtain ⟨u, v, r, p, ⟨⟨b1, b2, b3, b4⟩, b5, b6, b7, b8⟩, hs⟩ := shp k hk
      exact b7
    have hsbb := sumN_bd2 (g := bsW σ F) (lo := 0) (hi := 79992) 9 (fun k hk' => by
      have := (bs_bd (F := F) (w := k) hH (by omega) (hlN σ) (Nat.le_refl _)).1
      unfold bsW; omega)
    have hI : FI τ2 (fun e => (gI τ2 1385 0 e).toNat) (fun e => (gI τ2 1386 0 e).toNat) (fun e => gI τ2 1388 0 e) K (fun k => gI τ2 1387 0 (2 * k)) (sumN (bsW σ F) 9) τ2 (sumN (bsW σ F) 9) (fun e => gI τ2 1387 0 e) := by
      refine ⟨Ex.rf, fun e he => ⟨rfl, ?_⟩, fun j hj => ?_, ⟨0, fun φ => ?_⟩, ?_⟩
      · show 0 ≤ gI τ2 1387 0 e
        rcases (by omega : e = 2 * (e / 2) ∨ e = 2 * (e / 2) + 1) with q | q
        · rw [q]; exact (hcap _ (by omega)).1
        · rw [q, hr1 _ (by omega)]; exact Int.le_refl _
      · show gI τ2 1387 0 (2 * j) + gI τ2 1387 0 (2 * j + 1) = gI τ2 1387 0 (2 * j)
        rw [hr1 j hj]; omega
      · rw [Int.zero_mul]
        unfold sF
        refine sumN_0 _ (fun k hk => ?_)
        show gI τ2 1387 0 (2 * k + 1) * _ = 0
        rw [hr1 k hk, Int.zero_mul]
      · rw [Int.sub_self]
        unfold sP_
        refine sumN_0 _ (fun k hk => ?_)
        show gI τ2 1387 0 (2 * k + 1) * _ = 0
        rw [hr1 k hk, Int.zero_mul]
    obtain ⟨x', τ', R', π', z1, z2, z3, z4, z5⟩ := flow_m hG hN (cap := fun k => gI τ2 1387 0 (2 * k)) (x0 := sumN (bsW σ F) 9) hcap (by omega) 8000000 τ2 (sumN (bsW σ F) 9) (fun e => gI τ2 1387 0 e) (fun v => if v = 0 then 0 else if v = 1 then -9999 else if v < 10 then 0 else -9999) (by omega) hI (fun e he hr => by
        have hr : 0 < gI τ2 1387 0 e := hr
        obtain ⟨u, v, r, p, ⟨⟨b1, b2, b3, b4⟩, b5, b6, b7, b8⟩, hs⟩ := shp (e / 2) (by omega)
        rcases (by omega : e = 2 * (e / 2) ∨ e = 2 * (e / 2) + 1) with q | q
        · show (if (gI τ2 1386 0 e).toNat = 0 then (0 : Int) else if (gI τ2 1386 0 e).toNat = 1 then -9999 else if (gI τ2 1386 0 e).toNat < 10 then 0 else -9999) ≤ (if (gI τ2 1385 0 e).toNat = 0 then (0 : Int) else if (gI τ2 1385 0 e).toNat = 1 then -9999 else if (gI τ2 1385 0 e).toNat < 10 then 0 else -9999) + gI τ2 1388 0 e
          rw [q, b1, b2, b4, Int.toNat_natCast, Int.toNat_natCast]
          rcases hs with s | s | s
          · rw [if_neg (show ¬ v = 0 by omega), if_pos s.2.2.1, if_neg (show ¬ u = 0 by omega), if_neg (show ¬ u = 1 by omega), if_neg (show ¬ u < 10 by omega)]; omega
          · rw [if_neg (show ¬ v = 0 by omega), if_neg (show ¬ v = 1 by omega), if_pos (show v < 10 by omega), if_pos s.1]; omega
          · rw [if_neg (show ¬ v = 0 by omega), if_neg (show ¬ v = 1 by omega), if_neg (show ¬ v < 10 by omega), if_neg (show ¬ u = 0 by omega), if_neg (show ¬ u = 1 by omega), if_pos (show u < 10 by omega)]; omega
        · rw [q, b7] at hr
          omega) rfl (by decide) (fun v hv => by
        show -9999 ≤ (if v = 0 then (0 : Int) else if v = 1 then -9999 else if v < 10 then 0 else -9999) ∧ (if v = 0 then (0 : Int) else if v = 1 then -9999 else if v < 10 then 0 else -9999) ≤ -9999 + 9999
        repeat' split
        all_goals omega)
    obtain ⟨y1, y2, y3, ⟨val, y4⟩, y5⟩ := z2
    have hD : LD (fun e => (gI τ2 1385 0 e).toNat) (fun e => (gI τ2 1386 0 e).toNat) (fun e => gI τ2 1388 0 e) (fun k => gI τ2 1387 0 (2 * k)) (hlN σ) (fun h => decide (F h = 9)) (frH σ) (cnH σ) (eaH σ) (cpW σ F) := by
      refine ⟨fun w hw => ?_, fun h hh c => ⟨?_, fun j hj => ?_⟩⟩
      · obtain ⟨⟨b1, b2, b3, b4⟩, -⟩ := hwk w hw
        show (gI τ2 1385 0 (2 * w)).toNat = 10 + w ∧ (gI τ2 1386 0 (2 * w)).toNat = 1 ∧ gI τ2 1388 0 (2 * w) = 0 ∧ gI τ2 1387 0 (2 * w) = cpW σ F w
        rw [b1, b2, b3, b4]
        exact ⟨Int.toNat_natCast _, rfl, rfl, rfl⟩
      · obtain ⟨⟨b1, b2, b3, b4⟩, -⟩ := (l5 h hh (of_decide_eq_true c)).1
        show (gI τ2 1385 0 (2 * stH (fun h => decide (F h = 9)) (cnH σ) h)).toNat = 0 ∧ (gI τ2 1386 0 (2 * stH (fun h => decide (F h = 9)) (cnH σ) h)).toNat = 2 + h ∧ gI τ2 1388 0 (2 * stH (fun h => decide (F h = 9)) (cnH σ) h) = 0 ∧ gI τ2 1387 0 (2 * stH (fun h => decide (F h = 9)) (cnH σ) h) = 1
        rw [b1, b2, b3, b4]
        exact ⟨rfl, Int.toNat_natCast _, rfl, rfl⟩
      · obtain ⟨⟨b1, b2, b3, b4⟩, -⟩ := (l5 h hh (of_decide_eq_true c)).2 j hj
        show (gI τ2 1385 0 (2 * (stH (fun h => decide (F h = 9)) (cnH σ) h + 1 + j))).toNat = 2 + h ∧ (gI τ2 1386 0 (2 * (stH (fun h => decide (F h = 9)) (cnH σ) h + 1 + j))).toNat = 10 + (frH σ h + j) ∧ gI τ2 1388 0 (2 * (stH (fun h => decide (F h = 9)) (cnH σ) h + 1 + j)) = - eaH σ h (frH σ h + j) ∧ gI τ2 1387 0 (2 * (stH (fun h => decide (F h = 9)) (cnH σ) h + 1 + j)) = 1
        rw [b1, b2, b3, b4]
        exact ⟨Int.toNat_natCast _, Int.toNat_natCast _, rfl, rfl⟩
    subst hK
    obtain ⟨a, ⟨ha1, ha2⟩, ha3⟩ := plan_of h8 hD hfr (fun e he => (y2 e he).2) y3 y4
    have hbest := fun b hb => plan_best hG hD hfr (fun e he => (y2 e he).2) y3 y4 z3 z4 z5 (a := b) hb
    refine ⟨x', τ', ?_, ?_, .inr ?_⟩
    · unfold fX12_earnsMost fX12_earnsMost_j9
      refine bnk_of k1 ?_
      show fX12_earnsMost_j86 (sumN (bsW σ F) 9) τ1 = _
      unfold fX12_earnsMost_j86 fX12_earnsMost_j88
      refine bnk_of l1 ?_
      unfold fX12_earnsMost_j165
      exact bnk_of z1 rfl
    · exact (((hE0.trans k2).trans l2).mono (by decide)).trans (y1.mono (by decide))
    · have hfa : ∀ h, h < hlN σ → F h = 9 → (if F h = 9 then a h else if F h = -9 then 9 else (F h).toNat) = a h := fun h _ q => if_pos q
      have hX : XT σ F (fun h => if F h = 9 then a h else if F h = -9 then 9 else (F h).toNat) := by
        intro h hh
        by_cases q : F h = 9
        · exact .inl q
        · right
          show F h = if (if F h = 9 then a h else if F h = -9 then 9 else (F h).toNat) = 9 then -9 else ((if F h = 9 then a h else if F h = -9 then 9 else (F h).toNat : Nat) : Int)
          rw [if_neg q]
          have b1 := hFv h hh
          have b2 := hfr h hh
          by_cases q2 : F h = -9
          · rw [if_pos q2, if_pos rfl]; exact q2
          · rw [if_neg q2, if_neg (by omega)]; omega
      have hcw : ∀ w, cwn (hlN σ) (fun h => decide (F h = 9)) (fun h => if F h = 9 then a h else if F h = -9 then 9 else (F h).toNat) w = cwn (hlN σ) (fun h => decide (F h = 9)) a w := by
        intro w
        refine sumN_c _ (fun h hh => ?_)
        show (if decide (F h = 9) = true ∧ (if F h = 9 then a h else if F h = -9 then 9 else (F h).toNat) = w then (1 : Int) else 0) = if decide (F h = 9) = true ∧ a h = w then 1 else 0
        simp only [decide_eq_true_iff]
        by_cases q : F h = 9
        · rw [if_pos q]
        · rw [if_neg (fun y => q y.1), if_neg (fun y => q y.1)]
      have hgn : gnA (hlN σ) (fun h => decide (F h = 9)) (eaH σ) (fun h => if F h = 9 then a h else if F h = -9 then 9 else (F h).toNat) = gnA (hlN σ) (fun h => decide (F h = 9)) (eaH σ) a := by
        refine sumN_c _ (fun h hh => ?_)
        show (if decide (F h = 9) = true then (if (if F h = 9 then a h else if F h = -9 then 9 else (F h).toNat) = 9 then 0 else eaH σ h (if F h = 9 then a h else if F h = -9 then 9 else (F h).toNat)) else 0) = if decide (F h = 9) = true then (if a h = 9 then 0 else eaH σ h (a h)) else 0
        simp only [decide_eq_true_iff]
        by_cases q : F h = 9
        · rw [if_pos q, if_pos q, if_pos q]
        · rw [if_neg q, if_neg q]
      have hrg : ∀ h, h < hlN σ → (if F h = 9 then a h else if F h = -9 then 9 else (F h).toNat) = 9 ∨ (frH σ h ≤ (if F h = 9 then a h else if F h = -9 then 9 else (F h).toNat) ∧ (if F h = 9 then a h else if F h = -9 then 9 else (F h).toNat) < frH σ h + cnH σ h) := by
        intro h hh
        by_cases q : F h = 9
        · rw [if_pos q]; exact ha1 h hh (decide_eq_true q)
        · rw [if_neg q]
          have b1 := hFv h hh
          by_cases q2 : F h = -9
          · rw [if_pos q2]; exact .inl rfl
          · rw [if_neg q2]; omega
      refine ⟨fun h => if F h = 9 then a h else if F h = -9 then 9 else (F h).toNat, ⟨hrg, fun w hw => ?_⟩, hX, ?_, fun b hb hbX => ?_⟩
      · rw [xt_cnt hX hw, hcw]
        have := ha2 w hw
        unfold cpW at this
        omega
      · rw [xt_te hH hX hrg, hgn, ha3]
        omega
      · have hfb := hbest b ⟨fun h hh _ => hb.1 h hh, fun w hw => by
          have u1 := xt_cnt hbX hw
          have u2 := hb.2 w hw
          unfold cpW; omega⟩
        rw [xt_te hH hbX hb.1]
        omega
