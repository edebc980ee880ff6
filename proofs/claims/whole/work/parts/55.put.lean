/-! put and cut -/
theorem okr_s {σ : St} {K x : Nat} (h : x < gN σ K) : okrB σ K (some x) = true := decide_eq_true h
theorem ck_t {α : Type} {b : Bool} {k : Option α} (h : b = true) : ck (b = true) k = k := if_pos h
theorem pp {c j e c2 j2 e2 : Nat} {σ : St} {v : Option Nat} (h : ¬ (c2 = c ∧ j2 = j ∧ e2 = e)) : gP (sP σ c j e v) c2 j2 e2 = gP σ c2 j2 e2 := by rw [gP_sP, if_neg h]
theorem ps {c j e : Nat} {σ : St} {v : Option Nat} : gP (sP σ c j e v) c j e = v := by rw [gP_sP, if_pos ⟨rfl, rfl, rfl⟩]
theorem RY.rowup {σ σ2 : St} (h : RY σ) (hx : Ex [904, 905, 1331, 1332] σ σ2) (hn : ∀ i, i < gN σ 8 → gI σ2 1331 0 i = gI σ2 905 i 0 ∧ (0 ≤ gI σ2 905 i 0 ∧ gI σ2 905 i 0 ≤ 6) ∧ ∀ e : Nat, (e : Int) < gI σ2 905 i 0 → ∃ s : Nat, gP σ2 904 i e = some s ∧ gI σ2 1332 0 (6 * i + e) = (s : Int) ∧ s < gN σ 7) (hm : ∀ i, gN σ 8 ≤ i → gI σ2 1331 0 i = 0) : RY σ2 := by
  obtain ⟨s1, s2, s3, s4, s5⟩ := h
  unfold RY RY1
  simp only [hx.i (c := 900) (by decide), hx.i (c := 901) (by decide), hx.i (c := 902) (by decide), hx.i (c := 903) (by decide), hx.i (c := 906) (by decide), hx.i (c := 907) (by decide), hx.i (c := 1206) (by decide), hx.i (c := 1326) (by decide), hx.i (c := 1327) (by decide), hx.i (c := 1328) (by decide), hx.i (c := 1329) (by decide), hx.i (c := 1330) (by decide), hx.i (c := 1333) (by decide), hx.i (c := 1334) (by decide), hx.p (c := 1205) (by decide), hx.n 7, hx.n 8]
  refine ⟨s1, s2, s3, fun i hi => ?_, fun i hi => ⟨hm i hi, (s5 i hi).2⟩⟩
  obtain ⟨q1, q2, q3, q4, q5, q6, q7, q8, r1, r2, r3, r4, r5, r6, r7, r8⟩ := s4 i hi
  obtain ⟨n1, n2, n3⟩ := hn i hi
  exact ⟨q1, q2, q3, q4, q5, n1, q7, q8, r1, r2, r3, r4, n2, r6, r7, n3⟩
theorem has_c {σ : St} {i s : Nat} (hi : RY1 σ i) : fX8_has i s σ = some (if allB (fun e => decide (rwS σ i e ≠ s)) (szS σ i) = true then 0 else 1) := by
  obtain ⟨z1, z2, z3⟩ := hi.sz
  unfold fX8_has fX8_has_j2 fX8_has_j20 fX8_has_j28
  have hw := wh_all (f := fun s_1 => fX8_has_l2 i s σ s_1) (fun e => decide (rwS σ i e ≠ s)) (szS σ i) ?_ ?_
  · rw [hw, bnk_some]
    by_cases c : allB (fun e => decide (rwS σ i e ≠ s)) (szS σ i) = true
    · rw [if_pos c, if_pos c]; rfl
    · rw [if_neg c, if_neg c]; rfl
  · intro e he
    obtain ⟨h1, h2, h3⟩ := hi.row he
    show fX8_has_l2 i s σ (e : Int) = _
    unfold fX8_has_l2
    rw [z1, if_neg (by omega), ck_x (by omega) (by omega), lt_def, Int.toNat_natCast, h1, ck_t (okr_s h3)]
    by_cases c : rwS σ i e = s
    · rw [if_pos (by rw [c]), if_neg (by simp [c])]
    · rw [if_neg (fun z => c (Option.some.inj z)), ck_i (by omega) (by omega), if_pos (by simp [c])]
  · show fX8_has_l2 i s σ _ = _
    unfold fX8_has_l2
    rw [z1, if_pos (by omega)]
theorem has_m {σ1 : St} {i s n : Nat} {row : Nat → Nat} (h8 : i < 8) (hn : n ≤ 6) (hz : gI σ1 1331 0 i = (n : Int)) (hr : ∀ e, e < n → gI σ1 1332 0 (6 * i + e) = (row e : Int)) : wh (fun z => fX12_put_l23 (i : Int) (s : Int) σ1 z.1 z.2) (0, 0) = some (if allB (fun e => decide (row e ≠ s)) n = true then 0 else 1) := by
  have hw := wh_seq (f := fun z => fX12_put_l23 (i : Int) (s : Int) σ1 z.1 z.2) (r := (if allB (fun e => decide (row e ≠ s)) n = true then (0 : Int) else 1)) n (fun e => ((if allB (fun e => decide (row e ≠ s)) e = true then (0 : Int) else 1), (e : Int))) ?_ ?_
  · exact hw
  · intro e he
    show fX12_put_l23 (i : Int) (s : Int) σ1 (if allB (fun e => decide (row e ≠ s)) e = true then (0 : Int) else 1) (e : Int) = some (.inl ((if (allB (fun e => decide (row e ≠ s)) e && decide (row e ≠ s)) = true then (0 : Int) else 1), ((e + 1 : Nat) : Int)))
    have t : (6 * (i : Int) + (e : Int)).toNat = 6 * i + e := by omega
    unfold fX12_put_l23 fX12_put_j54 fX12_put_j59
    rw [ck_x (by omega) (by omega), Int.toNat_natCast, hz, if_neg (by omega), ck_i (by omega) (by omega), ck_i (by omega) (by omega), ck_x (by omega) (by omega), t, hr e he, ck_i (by omega) (by omega), ck_i (by omega) (by omega)]
    by_cases c : allB (fun e => decide (row e ≠ s)) e = true
    · rw [if_pos c, if_pos rfl, c]
      by_cases c2 : row e = s
      · rw [if_pos (by omega), if_neg (by simp [c2])]; rfl
      · rw [if_neg (by omega), if_pos (by simp [c2])]; rfl
    · rw [if_neg c, if_neg (by decide), if_neg (by simp at c ⊢; simp [c])]; rfl
  · show fX12_put_l23 (i : Int) (s : Int) σ1 _ (n : Int) = _
    unfold fX12_put_l23
    rw [ck_x (by omega) (by omega), Int.toNat_natCast, hz, if_pos (by omega)]
theorem op_16 : OP16 RR := by
  intro a1 a2 ha1 ha2 σ hSF hR
  obtain ⟨hT, hW, hS, hF, hY, hA, hL, hG, hE, hC, hH, hQ⟩ := id hR
  obtain ⟨t1, t2, t3⟩ := id hT
  by_cases p : 0 ≤ a1 ∧ a1 < (gN σ 8 : Int)
  · obtain ⟨e1, e2, e3, e4, hi⟩ := stP hY p
    by_cases p2 : 0 ≤ a2 ∧ a2 < (gN σ 7 : Int)
    · obtain ⟨f1, f2, f3, f4, hs⟩ := shP hS p2
      obtain ⟨i, rfl⟩ := Int.eq_ofNat_of_zero_le p.1
      obtain ⟨s, rfl⟩ := Int.eq_ofNat_of_zero_le p2.1
      rw [Int.toNat_natCast] at e1 e3 hi f1 f3
      have hw0 := wv_m (σ := σ) (x := (s : Int)) (h := gI σ 1200 0 0) t3 hs f4 t3
      rw [Int.toNat_natCast] at hs hw0
      obtain ⟨z1, z2, z3⟩ := hi.sz
      have hrow : ∀ e, e < szS σ i → gI σ 1332 0 (6 * i + e) = (rwS σ i e : Int) := fun e he => (hi.row he).2.1
      by_cases c0 : wv σ s (gI σ 1200 0 0) = 3
      · by_cases c1 : allB (fun e => decide (rwS σ i e ≠ s)) (szS σ i) = true
        · by_cases c2 : szS σ i < 6
          · refine opW (r := (szS σ i : Int) + 1) (σ1 := sI (sP σ 904 i (szS σ i) (some s)) 905 i 0 ((szS σ i : Int) + 1)) (σ2 := sI (sI (sI (sP σ 904 i (szS σ i) (some s)) 905 i 0 ((szS σ i : Int) + 1)) 1332 0 (6 * i + szS σ i) (s : Int)) 1331 0 i ((szS σ i : Int) + 1)) ?_ ?_ ?_
            · unfold fX11_put fX8_append
              rw [e1, bnk_some, f1, bnk_some, mop_s, ck_n e3, mop_s, ck_n f3, wv_c, bnk_some, if_pos c0, has_c hi, bnk_some, if_pos c1, if_pos rfl, z1, if_pos (by omega), ck_x (by omega) (by omega), ck_i (by omega) (by omega), Int.toNat_natCast, bnd_some]
            · have hx : Ex [904, 905] σ (sI (sP σ 904 i (szS σ i) (some s)) 905 i 0 ((szS σ i : Int) + 1)) := (Ex.rf.sP (by decide)).sI (by decide)
              generalize sI (sP σ 904 i (szS σ i) (some s)) 905 i 0 ((szS σ i : Int) + 1) = σ1 at hx
              have hs2 : fX12_whereOf (s : Int) (gI σ 1200 0 0) σ1 = fX12_whereOf (s : Int) (gI σ 1200 0 0) σ := by
                unfold fX12_whereOf
                simp only [hx.i (c := 1317) (by decide), hx.i (c := 1318) (by decide), hx.i (c := 1319) (by decide), hx.i (c := 1320) (by decide)]
              have hi2 : fX12_isShot (s : Int) σ1 = fX12_isShot (s : Int) σ := by
                unfold fX12_isShot
                rw [hx.i (c := 1310) (by decide)]
              have hi3 : fX12_isStory (i : Int) σ1 = fX12_isStory (i : Int) σ := by
                unfold fX12_isStory
                rw [hx.i (c := 1326) (by decide)]
              have hz : gI σ1 1331 0 i = (szS σ i : Int) := by rw [hx.i (c := 1331) (by decide), z2]
              have t : (6 * (i : Int) + (szS σ i : Int)).toNat = 6 * i + szS σ i := by omega
              unfold fX12_put fX12_put_j23 fX12_put_j66
              rw [hi3, e2, bnk_some, if_neg (by decide), hi2, f2, bnk_some, if_neg (by decide), has_m (row := rwS σ i) (n := szS σ i) (by omega) z3 hz (fun e he => by rw [hx.i (c := 1332) (by decide)]; exact hrow e he), bnk_some, if_pos c1, if_pos rfl, hx.i (c := 1300) (by decide), t1, hs2, hw0, bnk_some, if_pos c0, ck_x (by omega) (by omega), Int.toNat_natCast, hz, if_neg (by omega), ck_i (by omega) (by omega), ck_x (by omega) (by omega), ck_i (by omega) (by omega), ck_x (by omega) (by omega), ck_x (by omega) (by omega), ck_i (by omega) (by omega), ck_x (by omega) (by omega), ck_x (by omega) (by omega), t]
            · have hx : Ex [904, 905, 1331, 1332] σ (sI (sI (sI (sP σ 904 i (szS σ i) (some s)) 905 i 0 ((szS σ i : Int) + 1)) 1332 0 (6 * i + szS σ i) (s : Int)) 1331 0 i ((szS σ i : Int) + 1)) := (((Ex.rf.sP (by decide)).sI (by decide)).sI (by decide)).sI (by decide)
              refine ⟨hT.ex hx (dj_use (by decide)), hW.ex hx (dj_use (by decide)), hS.ex hx (dj_use (by decide)), hF.ex hx (dj_use (by decide)), ?_, hA.ex hx (dj_use (by decide)), hL.ex hx (dj_use (by decide)), hG.ex hx (dj_use (by decide)), hE.ex hx (dj_use (by decide)), hC.ex hx (dj_use (by decide)), hH.ex hx (dj_use (by decide)), hQ.ex hx (dj_use (by decide))⟩
              refine hY.rowup hx (fun k hk => ?_) (fun k hk => ?_)
              · by_cases q : k = i
                · subst q
                  rw [gs, ii (by omega), ii (by omega), gs]
                  refine ⟨rfl, by omega, fun e he => ?_⟩
                  rw [gP_sI, gP_sI, gP_sI, ii (by omega)]
                  by_cases q2 : e = szS σ k
                  · subst q2
                    exact ⟨s, ps, gs, f3⟩
                  · obtain ⟨h1, h2, h3⟩ := hi.row (e := e) (by omega)
                    exact ⟨rwS σ k e, by rw [pp (by omega)]; exact h1, by rw [ii (by omega), ii (by omega), gI_sP]; exact h2, h3⟩
                · obtain ⟨q1, q2, q3, q4, q5, q6, q7, q8, r1, r2, r3, r4, r5, r6, r7, r8⟩ := hY.2.2.2.1 k hk
                  rw [ii (by omega), ii (by omega), ii (by omega), gI_sP, ii (by omega), ii (by omega), ii (by omega), gI_sP]
                  refine ⟨q6, r5, fun e he => ?_⟩
                  obtain ⟨s2, u1, u2, u3⟩ := r8 e he
                  refine ⟨s2, ?_, ?_, u3⟩
                  · rw [gP_sI, gP_sI, gP_sI, pp (by omega)]; exact u1
                  · rw [ii (by omega), ii (by omega), ii (by omega), gI_sP]; exact u2
              · rw [ii (by omega), ii (by omega), ii (by omega), gI_sP]
                exact (hY.2.2.2.2 k hk).1
          · refine opW (r := -4) (σ1 := σ) (σ2 := σ) ?_ ?_ hR
            · unfold fX11_put fX8_append
              rw [e1, bnk_some, f1, bnk_some, mop_s, ck_n e3, mop_s, ck_n f3, wv_c, bnk_some, if_pos c0, has_c hi, bnk_some, if_pos c1, if_pos rfl, z1, if_neg (by omega), bnd_some]
            · unfold fX12_put fX12_put_j23 fX12_put_j66
              rw [e2, bnk_some, if_neg (by decide), f2, bnk_some, if_neg (by decide), has_m (row := rwS σ i) (n := szS σ i) (by omega) z3 z2 hrow, bnk_some, if_pos c1, if_pos rfl, t1, hw0, bnk_some, if_pos c0, ck_x (by omega) (by omega), Int.toNat_natCast, z2, if_pos (by omega)]
        · refine opW (r := -3) (σ1 := σ) (σ2 := σ) ?_ ?_ hR
          · unfold fX11_put
            rw [e1, bnk_some, f1, bnk_some, mop_s, ck_n e3, mop_s, ck_n f3, wv_c, bnk_some, if_pos c0, has_c hi, bnk_some, if_neg c1, if_neg (by decide)]
          · unfold fX12_put fX12_put_j23 fX12_put_j66
            rw [e2, bnk_some, if_neg (by decide), f2, bnk_some, if_neg (by decide), has_m (row := rwS σ i) (n := szS σ i) (by omega) z3 z2 hrow, bnk_some, if_neg c1, if_neg (by decide)]
      · refine opW (r := -3) (σ1 := σ) (σ2 := σ) ?_ ?_ hR
        · unfold fX11_put
          rw [e1, bnk_some, f1, bnk_some, mop_s, ck_n e3, mop_s, ck_n f3, wv_c, bnk_some, if_neg c0]
        · unfold fX12_put fX12_put_j23 fX12_put_j66
          rw [e2, bnk_some, if_neg (by decide), f2, bnk_some, if_neg (by decide), has_m (row := rwS σ i) (n := szS σ i) (by omega) z3 z2 hrow, bnk_some, t1, hw0, bnk_some, if_neg c0]
          split <;> rfl
    · obtain ⟨f1, f2⟩ := shN hS p2
      refine opW (r := -1) (σ1 := σ) (σ2 := σ) ?_ ?_ hR
      · unfold fX11_put
        rw [e1, bnk_some, f1, bnk_some, mop_s, ck_n e3, mop_n]
      · unfold fX12_put
        rw [e2, bnk_some, if_neg (by decide), f2]; rfl
  · obtain ⟨e1, e2⟩ := stN hY p
    refine opW (r := -1) (σ1 := σ) (σ2 := σ) ?_ ?_ hR
    · unfold fX11_put
      rw [e1, bnk_some]
      by_cases p2 : 0 ≤ a2 ∧ a2 < (gN σ 7 : Int)
      · rw [(shP hS p2).1]; rfl
      · rw [(shN hS p2).1]; rfl
    · unfold fX12_put; rw [e2]; rfl
/-- a row shifted down -/
def shC (σ : St) (i a : Nat) : Nat → St
  | 0 => σ
  | k + 1 => sP (shC σ i a k) 904 i (a + k) (gP (shC σ i a k) 904 i (a + k + 1))
theorem shC_p (σ : St) (i a k : Nat) : Ex [904] σ (shC σ i a k) ∧ ∀ j e, gP (shC σ i a k) 904 j e = if j = i ∧ a ≤ e ∧ e < a + k then gP σ 904 j (e + 1) else gP σ 904 j e := by
  induction k with
  | zero => exact ⟨Ex.rf, fun j e => by rw [if_neg (by omega)]; rfl⟩
  | succ k ih =>
    refine ⟨ih.1.sP (by decide), fun j e => ?_⟩
    show gP (sP (shC σ i a k) 904 i (a + k) (gP (shC σ i a k) 904 i (a + k + 1))) 904 j e = _
    rw [gP_sP, ih.2 i, ih.2 j]
    by_cases c : j = i ∧ e = a + k
    · rw [if_pos ⟨rfl, c.1, c.2⟩, if_neg (by omega), if_pos (by omega), c.1, c.2]
    · rw [if_neg (by omega)]
      by_cases c2 : j = i ∧ a ≤ e ∧ e < a + k
      · rw [if_pos c2, if_pos (by omega)]
      · rw [if_neg c2, if_neg (by omega)]
def shM (σ : St) (i a : Nat) : Nat → St
  | 0 => σ
  | k + 1 => sI (shM σ i a k) 1332 0 (6 * i + (a + k)) (gI (shM σ i a k) 1332 0 (6 * i + (a + k) + 1))
theorem shM_p (σ : St) (i a k : Nat) : Ex [1332] σ (shM σ i a k) ∧ ∀ e, gI (shM σ i a k) 1332 0 e = if 6 * i + a ≤ e ∧ e < 6 * i + a + k then gI σ 1332 0 (e + 1) else gI σ 1332 0 e := by
  induction k with
  | zero => exact ⟨Ex.rf, fun e => by rw [if_neg (by omega)]; rfl⟩
  | succ k ih =>
    refine ⟨ih.1.sI (by decide), fun e => ?_⟩
    show gI (sI (shM σ i a k) 1332 0 (6 * i + (a + k)) (gI (shM σ i a k) 1332 0 (6 * i + (a + k) + 1))) 1332 0 e = _
    rw [gI_sI, ih.2 (6 * i + (a + k) + 1), ih.2 e]
    by_cases c : e = 6 * i + (a + k)
    · rw [if_pos ⟨rfl, rfl, c⟩, if_neg (by omega), if_pos (by omega), c]
    · rw [if_neg (by omega)]
      by_cases c2 : 6 * i + a ≤ e ∧ e < 6 * i + a + k
      · rw [if_pos c2, if_pos (by omega)]
      · rw [if_neg c2, if_neg (by omega)]
theorem op_17 : OP17 RR := by
  intro a1 a2 ha1 ha2 σ hSF hR
  obtain ⟨hT, hW, hS, hF, hY, hA, hL, hG, hE, hC, hH, hQ⟩ := id hR
  by_cases p : 0 ≤ a1 ∧ a1 < (gN σ 8 : Int)
  · obtain ⟨e1, e2, e3, e4, hi⟩ := stP hY p
    obtain ⟨i, rfl⟩ := Int.eq_ofNat_of_zero_le p.1
    rw [Int.toNat_natCast] at e1 e3 hi
    obtain ⟨z1, z2, z3⟩ := hi.sz
    by_cases p2 : 0 ≤ a2 ∧ a2 ≤ (szS σ i : Int) - 1
    · obtain ⟨a, rfl⟩ := Int.eq_ofNat_of_zero_le p2.1
      obtain ⟨m, hm⟩ : ∃ m, szS σ i = a + 1 + m := ⟨szS σ i - (a + 1), by omega⟩
      obtain ⟨g1, g2, g3⟩ := hi.row (e := a) (by omega)
      obtain ⟨y1, y2⟩ := shC_p σ i a m
      have hsh : gI σ 800 (rwS σ i a) 0 = (rwS σ i a : Int) := by
        obtain ⟨q1, q2, q3⟩ := hS.2.2.2 _ g3
        exact q2
      have hcl : wh (fun s => fX8_remove_l31 i (rwS σ i a : Int) s.1 s.2) (((a : Int) + 1, σ)) = some (shC σ i a m) := by
        have hw := wh_seq (f := fun s => fX8_remove_l31 i (rwS σ i a : Int) s.1 s.2) (r := shC σ i a m) m (fun k => ((((a + 1 + k : Nat) : Int)), shC σ i a k)) ?_ ?_
        · exact hw
        · intro k hk
          obtain ⟨w1, w2⟩ := shC_p σ i a k
          obtain ⟨h1, h2, h3⟩ := hi.row (e := a + 1 + k) (by omega)
          have e5 : gP (shC σ i a k) 904 i (a + 1 + k) = some (rwS σ i (a + 1 + k)) := by rw [w2, if_neg (by omega)]; exact h1
          show fX8_remove_l31 i (rwS σ i a : Int) ((a + 1 + k : Nat) : Int) (shC σ i a k) = some (.inl (((a + 1 + (k + 1) : Nat) : Int), sP (shC σ i a k) 904 i (a + k) (gP (shC σ i a k) 904 i (a + k + 1))))
          have e6 : a + k + 1 = a + 1 + k := by omega
          have e7 : (((a + 1 + k : Nat) : Int) - 1).toNat = a + k := by omega
          have e8 : ((a + 1 + (k + 1) : Nat) : Int) = ((a + 1 + k : Nat) : Int) + 1 := by omega
          unfold fX8_remove_l31
          rw [w1.i (c := 905) (by decide), z1, if_neg (by omega), ck_i (by omega) (by omega), ck_x (by omega) (by omega), lt_def, Int.toNat_natCast, e5, ck_x (by omega) (by omega), ck_t (okr_s (by rw [w1.n]; exact h3)), ck_i (by omega) (by omega), e7, e6, e5, e8]
        · show fX8_remove_l31 i (rwS σ i a : Int) ((a + 1 + m : Nat) : Int) (shC σ i a m) = _
          unfold fX8_remove_l31
          rw [y1.i (c := 905) (by decide), z1, if_pos (by omega)]
      have hx1 : Ex [904, 905] σ (sI (shC σ i a m) 905 i 0 ((szS σ i : Int) - 1)) := (y1.mono (by decide)).sI (by decide)
      refine opW (r := (rwS σ i a : Int)) (σ1 := sI (shC σ i a m) 905 i 0 ((szS σ i : Int) - 1)) (σ2 := shM (sI (sI (shC σ i a m) 905 i 0 ((szS σ i : Int) - 1)) 1331 0 i ((szS σ i : Int) - 1)) i a m) ?_ ?_ ?_
      · unfold fX11_cut fX8_remove fX8_remove_j31 fX8_remove_j59
        rw [e1, bnk_some, mop_s, ck_n e3, z1, ck_i (by omega) (by omega), within_eq, bnkI, if_pos p2, ck_x (by omega) (by omega), lt_def, Int.toNat_natCast, g1, mop_s, ck_n g3, ck_i (by omega) (by omega), hsh, hcl, bnk_some, y1.i (c := 905) (by decide), z1, ck_i (by omega) (by omega), bnd_some]
      · generalize sI (shC σ i a m) 905 i 0 ((szS σ i : Int) - 1) = σ1 at hx1
        have hi3 : fX12_isStory (i : Int) σ1 = fX12_isStory (i : Int) σ := by
          unfold fX12_isStory
          rw [hx1.i (c := 1326) (by decide)]
        have hz : gI σ1 1331 0 i = (szS σ i : Int) := by rw [hx1.i (c := 1331) (by decide), z2]
        have hr : gI σ1 1332 0 (6 * i + a) = (rwS σ i a : Int) := by rw [hx1.i (c := 1332) (by decide)]; exact g2
        have t : (6 * (i : Int) + (a : Int)).toNat = 6 * i + a := by omega
        have hml : wh (fun s => fX12_cut_l56 (i : Int) (rwS σ i a : Int) s.1 s.2) (((a : Int), sI σ1 1331 0 i ((szS σ i : Int) - 1))) = some (shM (sI σ1 1331 0 i ((szS σ i : Int) - 1)) i a m) := by
          have hw := wh_seq (f := fun s => fX12_cut_l56 (i : Int) (rwS σ i a : Int) s.1 s.2) (r := shM (sI σ1 1331 0 i ((szS σ i : Int) - 1)) i a m) m (fun k => ((((a + k : Nat) : Int)), shM (sI σ1 1331 0 i ((szS σ i : Int) - 1)) i a k)) ?_ ?_
          · exact hw
          · intro k hk
            obtain ⟨w1, w2⟩ := shM_p (sI σ1 1331 0 i ((szS σ i : Int) - 1)) i a k
            have e6 : (6 * (i : Int) + ((a + k : Nat) : Int)).toNat = 6 * i + (a + k) := by omega
            have e7 : (6 * (i : Int) + ((a + k : Nat) : Int) + 1).toNat = 6 * i + (a + k) + 1 := by omega
            show fX12_cut_l56 (i : Int) (rwS σ i a : Int) ((a + k : Nat) : Int) (shM (sI σ1 1331 0 i ((szS σ i : Int) - 1)) i a k) = some (.inl (((a + k : Nat) : Int) + 1, sI (shM (sI σ1 1331 0 i ((szS σ i : Int) - 1)) i a k) 1332 0 (6 * i + (a + k)) (gI (shM (sI σ1 1331 0 i ((szS σ i : Int) - 1)) i a k) 1332 0 (6 * i + (a + k) + 1))))
            unfold fX12_cut_l56
            rw [ck_x (by omega) (by omega), Int.toNat_natCast, w1.i (c := 1331) (by decide), gs, if_neg (by omega), ck_i (by omega) (by omega), ck_i (by omega) (by omega), ck_i (by omega) (by omega), ck_i (by omega) (by omega), ck_i (by omega) (by omega), ck_x (by omega) (by omega), ck_x (by omega) (by omega), ck_i (by omega) (by omega), e6, e7]
          · obtain ⟨w1, w2⟩ := shM_p (sI σ1 1331 0 i ((szS σ i : Int) - 1)) i a m
            show fX12_cut_l56 (i : Int) (rwS σ i a : Int) ((a + m : Nat) : Int) (shM (sI σ1 1331 0 i ((szS σ i : Int) - 1)) i a m) = _
            unfold fX12_cut_l56
            rw [ck_x (by omega) (by omega), Int.toNat_natCast, w1.i (c := 1331) (by decide), gs, if_pos (by omega)]
        unfold fX12_cut fX12_cut_j56 fX12_cut_j99
        rw [hi3, e2, bnk_some, if_neg (by decide), ck_x (by omega) (by omega), Int.toNat_natCast, hz, ck_i (by omega) (by omega), in_eq, bnkI, if_pos p2, ck_i (by omega) (by omega), ck_i (by omega) (by omega), ck_x (by omega) (by omega), ck_x (by omega) (by omega), ck_i (by omega) (by omega), ck_x (by omega) (by omega), t, hr, hml, bnk_some]
      · obtain ⟨w1, w2⟩ := shM_p (sI (sI (shC σ i a m) 905 i 0 ((szS σ i : Int) - 1)) 1331 0 i ((szS σ i : Int) - 1)) i a m
        have hx : Ex [904, 905, 1331, 1332] σ (shM (sI (sI (shC σ i a m) 905 i 0 ((szS σ i : Int) - 1)) 1331 0 i ((szS σ i : Int) - 1)) i a m) := ((hx1.mono (by decide)).sI (by decide)).trans (w1.mono (by decide))
        refine ⟨hT.ex hx (dj_use (by decide)), hW.ex hx (dj_use (by decide)), hS.ex hx (dj_use (by decide)), hF.ex hx (dj_use (by decide)), ?_, hA.ex hx (dj_use (by decide)), hL.ex hx (dj_use (by decide)), hG.ex hx (dj_use (by decide)), hE.ex hx (dj_use (by decide)), hC.ex hx (dj_use (by decide)), hH.ex hx (dj_use (by decide)), hQ.ex hx (dj_use (by decide))⟩
        have r32 : ∀ e, gI (sI (sI (shC σ i a m) 905 i 0 ((szS σ i : Int) - 1)) 1331 0 i ((szS σ i : Int) - 1)) 1332 0 e = gI σ 1332 0 e := fun e => by rw [ii (by omega), ii (by omega), y1.i (c := 1332) (by decide)]
        refine hY.rowup hx (fun k hk => ?_) (fun k hk => ?_)
        · rw [w1.i (c := 1331) (by decide), w1.i (c := 905) (by decide)]
          by_cases q : k = i
          · subst q
            rw [gs, ii (by omega), gs]
            refine ⟨rfl, by omega, fun e he => ?_⟩
            rw [w1.p (c := 904) (by decide), gP_sI, gP_sI, y2, w2, r32, r32]
            by_cases q2 : e < a
            · obtain ⟨h1, h2, h3⟩ := hi.row (e := e) (by omega)
              rw [if_neg (by omega), if_neg (by omega)]
              exact ⟨rwS σ k e, h1, h2, h3⟩
            · obtain ⟨h1, h2, h3⟩ := hi.row (e := e + 1) (by omega)
              rw [if_pos (by omega), if_pos (by omega)]
              exact ⟨rwS σ k (e + 1), h1, h2, h3⟩
          · obtain ⟨q1, q2, q3, q4, q5, q6, q7, q8, r1, r2, r3, r4, r5, r6, r7, r8⟩ := hY.2.2.2.1 k hk
            rw [ii (by omega), ii (by omega), y1.i (c := 1331) (by decide), ii (by omega), ii (by omega), y1.i (c := 905) (by decide)]
            refine ⟨q6, r5, fun e he => ?_⟩
            obtain ⟨s2, u1, u2, u3⟩ := r8 e he
            rw [w1.p (c := 904) (by decide), gP_sI, gP_sI, y2, if_neg (by omega), w2, if_neg (by omega), r32]
            exact ⟨s2, u1, u2, u3⟩
        · rw [w1.i (c := 1331) (by decide), ii (by omega), ii (by omega), y1.i (c := 1331) (by decide)]
          exact (hY.2.2.2.2 k hk).1
    · refine opW (r := -2) (σ1 := σ) (σ2 := σ) ?_ ?_ hR
      · unfold fX11_cut fX8_remove
        rw [e1, bnk_some, mop_s, ck_n e3, z1, ck_i (by omega) (by omega), within_eq, bnkI, if_neg p2, bnd_some]
      · unfold fX12_cut
        rw [e2, bnk_some, if_neg (by decide), ck_x (by omega) (by omega), Int.toNat_natCast, z2, ck_i (by omega) (by omega), in_eq, bnkI, if_neg p2]
  · obtain ⟨e1, e2⟩ := stN hY p
    refine opW (r := -1) (σ1 := σ) (σ2 := σ) ?_ ?_ hR
    · unfold fX11_cut; rw [e1]; rfl
    · unfold fX12_cut; rw [e2]; rfl
