/-! reel, reelAt, show -/
theorem vm_div {d : Nat → Nat} (hd : ∀ j, d j ≤ 8) (m i : Nat) : vm d (m + i) / 9 ^ i = vm d m := by
  induction i with
  | zero => rw [Nat.pow_zero, Nat.div_one]; rfl
  | succ i ih =>
    rw [Nat.pow_succ, Nat.mul_comm, ← Nat.div_div_eq_div_mul]
    show (9 * vm d (m + i) + d (m + i)) / 9 / 9 ^ i = _
    have := hd (m + i)
    rw [show (9 * vm d (m + i) + d (m + i)) / 9 = vm d (m + i) by omega]
    exact ih
/-- both searches, one best row -/
theorem best_cm {σ : St} {l d : Int} (hR : RR σ) (p1 : 0 ≤ l ∧ l ≤ 4) (p2 : 0 ≤ d ∧ d ≤ 416) : ∃ (τ1 τ2 : St) (br : Nat → Nat) (bk : Nat) (bw : Int), fX11_listStories l d σ = some ((), τ1) ∧ fX4_search τ1 = some ((), τ2) ∧ Ag σ τ2 ∧ gI τ2 511 0 0 = bw ∧ gI τ2 512 0 0 = BR8 br bk ∧ bk ≤ 8 ∧ (∀ j, j < bk → br j < gN σ 8) ∧ ∀ τx, AgM σ τx → ∃ τ3, fX12_layReel l d τx = some ((), τ3) ∧ Ex (SLm ++ SRm) τx τ3 ∧ gI τ3 1366 0 0 = bw ∧ gI τ3 1365 0 0 = (bk : Int) ∧ ∀ j, j < bk → gI τ3 1364 0 j = (br j : Int) := by
  have hn := hR.2.2.2.2.1.2.2.1
  obtain ⟨bv, hb⟩ := bv_ex (l := l) hR p2
  obtain ⟨τ1, c1, c2, c3⟩ := list_c hR p1 hb Ag.rf
  obtain ⟨τ2, br, bk, s1, s2, s3, s4⟩ := search_c hR c3
  have a2 : Ag σ τ2 := c3.1.trans (Ag.of s2 (by decide))
  have hk : bk ≤ 8 ∧ (∀ j, j < bk → br j < gN σ 8) := by
    rcases s4 with ⟨z1, z2, z3⟩ | ⟨z1, z2, z3, z4⟩
    · exact ⟨by omega, fun j hj => by omega⟩
    · exact ⟨z1.1.k8 hn, fun j hj => (z1.1.1 j hj).1⟩
  refine ⟨τ1, τ2, br, bk, gI τ2 511 0 0, c1, s1, a2, rfl, s3, hk.1, hk.2, fun τx hx => ?_⟩
  obtain ⟨τ3, cr, ck2, m1, m2, m3, m4, m5⟩ := reel_m hR p1 hb hx
  obtain ⟨e1, e2, e3⟩ := BST_one hn (fun i hi => (wthV_bd hR hi).1) s4 m5
  refine ⟨τ3, m1, m2, e1.symm, by rw [m3, e2], fun j hj => ?_⟩
  rw [m4 j (by omega), e3 j hj]
theorem op_36 : OP36 RR := by
  intro l d hal had σ hSF hR
  by_cases p1 : 0 ≤ l ∧ l ≤ 4
  · by_cases p2 : 0 ≤ d ∧ d ≤ 416
    · obtain ⟨τ1, τ2, br, bk, bw, h1, h2, h4, h7, h8, h12, h13, hm⟩ := best_cm hR p1 p2
      obtain ⟨τ3, h3, h6, h9, h10, h11⟩ := hm τ2 h4.m
      have h5 : Ag σ τ3 := h4.trans (Ag.of h6 (by decide))
      refine opW (r := bw) (σ1 := τ2) (σ2 := τ3) ?_ ?_ (h5.rr hR)
      · unfold fX11_reel
        rw [refuse_c, if_pos p1, if_pos p2, bnk_some, if_pos rfl, h1, bnd_some, h2, bnd_some, h7]
      · unfold fX12_reel
        rw [mayR_m, if_pos p1, if_pos p2, bnk_some, if_pos (by decide), h3, bnd_some, h9]
    · refine opW (r := -2) (σ1 := σ) (σ2 := σ) ?_ ?_ hR
      · unfold fX11_reel
        rw [refuse_c, if_pos p1, if_neg p2, bnk_some, if_neg (by decide)]
      · unfold fX12_reel
        rw [mayR_m, if_pos p1, if_neg p2, bnk_some, if_neg (by decide)]
  · refine opW (r := -1) (σ1 := σ) (σ2 := σ) ?_ ?_ hR
    · unfold fX11_reel
      rw [refuse_c, if_neg p1, bnk_some, if_neg (by decide)]
    · unfold fX12_reel
      rw [mayR_m, if_neg p1, bnk_some, if_neg (by decide)]
theorem best_at {σ : St} {τ : St} {br : Nat → Nat} {bk : Nat} {n : Nat} (hn : n ≤ 8) (h : gI τ 512 0 0 = BR8 br bk) (hk : bk ≤ 8) (hb : ∀ j, j < bk → br j < n) (x : Int) : fX4_bestStory x τ = some (if 0 ≤ x ∧ x < (bk : Int) then (br x.toNat : Int) else -9) := by
  unfold fX4_bestStory
  rw [h]
  unfold BR8
  by_cases c : bk = 0
  · rw [if_pos c, if_pos (by decide), if_neg (by omega)]
  · rw [if_neg c, if_neg (by omega), within_eq, bnkI]
    by_cases c2 : 0 ≤ x ∧ x ≤ 7
    · obtain ⟨i, rfl⟩ := Int.eq_ofNat_of_zero_le c2.1
      have h98 : (9 : Nat) ^ 8 = 43046721 := by decide
      have hlt : ∀ m, m ≤ 8 → vm (dg br bk) m < 43046721 := by
        intro m hm
        have q1 := vm_lt9 (dg_le br bk) m
        have q2 : 9 ^ m ≤ 9 ^ 8 := Nat.pow_le_pow_right (by decide) hm
        omega
      have hw : wh (fun s => fX4_bestStory_l28 (i : Int) τ s.1 s.2) ((((vm (dg br bk) 8 : Nat) : Int), 7)) = some ((vm (dg br bk) (i + 1) : Nat) : Int) := by
        have q := wh_seq (f := fun s => fX4_bestStory_l28 (i : Int) τ s.1 s.2) (r := ((vm (dg br bk) (i + 1) : Nat) : Int)) (7 - i) (fun k => (((vm (dg br bk) (8 - k) : Nat) : Int), 7 - (k : Int))) ?_ ?_
        · exact q
        · intro k hk1
          show fX4_bestStory_l28 (i : Int) τ ((vm (dg br bk) (8 - k) : Nat) : Int) (7 - (k : Int)) = some (.inl ((((vm (dg br bk) (8 - (k + 1)) : Nat) : Int), 7 - ((k + 1 : Nat) : Int))))
          have hb1 := hlt (8 - k) (by omega)
          have hs : vm (dg br bk) (8 - k) / 9 = vm (dg br bk) (8 - (k + 1)) := by
            have := vm_div (dg_le br bk) (8 - (k + 1)) 1
            rw [show 8 - (k + 1) + 1 = 8 - k by omega, Nat.pow_one] at this
            exact this
          have hd9 : idiv ((vm (dg br bk) (8 - k) : Nat) : Int) 9 = ((vm (dg br bk) (8 - (k + 1)) : Nat) : Int) := by
            rw [show (9 : Int) = ((9 : Nat) : Int) from rfl, idiv_nat (by omega) (by decide), hs]
          unfold fX4_bestStory_l28
          rw [if_neg (by omega), ck_i (by omega) (by omega), hd9, show 7 - (k : Int) + (-1) = 7 - ((k + 1 : Nat) : Int) by omega]
        · show fX4_bestStory_l28 (i : Int) τ ((vm (dg br bk) (8 - (7 - i)) : Nat) : Int) (7 - ((7 - i : Nat) : Int)) = some (.inr ((vm (dg br bk) (i + 1) : Nat) : Int))
          unfold fX4_bestStory_l28
          rw [if_pos (by omega), show 8 - (7 - i) = i + 1 by omega]
      have hmod : vm (dg br bk) (i + 1) % 9 = dg br bk i := by
        show (9 * vm (dg br bk) i + dg br bk i) % 9 = _
        have := dg_le br bk i
        omega
      have hb2 := hlt (i + 1) (by omega)
      have hmd : irem ((vm (dg br bk) (i + 1) : Nat) : Int) 9 = ((dg br bk i : Nat) : Int) := by
        rw [show (9 : Int) = ((9 : Nat) : Int) from rfl, irem_nat (by omega) (by decide), hmod]
      rw [if_pos c2]
      unfold fX4_bestStory_j28
      rw [hw, bnk_some]
      unfold fX4_bestStory_j44
      rw [hmd]
      have hdl := dg_le br bk i
      by_cases c3 : i < bk
      · have h7 := hb i c3
        have hd : dg br bk i = 7 - br i := by unfold dg; rw [if_pos c3]
        rw [if_neg (by omega), ck_i (by omega) (by omega), if_pos (by omega), Int.toNat_natCast, hd]
        apply congrArg
        omega
      · have hd : dg br bk i = 8 := by unfold dg; rw [if_neg c3]
        rw [if_pos (by omega), if_neg (by omega)]
    · rw [if_neg c2, if_neg (by omega)]
theorem op_37 : OP37 RR := by
  intro l d x hal had hax σ hSF hR
  have hn := hR.2.2.2.2.1.2.2.1
  by_cases p1 : 0 ≤ l ∧ l ≤ 4
  · by_cases p2 : 0 ≤ d ∧ d ≤ 416
    · obtain ⟨τ1, τ2, br, bk, bw, h1, h2, h4, h7, h8, h12, h13, hm⟩ := best_cm hR p1 p2
      obtain ⟨τ3, h3, h6, h9, h10, h11⟩ := hm τ2 h4.m
      have h5 : Ag σ τ3 := h4.trans (Ag.of h6 (by decide))
      refine opW (r := if 0 ≤ x ∧ x < (bk : Int) then (br x.toNat : Int) else -9) (σ1 := τ2) (σ2 := τ3) ?_ ?_ (h5.rr hR)
      · unfold fX11_reelAt
        rw [refuse_c, if_pos p1, if_pos p2, bnk_some, if_pos rfl, h1, bnd_some, h2, bnd_some, best_at (σ := σ) hn h8 h12 h13, bnk_some]
      · unfold fX12_reelAt
        rw [mayR_m, if_pos p1, if_pos p2, bnk_some, if_pos (by decide), h3, bnd_some, h10, ck_i (by omega) (by omega), in_eq, bnkI]
        by_cases c : 0 ≤ x ∧ x < (bk : Int)
        · rw [if_pos (by omega), if_pos c, ck_x (by omega) (by omega), h11 x.toNat (by omega)]
        · rw [if_neg (by omega), if_neg c]
    · refine opW (r := -2) (σ1 := σ) (σ2 := σ) ?_ ?_ hR
      · unfold fX11_reelAt
        rw [refuse_c, if_pos p1, if_neg p2, bnk_some, if_neg (by decide)]
      · unfold fX12_reelAt
        rw [mayR_m, if_pos p1, if_neg p2, bnk_some, if_neg (by decide)]
  · refine opW (r := -1) (σ1 := σ) (σ2 := σ) ?_ ?_ hR
    · unfold fX11_reelAt
      rw [refuse_c, if_neg p1, bnk_some, if_neg (by decide)]
    · unfold fX12_reelAt
      rw [mayR_m, if_neg p1, bnk_some, if_neg (by decide)]
/-- showings taken -/
def rgQ (σ : St) (q : Nat → Int) (s l d : Int) (k : Nat) : Bool := decide (gI σ 600 k 0 = s ∧ (gI σ 601 k 0).toNat.testBit l.toNat = true ∧ (gI σ 602 k 0 ≤ d ∧ d ≤ gI σ 603 k 0) ∧ ¬ q k ≤ 0)
def rqV (σ : St) (q : Nat → Int) (s l d : Int) : Int := fstF (rgQ σ q s l d) 0 (gN σ 5)
theorem fstF_ok {P : Nat → Bool} {i k : Nat} (h : fstF P i k ≠ -9) : P (fstF P i k).toNat = true := by
  induction k generalizing i with
  | zero => exact absurd rfl h
  | succ k ih =>
    unfold fstF at h ⊢
    by_cases c : P i = true
    · rw [if_pos c, Int.toNat_natCast]; exact c
    · rw [if_neg c] at h ⊢; exact ih h
theorem rqV_bd (σ : St) (q : Nat → Int) (s l d : Int) : rqV σ q s l d = -9 ∨ (0 ≤ rqV σ q s l d ∧ rqV σ q s l d < (gN σ 5 : Int) ∧ 0 < q (rqV σ q s l d).toNat) := by
  by_cases c : rqV σ q s l d = -9
  · exact Or.inl c
  · have h1 := fstF_bd (rgQ σ q s l d) 0 (gN σ 5)
    have h2 := fstF_ok c
    unfold rgQ at h2
    have h3 := (of_decide_eq_true h2).2.2.2
    unfold rqV at c ⊢
    unfold rgQ at c h1 h3 ⊢
    omega
theorem right_cQ {σ τ : St} {q : Nat → Int} {s l d : Int} (hG : RG σ) (hl : 0 ≤ l ∧ l ≤ 4) (h1 : gI τ 1214 0 0 = gI σ 1214 0 0) (h2 : ∀ k, gP τ 1213 0 k = gP σ 1213 0 k) (h3 : gN τ 5 = gN σ 5) (h4 : ∀ k, gI τ 600 k 0 = gI σ 600 k 0 ∧ gI τ 601 k 0 = gI σ 601 k 0 ∧ gI τ 602 k 0 = gI σ 602 k 0 ∧ gI τ 603 k 0 = gI σ 603 k 0) (h5 : ∀ k, k < gN σ 5 → gI τ 604 k 0 = q k) : fX11_firstRight s l d τ = some (if rqV σ q s l d = -9 then none else some (rqV σ q s l d).toNat) := by
  obtain ⟨g1, g2, g3, g4, g5⟩ := id hG
  have hb := rqV_bd σ q s l d
  unfold fX11_firstRight fX11_firstRight_j3
  have hw := wh_fstR (f := fun z => fX11_firstRight_l3 s l d τ z) (rgQ σ q s l d) (gN σ 5) (fun a => fX11_firstRight_j28 a τ) (fX11_firstRight_j42 τ) ?_ ?_
  · refine hw.trans ?_
    show (if rqV σ q s l d = -9 then _ else _) = _
    by_cases c : rqV σ q s l d = -9
    · rw [if_pos c, if_pos c]; rfl
    · rw [if_neg c, if_neg c]
      show fX11_firstRight_j28 (rqV σ q s l d) τ = _
      unfold fX11_firstRight_j28
      rw [ck_x (by omega) (by omega), lt_def, h2, (g4 (rqV σ q s l d).toNat (by omega)).1]
  · intro i hi
    obtain ⟨q1, q2, q3, q4, q5, q6, r1, r2, r3, r4, r5⟩ := g4 i hi
    obtain ⟨w1, w2, w3, w4⟩ := h4 i
    show fX11_firstRight_l3 s l d τ (i : Int) = _
    unfold fX11_firstRight_l3
    rw [h1, g2, if_neg (by omega), ck_x (by omega) (by omega), lt_def, Int.toNat_natCast, h2, q1, mop_s, ck_n (by rw [h3]; exact hi), ck_i (by omega) (by omega)]
    have hsv : fX5_serves i s l d τ = some (b2i (rgQ σ q s l d i = true)) := by
      unfold fX5_serves rgQ
      rw [w1, w2, w3, w4, h5 i hi]
      by_cases c1 : gI σ 600 i 0 = s
      · rw [if_pos c1, hasMI (by omega) (by omega), bnkI]
        by_cases c2 : (gI σ 601 i 0).toNat.testBit l.toNat = true
        · rw [if_pos c2, within_eq, bnkI]
          by_cases c3 : gI σ 602 i 0 ≤ d ∧ d ≤ gI σ 603 i 0
          · rw [if_pos c3]
            by_cases c4 : q i ≤ 0
            · rw [if_pos c4, b2i_neg (fun z => (of_decide_eq_true z).2.2.2 c4)]
            · rw [if_neg c4, b2i_pos (decide_eq_true ⟨c1, c2, c3, c4⟩)]
          · rw [if_neg c3, b2i_neg (fun z => c3 (of_decide_eq_true z).2.2.1)]
        · rw [if_neg c2, b2i_neg (fun z => c2 (of_decide_eq_true z).2.1)]
      · rw [if_neg c1, b2i_neg (fun z => c1 (of_decide_eq_true z).1)]
    rw [hsv, bnkI]
  · show fX11_firstRight_l3 s l d τ _ = _
    unfold fX11_firstRight_l3
    rw [h1, g2, if_pos (by omega)]
theorem right_mQ {σ τ : St} {q : Nat → Int} {s l d : Int} (hG : RG σ) (hl : 0 ≤ l ∧ l ≤ 4) (h1 : gI τ 1349 0 0 = gI σ 1349 0 0) (h4 : ∀ k, gI τ 1350 0 k = gI σ 1350 0 k ∧ gI τ 1351 0 k = gI σ 1351 0 k ∧ gI τ 1352 0 k = gI σ 1352 0 k ∧ gI τ 1353 0 k = gI σ 1353 0 k) (h5 : ∀ k, k < gN σ 5 → gI τ 1354 0 k = q k) : fX12_rightTo s l d τ = some (rqV σ q s l d) := by
  obtain ⟨g1, g2, g3, g4, g5⟩ := id hG
  unfold fX12_rightTo fX12_rightTo_j3 fX12_rightTo_j72 fX12_rightTo_j81 rqV
  refine wh_fst _ (gN σ 5) (fun i hi => ?_) ?_
  · obtain ⟨q1, q2, q3, q4, q5, q6, r1, r2, r3, r4, r5⟩ := g4 i hi
    obtain ⟨w1, w2, w3, w4⟩ := h4 i
    show fX12_rightTo_l3 s l d τ (i : Int) = _
    unfold fX12_rightTo_l3 fX12_rightTo_j75 rgQ
    rw [h1, g1, if_neg (by omega), ck_x (by omega) (by omega), Int.toNat_natCast, w1, w2, w3, w4, h5 i hi, q2, q3, q4, q5, ck_i (by omega) (by omega)]
    by_cases c1 : gI σ 600 i 0 = s
    · rw [if_pos c1, ck_x (by omega) (by omega), iandshrI (by omega) (by omega)]
      by_cases c2 : (gI σ 601 i 0).toNat.testBit l.toNat = true
      · rw [if_pos (b2i_pos c2), ck_x (by omega) (by omega), ck_x (by omega) (by omega), in_eq, bnkI]
        by_cases c3 : gI σ 602 i 0 ≤ d ∧ d ≤ gI σ 603 i 0
        · rw [if_pos c3, ck_x (by omega) (by omega)]
          by_cases c4 : q i ≤ 0
          · rw [if_pos c4, if_neg (fun z => (of_decide_eq_true z).2.2.2 c4)]
          · rw [if_neg c4, if_pos (decide_eq_true ⟨c1, c2, c3, c4⟩)]
        · rw [if_neg c3, if_neg (fun z => c3 (of_decide_eq_true z).2.2.1)]
      · rw [if_neg (by rw [b2i_neg c2]; decide), if_neg (fun z => c2 (of_decide_eq_true z).2.1)]
    · rw [if_neg c1, if_neg (fun z => c1 (of_decide_eq_true z).1)]
  · show fX12_rightTo_l3 s l d τ _ = _
    unfold fX12_rightTo_l3
    rw [h1, g1, if_pos (by omega)]
def shwB (σ : St) (l d : Int) (q : Nat → Int) (i : Nat) : Bool := decide (¬ gI σ 1348 0 (gI σ 900 i 0).toNat = 0 ∧ ¬ rqV σ q (gI σ 900 i 0) l d = -9)
def shwS (σ : St) (l d : Int) (q : Nat → Int) (i : Nat) : Nat → Int := if shwB σ l d q i = true then (fun k => if (k : Int) = rqV σ q (gI σ 900 i 0) l d then q k - 1 else q k) else q
def shwQ (σ : St) (l d : Int) (br : Nat → Nat) : Nat → (Nat → Int) × Int
  | 0 => (fun k => gI σ 604 k 0, 0)
  | j + 1 => (shwS σ l d (shwQ σ l d br j).1 (br j), (shwQ σ l d br j).2 + b2i (shwB σ l d (shwQ σ l d br j).1 (br j) = true))
theorem shwQ_bd {σ : St} {l d : Int} {br : Nat → Nat} (hG : RG σ) (j : Nat) : (∀ k, k < gN σ 5 → 0 ≤ (shwQ σ l d br j).1 k ∧ (shwQ σ l d br j).1 k ≤ 99) ∧ 0 ≤ (shwQ σ l d br j).2 ∧ (shwQ σ l d br j).2 ≤ j := by
  induction j with
  | zero =>
    refine ⟨fun k hk => ?_, Int.le_refl _, Int.le_refl _⟩
    obtain ⟨q1, q2, q3, q4, q5, q6, r1, r2, r3, r4, r5⟩ := hG.2.2.2.1 k hk
    exact r5
  | succ j ih =>
    obtain ⟨h1, h2, h3⟩ := ih
    have hb := b2i_01 (P := shwB σ l d (shwQ σ l d br j).1 (br j) = true)
    refine ⟨fun k hk => ?_, ?_, ?_⟩
    · show 0 ≤ shwS σ l d (shwQ σ l d br j).1 (br j) k ∧ shwS σ l d (shwQ σ l d br j).1 (br j) k ≤ 99
      unfold shwS
      have h4 := h1 k hk
      split
      · next c =>
        have h5 := rqV_bd σ (shwQ σ l d br j).1 (gI σ 900 (br j) 0) l d
        unfold shwB at c
        have h6 := (of_decide_eq_true c).2
        show 0 ≤ (if (k : Int) = rqV σ (shwQ σ l d br j).1 (gI σ 900 (br j) 0) l d then (shwQ σ l d br j).1 k - 1 else (shwQ σ l d br j).1 k) ∧ (if (k : Int) = rqV σ (shwQ σ l d br j).1 (gI σ 900 (br j) 0) l d then (shwQ σ l d br j).1 k - 1 else (shwQ σ l d br j).1 k) ≤ 99
        by_cases z : (k : Int) = rqV σ (shwQ σ l d br j).1 (gI σ 900 (br j) 0) l d
        · rw [if_pos z]
          rcases h5 with h5 | ⟨h5, h7, h8⟩
          · exact absurd h5 h6
          · rw [← z, Int.toNat_natCast] at h8
            omega
        · rw [if_neg z]; exact h4
      · exact h4
    · show 0 ≤ (shwQ σ l d br j).2 + _
      omega
    · show (shwQ σ l d br j).2 + _ ≤ ((j + 1 : Nat) : Int)
      omega
theorem show_c {σ τ : St} {l d : Int} {br : Nat → Nat} {bk : Nat} (hR : RR σ) (hl : 0 ≤ l ∧ l ≤ 4) (ha : Ag σ τ) (h8 : gI τ 512 0 0 = BR8 br bk) (hk : bk ≤ 8) (hb : ∀ j, j < bk → br j < gN σ 8) : ∃ τ', fX11_show_j46 l d 0 0 τ = some ((shwQ σ l d br bk).2, τ') ∧ Ex [604] τ τ' ∧ ∀ k, k < gN σ 5 → gI τ' 604 k 0 = (shwQ σ l d br bk).1 k := by
  have hn := hR.2.2.2.2.1.2.2.1
  have hG := hR.2.2.2.2.2.2.2.1
  have key : ∀ m j, j + m = 8 → ∀ τ1, Ex [604] τ τ1 → (∀ k, k < gN σ 5 → gI τ1 604 k 0 = (shwQ σ l d br (min j bk)).1 k) → ∃ τ', wh (fun s => fX11_show_l46 l d s.1 s.2.1 s.2.2) (((shwQ σ l d br (min j bk)).2, (j : Int), τ1)) = some ((shwQ σ l d br bk).2, τ') ∧ Ex [604] τ τ' ∧ ∀ k, k < gN σ 5 → gI τ' 604 k 0 = (shwQ σ l d br bk).1 k := by
    intro m
    induction m with
    | zero =>
      intro j hj τ1 hx hq
      have h1 : min j bk = bk := by omega
      rw [h1] at hq ⊢
      refine ⟨τ1, wh_inr ?_, hx, hq⟩
      show fX11_show_l46 l d _ (j : Int) τ1 = _
      unfold fX11_show_l46
      rw [if_pos (by omega)]
    | succ m ih =>
      intro j hj τ1 hx hq
      have hbs : fX4_bestStory (j : Int) τ1 = some (if 0 ≤ (j : Int) ∧ (j : Int) < (bk : Int) then (br (j : Int).toNat : Int) else -9) := best_at (σ := σ) hn (by rw [hx.i (c := 512) (by decide)]; exact h8) hk hb (j : Int)
      obtain ⟨bd1, bd2, bd3⟩ := shwQ_bd (l := l) (d := d) (br := br) hG (min j bk)
      by_cases c : j < bk
      · rw [if_pos (by omega), Int.toNat_natCast] at hbs
        have hbj := hb j c
        have hmin : min j bk = j := by omega
        have hmin2 : min (j + 1) bk = j + 1 := by omega
        rw [hmin] at hq bd1 bd2 bd3 ⊢
        have hy := hR.2.2.2.2.1.2.2.2.1 (br j) hbj
        obtain ⟨y1, y2, y3, y4, y5, y6, y7, y8, z1, -⟩ := id hy
        obtain ⟨s, hs⟩ := Int.eq_ofNat_of_zero_le z1.1
        have hsn : fX11_storyNumbered (br j : Int) τ1 = some (some (br j)) := by
          have hY : RY τ1 := ((ha.rr hR).2.2.2.2.1).ex hx (dj_use (by decide))
          have := (stP (x := (br j : Int)) hY (by rw [hx.n, ha.n]; omega)).1
          rw [Int.toNat_natCast] at this
          exact this
        have hnum : gI τ1 900 (br j) 0 = (s : Int) := by rw [hx.i (c := 900) (by decide), ha.i (c := 900) (by decide)]; exact hs
        obtain ⟨r1, r2⟩ := hG.2.2.2.2.1.has (k := s) (by omega) (by omega)
        have h12 : gI τ1 1212 0 0 = gI σ 1212 0 0 := by rw [hx.i (c := 1212) (by decide)]; exact ha.i (by decide) _ _
        have hfr := right_cQ (τ := τ1) (q := (shwQ σ l d br j).1) (s := (s : Int)) (d := d) hG hl (by rw [hx.i (c := 1214) (by decide)]; exact ha.i (by decide) _ _) (fun k => by rw [hx.p (c := 1213) (by decide)]; exact ha.p (by decide) _ _) (by rw [hx.n]; exact ha.n 5) (fun k => ⟨by rw [hx.i (c := 600) (by decide)]; exact ha.i (by decide) _ _, by rw [hx.i (c := 601) (by decide)]; exact ha.i (by decide) _ _, by rw [hx.i (c := 602) (by decide)]; exact ha.i (by decide) _ _, by rw [hx.i (c := 603) (by decide)]; exact ha.i (by decide) _ _⟩) hq
        have hrb := rqV_bd σ (shwQ σ l d br j).1 (s : Int) l d
        have hts : ∃ τ2, fX11_takeShowing (s : Int) l d τ1 = some (b2i (shwB σ l d (shwQ σ l d br j).1 (br j) = true), τ2) ∧ Ex [604] τ τ2 ∧ ∀ k, k < gN σ 5 → gI τ2 604 k 0 = shwS σ l d (shwQ σ l d br j).1 (br j) k := by
          unfold fX11_takeShowing shwS
          rw [h12, r1, bnk_some, hfr, bnk_some]
          have hB : shwB σ l d (shwQ σ l d br j).1 (br j) = true ↔ (¬ gI σ 1348 0 s = 0 ∧ ¬ rqV σ (shwQ σ l d br j).1 (s : Int) l d = -9) := by
            unfold shwB
            rw [decide_eq_true_iff, hs, Int.toNat_natCast]
          by_cases c1 : gI σ 1348 0 s = 0
          · rw [if_pos c1, b2i_neg (fun z => (hB.mp z).1 c1)]
            refine ⟨τ1, rfl, hx, fun k hk => ?_⟩
            rw [if_neg (fun z => (hB.mp z).1 c1)]; exact hq k hk
          · rw [if_neg c1]
            by_cases c2 : rqV σ (shwQ σ l d br j).1 (s : Int) l d = -9
            · rw [if_pos c2, mop_n, b2i_neg (fun z => (hB.mp z).2 c2)]
              refine ⟨τ1, rfl, hx, fun k hk => ?_⟩
              rw [if_neg (fun z => (hB.mp z).2 c2)]; exact hq k hk
            · have hrr : 0 ≤ rqV σ (shwQ σ l d br j).1 (s : Int) l d ∧ rqV σ (shwQ σ l d br j).1 (s : Int) l d < (gN σ 5 : Int) := by omega
              have hqr := bd1 (rqV σ (shwQ σ l d br j).1 (s : Int) l d).toNat (by omega)
              have hq2 := hq (rqV σ (shwQ σ l d br j).1 (s : Int) l d).toNat (by omega)
              rw [if_neg c2, mop_s, ck_n (by rw [hx.n, ha.n]; omega), hq2, ck_i (by omega) (by omega), b2i_pos (hB.mpr ⟨c1, c2⟩)]
              refine ⟨_, rfl, hx.sI (by decide), fun k hk => ?_⟩
              rw [if_pos (hB.mpr ⟨c1, c2⟩)]
              show _ = if (k : Int) = rqV σ (shwQ σ l d br j).1 (gI σ 900 (br j) 0) l d then _ else _
              rw [hs]
              by_cases c3 : (k : Int) = rqV σ (shwQ σ l d br j).1 (s : Int) l d
              · rw [if_pos c3, ← c3, Int.toNat_natCast, gs]
              · rw [if_neg c3, ii (by omega)]; exact hq k hk
        obtain ⟨τ2, t1, t2, t3⟩ := hts
        have hb2 := b2i_01 (P := shwB σ l d (shwQ σ l d br j).1 (br j) = true)
        obtain ⟨τ', k1, k2⟩ := ih (j + 1) (by omega) τ2 t2 (by rw [hmin2]; exact t3)
        rw [hmin2] at k1
        refine ⟨τ', wh_inl ?_ k1, k2⟩
        show fX11_show_l46 l d (shwQ σ l d br j).2 (j : Int) τ1 = some (.inl ((shwQ σ l d br j).2 + b2i (shwB σ l d (shwQ σ l d br j).1 (br j) = true), ((j + 1 : Nat) : Int), τ2))
        unfold fX11_show_l46 fX11_show_j89
        rw [if_neg (by omega), hbs, bnk_some, hsn, bnk_some, mop_s, ck_n (by rw [hx.n, ha.n]; exact hbj), hnum, t1, bnd_some, ck_i (by omega) (by omega), ck_i (by omega) (by omega)]; rfl
      · rw [if_neg (by omega)] at hbs
        have hmin : min j bk = bk := by omega
        have hmin2 : min (j + 1) bk = bk := by omega
        rw [hmin] at hq ⊢
        have hsn : fX11_storyNumbered (-9) τ1 = some none := by
          have hY : RY τ1 := ((ha.rr hR).2.2.2.2.1).ex hx (dj_use (by decide))
          exact (stN (x := -9) hY (by omega)).1
        obtain ⟨τ', k1, k2⟩ := ih (j + 1) (by omega) τ1 hx (by rw [hmin2]; exact hq)
        rw [hmin2] at k1
        refine ⟨τ', wh_inl ?_ k1, k2⟩
        show fX11_show_l46 l d (shwQ σ l d br bk).2 (j : Int) τ1 = some (.inl ((shwQ σ l d br bk).2, ((j + 1 : Nat) : Int), τ1))
        unfold fX11_show_l46 fX11_show_j89
        rw [if_neg (by omega), hbs, bnk_some, hsn, bnk_some, mop_n, ck_i (by omega) (by omega)]; rfl
  obtain ⟨τ', k1, k2⟩ := key 8 0 (by omega) τ Ex.rf (fun k hk => by rw [Nat.zero_min]; exact ha.i (by decide) _ _)
  rw [Nat.zero_min] at k1
  refine ⟨τ', ?_, k2⟩
  unfold fX11_show_j46 fX11_show_j95
  exact bnk_of k1 rfl
theorem show_m {σ τ : St} {l d : Int} {br : Nat → Nat} {bk : Nat} (hR : RR σ) (hl : 0 ≤ l ∧ l ≤ 4) (hx0 : AgM σ τ) (h5 : gI τ 1365 0 0 = (bk : Int)) (h6 : ∀ j, j < bk → gI τ 1364 0 j = (br j : Int)) (hk : bk ≤ 8) (hb : ∀ j, j < bk → br j < gN σ 8) : ∃ τ', fX12_show_j37 l d 0 0 τ = some ((shwQ σ l d br bk).2, τ') ∧ Ex [1354] τ τ' ∧ ∀ k, k < gN σ 5 → gI τ' 1354 0 k = (shwQ σ l d br bk).1 k := by
  have hn := hR.2.2.2.2.1.2.2.1
  have hG := hR.2.2.2.2.2.2.2.1
  have key : ∀ m j, j + m = bk → ∀ τ1, Ex [1354] τ τ1 → (∀ k, k < gN σ 5 → gI τ1 1354 0 k = (shwQ σ l d br j).1 k) → ∃ τ', wh (fun s => fX12_show_l37 l d s.1 s.2.1 s.2.2) (((shwQ σ l d br j).2, (j : Int), τ1)) = some ((shwQ σ l d br bk).2, τ') ∧ Ex [1354] τ τ' ∧ ∀ k, k < gN σ 5 → gI τ' 1354 0 k = (shwQ σ l d br bk).1 k := by
    intro m
    induction m with
    | zero =>
      intro j hj τ1 hx hq
      have h1 : j = bk := by omega
      subst h1
      refine ⟨τ1, wh_inr ?_, hx, hq⟩
      show fX12_show_l37 l d _ (j : Int) τ1 = _
      unfold fX12_show_l37
      rw [hx.i (c := 1365) (by decide), h5, if_pos (Int.le_refl _)]
    | succ m ih =>
      intro j hj τ1 hx hq
      have c : j < bk := by omega
      have hbj := hb j c
      obtain ⟨bd1, bd2, bd3⟩ := shwQ_bd (l := l) (d := d) (br := br) hG j
      obtain ⟨y1, y2, y3, y4, y5, y6, y7, y8, z1, -⟩ := hR.2.2.2.2.1.2.2.2.1 (br j) hbj
      obtain ⟨s, hs⟩ := Int.eq_ofNat_of_zero_le z1.1
      have e64 : gI τ1 1364 0 j = (br j : Int) := by rw [hx.i (c := 1364) (by decide)]; exact h6 j c
      have e27 : gI τ1 1327 0 (br j) = (s : Int) := by rw [hx.i (c := 1327) (by decide), hx0.i (c := 1327) (by decide), y2]; exact hs
      have e48 : gI τ1 1348 0 s = gI σ 1348 0 s := by rw [hx.i (c := 1348) (by decide), hx0.i (c := 1348) (by decide)]
      have hfr := right_mQ (τ := τ1) (q := (shwQ σ l d br j).1) (s := (s : Int)) (d := d) hG hl (by rw [hx.i (c := 1349) (by decide), hx0.i (c := 1349) (by decide)]) (fun k => ⟨by rw [hx.i (c := 1350) (by decide), hx0.i (c := 1350) (by decide)], by rw [hx.i (c := 1351) (by decide), hx0.i (c := 1351) (by decide)], by rw [hx.i (c := 1352) (by decide), hx0.i (c := 1352) (by decide)], by rw [hx.i (c := 1353) (by decide), hx0.i (c := 1353) (by decide)]⟩) hq
      have hrb := rqV_bd σ (shwQ σ l d br j).1 (s : Int) l d
      have hB : shwB σ l d (shwQ σ l d br j).1 (br j) = true ↔ (¬ gI σ 1348 0 s = 0 ∧ ¬ rqV σ (shwQ σ l d br j).1 (s : Int) l d = -9) := by
        unfold shwB
        rw [decide_eq_true_iff, hs, Int.toNat_natCast]
      have hst : ∃ τ2, fX12_show_l37 l d (shwQ σ l d br j).2 (j : Int) τ1 = some (.inl ((shwQ σ l d br j).2 + b2i (shwB σ l d (shwQ σ l d br j).1 (br j) = true), ((j + 1 : Nat) : Int), τ2)) ∧ Ex [1354] τ τ2 ∧ ∀ k, k < gN σ 5 → gI τ2 1354 0 k = shwS σ l d (shwQ σ l d br j).1 (br j) k := by
        unfold fX12_show_l37 fX12_show_j83 fX12_show_j106 shwS
        rw [hx.i (c := 1365) (by decide), h5, if_neg (by omega), ck_x (by omega) (by omega), Int.toNat_natCast, e64, ck_x (by omega) (by omega), Int.toNat_natCast, e27, ck_x (by omega) (by omega), Int.toNat_natCast, e48, hfr, bnk_some, if_pos rfl, ck_i (by omega) (by omega)]
        by_cases c1 : gI σ 1348 0 s = 0
        · rw [if_pos c1, b2i_neg (fun z => (hB.mp z).1 c1)]
          refine ⟨τ1, by rw [Int.add_zero]; rfl, hx, fun k hk => ?_⟩
          rw [if_neg (fun z => (hB.mp z).1 c1)]; exact hq k hk
        · rw [if_neg c1]
          by_cases c2 : rqV σ (shwQ σ l d br j).1 (s : Int) l d = -9
          · rw [if_pos c2, b2i_neg (fun z => (hB.mp z).2 c2)]
            refine ⟨τ1, by rw [Int.add_zero]; rfl, hx, fun k hk => ?_⟩
            rw [if_neg (fun z => (hB.mp z).2 c2)]; exact hq k hk
          · have hrr : 0 ≤ rqV σ (shwQ σ l d br j).1 (s : Int) l d ∧ rqV σ (shwQ σ l d br j).1 (s : Int) l d < (gN σ 5 : Int) := by omega
            have hqr := bd1 (rqV σ (shwQ σ l d br j).1 (s : Int) l d).toNat (by omega)
            have hq2 := hq (rqV σ (shwQ σ l d br j).1 (s : Int) l d).toNat (by omega)
            have g8 := hG.2.2.1
            rw [if_neg c2, ck_x (by omega) (by omega), hq2, ck_i (by omega) (by omega), ck_x (by omega) (by omega), ck_i (by omega) (by omega), ck_i (by omega) (by omega), b2i_pos (hB.mpr ⟨c1, c2⟩)]
            refine ⟨_, rfl, hx.sI (by decide), fun k hk => ?_⟩
            rw [if_pos (hB.mpr ⟨c1, c2⟩)]
            show _ = if (k : Int) = rqV σ (shwQ σ l d br j).1 (gI σ 900 (br j) 0) l d then _ else _
            rw [hs]
            by_cases c3 : (k : Int) = rqV σ (shwQ σ l d br j).1 (s : Int) l d
            · rw [if_pos c3, ← c3, Int.toNat_natCast, gs]
            · rw [if_neg c3, ii (by omega)]; exact hq k hk
      obtain ⟨τ2, t1, t2, t3⟩ := hst
      obtain ⟨τ', k1, k2⟩ := ih (j + 1) (by omega) τ2 t2 t3
      exact ⟨τ', wh_inl t1 k1, k2⟩
  obtain ⟨τ', k1, k2⟩ := key bk 0 (by omega) τ Ex.rf (fun k hk => by
    rw [hx0.i (c := 1354) (by decide)]
    exact (hG.2.2.2.1 k hk).2.2.2.2.2.1)
  refine ⟨τ', ?_, k2⟩
  unfold fX12_show_j37 fX12_show_j112
  exact bnk_of k1 rfl
/-- all but the showings -/
def bCE : List Nat := bC.filter (fun c => c != 604 && c != 1354)
def AgE (σ τ : St) : Prop := ∃ S, dj bCE S = true ∧ Ex S σ τ
theorem AgM.e {σ τ : St} (h : AgM σ τ) : AgE σ τ := by
  obtain ⟨S, d, e⟩ := h
  exact ⟨S, dj_sub d (sub_all (by decide)), e⟩
theorem AgE.trans {σ τ υ : St} (h1 : AgE σ τ) (h2 : AgE τ υ) : AgE σ υ := by
  obtain ⟨S1, d1, e1⟩ := h1
  obtain ⟨S2, d2, e2⟩ := h2
  exact ⟨S1 ++ S2, dj_app d1 d2, (e1.mono (fun c hc => List.mem_append_left _ hc)).trans (e2.mono (fun c hc => List.mem_append_right _ hc))⟩
theorem AgE.sho {σ τ : St} (h : AgE σ τ) (hR : RR σ) (hn : ∀ k, k < gN σ 5 → gI τ 1354 0 k = gI τ 604 k 0 ∧ 0 ≤ gI τ 604 k 0 ∧ gI τ 604 k 0 ≤ 99) : RR τ := by
  obtain ⟨S, d, hx⟩ := h
  have du := dj_use d
  obtain ⟨hT, hW, hS, hF, hY, hA, hL, hG, hE, hC, hH, hQ⟩ := hR
  refine ⟨hT.ex hx (dj_use (dj_sub d (sub_all (by decide)))), hW.ex hx (dj_use (dj_sub d (sub_all (by decide)))), hS.ex hx (dj_use (dj_sub d (sub_all (by decide)))), hF.ex hx (dj_use (dj_sub d (sub_all (by decide)))), hY.ex hx (dj_use (dj_sub d (sub_all (by decide)))), hA.ex hx (dj_use (dj_sub d (sub_all (by decide)))), hL.ex hx (dj_use (dj_sub d (sub_all (by decide)))), ?_, hE.ex hx (dj_use (dj_sub d (sub_all (by decide)))), hC.ex hx (dj_use (dj_sub d (sub_all (by decide)))), hH.ex hx (dj_use (dj_sub d (sub_all (by decide)))), hQ.ex hx (dj_use (dj_sub d (sub_all (by decide))))⟩
  obtain ⟨s1, s2, s3, s4, s5, s6⟩ := hG
  unfold RG RG1
  simp only [hx.i (du 503 (by decide)), hx.i (du 600 (by decide)), hx.i (du 601 (by decide)), hx.i (du 602 (by decide)), hx.i (du 603 (by decide)), hx.i (du 1212 (by decide)), hx.i (du 1214 (by decide)), hx.i (du 1348 (by decide)), hx.i (du 1349 (by decide)), hx.i (du 1350 (by decide)), hx.i (du 1351 (by decide)), hx.i (du 1352 (by decide)), hx.i (du 1353 (by decide)), hx.i (du 1358 (by decide)), hx.p (du 1213 (by decide)), hx.n 5]
  refine ⟨s1, s2, s3, fun i hi => ?_, s5, s6⟩
  obtain ⟨q1, q2, q3, q4, q5, q6, r1, r2, r3, r4, r5⟩ := s4 i hi
  obtain ⟨n1, n2, n3⟩ := hn i hi
  exact ⟨q1, q2, q3, q4, q5, n1, r1, r2, r3, r4, n2, n3⟩
theorem op_39 : OP39 RR := by
  intro l d hal had σ hSF hR
  have hn := hR.2.2.2.2.1.2.2.1
  have hG := hR.2.2.2.2.2.2.2.1
  by_cases p1 : 0 ≤ l ∧ l ≤ 4
  · by_cases p2 : 0 ≤ d ∧ d ≤ 416
    · obtain ⟨τ1, τ2, br, bk, bw, h1, h2, h4, h7, h8, h12, h13, hm⟩ := best_cm hR p1 p2
      by_cases c : bw = -9
      · obtain ⟨τ3, h3, h6, h9, h10, h11⟩ := hm τ2 h4.m
        refine opW (r := -3) (σ1 := τ2) (σ2 := τ3) ?_ ?_ ((h4.trans (Ag.of h6 (by decide))).rr hR)
        · unfold fX11_show
          rw [refuse_c, if_pos p1, if_pos p2, bnk_some, if_pos rfl, h1, bnd_some, h2, bnd_some, h7, if_pos c]
        · unfold fX12_show
          rw [mayR_m, if_pos p1, if_pos p2, bnk_some, if_pos (by decide), h3, bnd_some, h9, if_pos c]
      · obtain ⟨τa, u1, u2, u3⟩ := show_c (d := d) hR p1 h4 h8 h12 h13
        have ga : AgM σ τa := h4.m.trans (AgM.of u2 (by decide))
        obtain ⟨τ3, h3, h6, h9, h10, h11⟩ := hm τa ga
        have gb : AgM σ τ3 := ga.trans (AgM.of h6 (by decide))
        obtain ⟨τb, v1, v2, v3⟩ := show_m (d := d) hR p1 gb h10 h11 h12 h13
        refine opW (r := (shwQ σ l d br bk).2) (σ1 := τa) (σ2 := τb) ?_ ?_ ?_
        · unfold fX11_show
          rw [refuse_c, if_pos p1, if_pos p2, bnk_some, if_pos rfl, h1, bnd_some, h2, bnd_some, h7, if_neg c]
          exact u1
        · unfold fX12_show
          rw [mayR_m, if_pos p1, if_pos p2, bnk_some, if_pos (by decide), h3, bnd_some, h9, if_neg c]
          exact v1
        · refine (gb.e.trans ⟨[1354], by decide, v2⟩).sho hR (fun k hk => ?_)
          obtain ⟨b1, b2, b3⟩ := shwQ_bd (l := l) (d := d) (br := br) hG bk
          have e1 : gI τb 604 k 0 = (shwQ σ l d br bk).1 k := by rw [v2.i (c := 604) (by decide), h6.i (c := 604) (by decide)]; exact u3 k hk
          rw [v3 k hk, e1]
          exact ⟨rfl, b1 k hk⟩
    · refine opW (r := -2) (σ1 := σ) (σ2 := σ) ?_ ?_ hR
      · unfold fX11_show
        rw [refuse_c, if_pos p1, if_neg p2, bnk_some, if_neg (by decide)]
      · unfold fX12_show
        rw [mayR_m, if_pos p1, if_neg p2, bnk_some, if_neg (by decide)]
  · refine opW (r := -1) (σ1 := σ) (σ2 := σ) ?_ ?_ hR
    · unfold fX11_show
      rw [refuse_c, if_neg p1, bnk_some, if_neg (by decide)]
    · unfold fX12_show
      rw [mayR_m, if_neg p1, bnk_some, if_neg (by decide)]
