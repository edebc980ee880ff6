theorem RB.has {m : Int} {n : Nat} {f : Nat → Int} {k : Nat} (h : RB m n f) (hk : k < n) (hn : n < 31) : fX11_hasMember m (k : Int) = some (f k) ∧ (f k = 0 ∨ f k = 1) := by
  obtain ⟨w, rfl, h2, h3⟩ := h
  have hp : 2 ^ n ≤ 2 ^ 30 := Nat.pow_le_pow_right (by omega) (by omega)
  rw [hasM_eq (by omega) (by omega), h3 k hk]
  unfold b2i
  constructor
  · rfl
  · split
    · exact Or.inr rfl
    · exact Or.inl rfl
theorem RB.put {m : Int} {n : Nat} {f : Nat → Int} {k : Nat} {b : Int} (h : RB m n f) (hk : k < n) (hn : n < 31) (hb : b = 0 ∨ b = 1) : ∃ v : Int, fX11_withMember m (k : Int) b = some v ∧ ∀ g : Nat → Int, g k = b → (∀ i, i < n → i ≠ k → g i = f i) → RB v n g := by
  obtain ⟨w, rfl, h2, h3⟩ := h
  obtain ⟨v, v1, v2, v3⟩ := withM_eq b h2 hk hn
  refine ⟨(v : Int), v1, fun g g1 g2 => ⟨v, rfl, v2, fun i hi => ?_⟩⟩
  rw [v3 i]
  by_cases q : i = k
  · subst q
    rw [g1, if_pos rfl]
    rcases hb with hb | hb <;> rw [hb] <;> simp
  · rw [if_neg q, g2 i hi q, h3 i hi]
theorem op_29 : OP29 RR := by
  intro a1 a2 ha1 ha2 σ hSF hR
  obtain ⟨hT, hW, hS, hF, hY, hA, hL, hG, hE, hC, hH, hQ⟩ := id hR
  obtain ⟨g1, g2, g3, g4, g5, g6⟩ := id hG
  by_cases p : 0 ≤ a1 ∧ a1 ≤ 15
  · obtain ⟨k, rfl⟩ := Int.eq_ofNat_of_zero_le p.1
    obtain ⟨hh, hb⟩ := g5.has (k := k) (by omega) (by decide)
    obtain ⟨v, v1, v2⟩ := g5.put (k := k) (by omega) (by decide) ha2
    refine opW (r := gI σ 1348 0 k) (σ1 := sI σ 1212 0 0 v) (σ2 := sI (sI σ 1212 0 0 v) 1348 0 k a2) ?_ ?_ ?_
    · unfold fX11_reserve
      rw [c_isSubject_eq, bnkI, if_pos p, hh, bnk_some, v1, bnk_some, asN_eq hb]; rfl
    · have hx : Ex [1212] σ (sI σ 1212 0 0 v) := Ex.rf.sI (by decide)
      unfold fX12_reserve fX12_reserve_j29
      rw [in_eq, bnkI, if_pos p, ck_x (by omega) (by omega), hx.i (c := 1348) (by decide)]
      simp only [ck_x (show (0 : Int) ≤ (k : Int) by omega) (show (k : Int) < 16 by omega), ck_b ha2, Int.toNat_natCast]
      rcases hb with z | z <;> simp only [z] <;> rfl
    · have hx : Ex [1212, 1348] σ (sI (sI σ 1212 0 0 v) 1348 0 k a2) := (Ex.rf.sI (by decide)).sI (by decide)
      have hz : RB (gI (sI (sI σ 1212 0 0 v) 1348 0 k a2) 1212 0 0) 16 (fun k2 => gI (sI (sI σ 1212 0 0 v) 1348 0 k a2) 1348 0 k2) := by
        rw [ii (by omega), gs]
        refine v2 _ gs (fun i hi q => ?_)
        show gI (sI (sI σ 1212 0 0 v) 1348 0 k a2) 1348 0 i = gI σ 1348 0 i
        rw [ii (by omega), ii (by omega)]
      refine ⟨hT.ex hx (dj_use (by decide)), hW.ex hx (dj_use (by decide)), hS.ex hx (dj_use (by decide)), hF.ex hx (dj_use (by decide)), hY.ex hx (dj_use (by decide)), hA.ex hx (dj_use (by decide)), hL.ex hx (dj_use (by decide)), ?_, hE.ex hx (dj_use (by decide)), hC.ex hx (dj_use (by decide)), hH.ex hx (dj_use (by decide)), hQ.ex hx (dj_use (by decide))⟩
      generalize sI (sI σ 1212 0 0 v) 1348 0 k a2 = σ2 at hx hz
      unfold RG RG1
      simp only [hx.i (c := 600) (by decide), hx.i (c := 601) (by decide), hx.i (c := 602) (by decide), hx.i (c := 603) (by decide), hx.i (c := 604) (by decide), hx.i (c := 503) (by decide), hx.i (c := 1214) (by decide), hx.i (c := 1349) (by decide), hx.i (c := 1350) (by decide), hx.i (c := 1351) (by decide), hx.i (c := 1352) (by decide), hx.i (c := 1353) (by decide), hx.i (c := 1354) (by decide), hx.i (c := 1358) (by decide), hx.p (c := 1213) (by decide), hx.n 5]
      exact ⟨g1, g2, g3, g4, hz, g6⟩
  · refine opW (r := -2) (σ1 := σ) (σ2 := σ) ?_ ?_ hR
    · unfold fX11_reserve
      rw [c_isSubject_eq, bnkI, if_neg p]
    · unfold fX12_reserve
      rw [in_eq, bnkI, if_neg p]
theorem op_35 : OP35 RR := by
  intro a1 a2 ha1 ha2 σ hSF hR
  obtain ⟨hT, hW, hS, hF, hY, hA, hL, hG, hE, hC, hH, hQ⟩ := id hR
  obtain ⟨g1, g2, g3, g4, g5, g6⟩ := id hG
  by_cases p : 0 ≤ a1 ∧ a1 ≤ 15
  · obtain ⟨k, rfl⟩ := Int.eq_ofNat_of_zero_le p.1
    obtain ⟨hh, hb⟩ := g6.has (k := k) (by omega) (by decide)
    obtain ⟨v, v1, v2⟩ := g6.put (k := k) (by omega) (by decide) ha2
    refine opW (r := gI σ 1358 0 k) (σ1 := sI σ 503 0 0 v) (σ2 := sI (sI σ 503 0 0 v) 1358 0 k a2) ?_ ?_ ?_
    · unfold fX11_rival
      rw [c_isSubject_eq, bnkI, if_pos p, hh, bnk_some, v1, bnk_some, asN_eq hb]; rfl
    · have hx : Ex [503] σ (sI σ 503 0 0 v) := Ex.rf.sI (by decide)
      unfold fX12_rival fX12_rival_j29
      rw [in_eq, bnkI, if_pos p, ck_x (by omega) (by omega), hx.i (c := 1358) (by decide)]
      simp only [ck_x (show (0 : Int) ≤ (k : Int) by omega) (show (k : Int) < 16 by omega), ck_b ha2, Int.toNat_natCast]
      rcases hb with z | z <;> simp only [z] <;> rfl
    · have hx : Ex [503, 1358] σ (sI (sI σ 503 0 0 v) 1358 0 k a2) := (Ex.rf.sI (by decide)).sI (by decide)
      have hz : RB (gI (sI (sI σ 503 0 0 v) 1358 0 k a2) 503 0 0) 16 (fun k2 => gI (sI (sI σ 503 0 0 v) 1358 0 k a2) 1358 0 k2) := by
        rw [ii (by omega), gs]
        refine v2 _ gs (fun i hi q => ?_)
        show gI (sI (sI σ 503 0 0 v) 1358 0 k a2) 1358 0 i = gI σ 1358 0 i
        rw [ii (by omega), ii (by omega)]
      refine ⟨hT.ex hx (dj_use (by decide)), hW.ex hx (dj_use (by decide)), hS.ex hx (dj_use (by decide)), hF.ex hx (dj_use (by decide)), hY.ex hx (dj_use (by decide)), hA.ex hx (dj_use (by decide)), hL.ex hx (dj_use (by decide)), ?_, hE.ex hx (dj_use (by decide)), hC.ex hx (dj_use (by decide)), hH.ex hx (dj_use (by decide)), hQ.ex hx (dj_use (by decide))⟩
      generalize sI (sI σ 503 0 0 v) 1358 0 k a2 = σ2 at hx hz
      unfold RG RG1
      simp only [hx.i (c := 600) (by decide), hx.i (c := 601) (by decide), hx.i (c := 602) (by decide), hx.i (c := 603) (by decide), hx.i (c := 604) (by decide), hx.i (c := 1212) (by decide), hx.i (c := 1214) (by decide), hx.i (c := 1348) (by decide), hx.i (c := 1349) (by decide), hx.i (c := 1350) (by decide), hx.i (c := 1351) (by decide), hx.i (c := 1352) (by decide), hx.i (c := 1353) (by decide), hx.i (c := 1354) (by decide), hx.p (c := 1213) (by decide), hx.n 5]
      exact ⟨g1, g2, g3, g4, g5, hz⟩
  · refine opW (r := -2) (σ1 := σ) (σ2 := σ) ?_ ?_ hR
    · unfold fX11_rival
      rw [c_isSubject_eq, bnkI, if_neg p]
    · unfold fX12_rival
      rw [in_eq, bnkI, if_neg p]
theorem op_34 : OP34 RR := by
  intro a1 a2 a3 ha1 ha2 ha3 σ hSF hR
  obtain ⟨hT, hW, hS, hF, hY, hA, hL, hG, hE, hC, hH, hQ⟩ := id hR
  obtain ⟨y1, y2, y3, y4, y5, y6⟩ := id hE
  by_cases p : 0 ≤ a1 ∧ a1 < (gN σ 8 : Int)
  · obtain ⟨e1, e2, e3, e4, -⟩ := stP hY p
    by_cases p2 : 0 ≤ a2 ∧ a2 < (gN σ 8 : Int)
    · obtain ⟨f1, f2, f3, f4, -⟩ := stP hY p2
      by_cases c0 : a1 = a2
      · refine opW (r := -3) (σ1 := σ) (σ2 := σ) ?_ ?_ hR
        · unfold fX11_apart
          rw [e1, bnk_some, mop_s, ck_n e3, f1, bnk_some, mop_s, ck_n f3, if_pos c0]
        · unfold fX12_apart
          rw [e2, bnk_some, if_neg (by decide), f2, bnk_some, if_neg (by decide), if_pos c0]
      · obtain ⟨j, rfl⟩ := Int.eq_ofNat_of_zero_le p.1
        obtain ⟨k, rfl⟩ := Int.eq_ofNat_of_zero_le p2.1
        simp only [Int.toNat_natCast] at e3 f3
        have jk : j ≠ k := fun z => c0 (by rw [z])
        obtain ⟨hh, hb⟩ := (y5 j (by omega)).has (k := k) (by omega) (by decide)
        obtain ⟨v, v1, v2⟩ := (y5 j (by omega)).put (k := k) (by omega) (by decide) ha3
        obtain ⟨u, u1, u2⟩ := (y5 k (by omega)).put (k := j) (by omega) (by decide) ha3
        have t1 : (8 * (j : Int) + (k : Int)).toNat = 8 * j + k := by omega
        have t2 : (8 * (k : Int) + (j : Int)).toNat = 8 * k + j := by omega
        refine opW (r := gI σ 1357 0 (8 * j + k)) (σ1 := sI (sI σ 502 0 j v) 502 0 k u) (σ2 := sI (sI (sI (sI σ 502 0 j v) 502 0 k u) 1357 0 (8 * j + k) a3) 1357 0 (8 * k + j) a3) ?_ ?_ ?_
        · unfold fX11_apart fX4_keepApart
          rw [e1, bnk_some, mop_s, ck_n (by omega), f1, bnk_some, mop_s, ck_n (by omega), if_neg c0, ck_x (by omega) (by omega)]
          simp only [Int.toNat_natCast]
          rw [hh, bnk_some, ck_x (by omega) (by omega), v1, bnk_some, ck_x (by omega) (by omega), ck_x (by omega) (by omega), ii (by omega), u1, bnk_some, ck_x (by omega) (by omega), asN_eq hb]; rfl
        · have hx : Ex [502] σ (sI (sI σ 502 0 j v) 502 0 k u) := (Ex.rf.sI (by decide)).sI (by decide)
          have hi2 : ∀ a, fX12_isStory a (sI (sI σ 502 0 j v) 502 0 k u) = fX12_isStory a σ := by
            intro a
            unfold fX12_isStory
            rw [hx.i (c := 1326) (by decide)]
          unfold fX12_apart fX12_apart_j45
          rw [hi2, e2, bnk_some, if_neg (by decide), hi2, f2, bnk_some, if_neg (by decide), if_neg c0, ck_i (by omega) (by omega), ck_i (by omega) (by omega), ck_x (by omega) (by omega), t1, hx.i (c := 1357) (by decide)]
          simp only [t1, t2, ck_i (show (-2147483648 : Int) ≤ 8 * (j : Int) by omega) (show 8 * (j : Int) ≤ 2147483647 by omega), ck_i (show (-2147483648 : Int) ≤ 8 * (k : Int) by omega) (show 8 * (k : Int) ≤ 2147483647 by omega), ck_i (show (-2147483648 : Int) ≤ 8 * (j : Int) + (k : Int) by omega) (show 8 * (j : Int) + (k : Int) ≤ 2147483647 by omega), ck_i (show (-2147483648 : Int) ≤ 8 * (k : Int) + (j : Int) by omega) (show 8 * (k : Int) + (j : Int) ≤ 2147483647 by omega), ck_x (show (0 : Int) ≤ 8 * (j : Int) + (k : Int) by omega) (show 8 * (j : Int) + (k : Int) < 64 by omega), ck_x (show (0 : Int) ≤ 8 * (k : Int) + (j : Int) by omega) (show 8 * (k : Int) + (j : Int) < 64 by omega), ck_b ha3]
          rcases hb with z | z <;> simp only [z] <;> rfl
        · have hx : Ex [502, 1357] σ (sI (sI (sI (sI σ 502 0 j v) 502 0 k u) 1357 0 (8 * j + k) a3) 1357 0 (8 * k + j) a3) := (((Ex.rf.sI (by decide)).sI (by decide)).sI (by decide)).sI (by decide)
          refine ⟨hT.ex hx (dj_use (by decide)), hW.ex hx (dj_use (by decide)), hS.ex hx (dj_use (by decide)), hF.ex hx (dj_use (by decide)), hY.ex hx (dj_use (by decide)), hA.ex hx (dj_use (by decide)), hL.ex hx (dj_use (by decide)), hG.ex hx (dj_use (by decide)), ?_, hC.ex hx (dj_use (by decide)), hH.ex hx (dj_use (by decide)), hQ.ex hx (dj_use (by decide))⟩
          unfold RE
          rw [hx.i (c := 500) (by decide), hx.i (c := 501) (by decide), hx.i (c := 1355) (by decide), hx.i (c := 1356) (by decide)]
          have g57 : ∀ e, gI (sI (sI (sI (sI σ 502 0 j v) 502 0 k u) 1357 0 (8 * j + k) a3) 1357 0 (8 * k + j) a3) 1357 0 e = if e = 8 * k + j then a3 else if e = 8 * j + k then a3 else gI σ 1357 0 e := fun e => by
            by_cases d1 : e = 8 * k + j
            · rw [if_pos d1, d1, gs]
            · rw [if_neg d1, ii (by omega)]
              by_cases d2 : e = 8 * j + k
              · rw [if_pos d2, d2, gs]
              · rw [if_neg d2, ii (by omega), ii (by omega), ii (by omega)]
          have sym : ∀ a b, a < 8 → b < 8 → gI (sI (sI (sI (sI σ 502 0 j v) 502 0 k u) 1357 0 (8 * j + k) a3) 1357 0 (8 * k + j) a3) 1357 0 (8 * a + b) = gI (sI (sI (sI (sI σ 502 0 j v) 502 0 k u) 1357 0 (8 * j + k) a3) 1357 0 (8 * k + j) a3) 1357 0 (8 * b + a) := fun a b ha hb2 => by
            rw [g57, g57]
            by_cases d1 : 8 * a + b = 8 * k + j
            · rw [if_pos d1, if_neg (by omega), if_pos (by omega)]
            · rw [if_neg d1]
              by_cases d2 : 8 * a + b = 8 * j + k
              · rw [if_pos d2, if_pos (by omega)]
              · rw [if_neg d2, if_neg (by omega), if_neg (by omega)]
                exact y6 a b ha hb2
          refine ⟨y1, y2, y3, y4, fun a ha => ?_, sym⟩
          by_cases q1 : a = k
          · subst q1
            rw [ii (by omega), ii (by omega), gs]
            refine u2 _ gs (fun i hi q => ?_)
            show gI (sI (sI (sI (sI σ 502 0 j v) 502 0 a u) 1357 0 (8 * j + a) a3) 1357 0 (8 * a + j) a3) 1357 0 (8 * a + i) = gI σ 1357 0 (8 * a + i)
            rw [ii (by omega), ii (by omega), ii (by omega), ii (by omega)]
          · by_cases q2 : a = j
            · subst q2
              rw [ii (by omega), ii (by omega), ii (by omega), gs]
              refine v2 _ ?_ (fun i hi q => ?_)
              · show gI (sI (sI (sI (sI σ 502 0 a v) 502 0 k u) 1357 0 (8 * a + k) a3) 1357 0 (8 * k + a) a3) 1357 0 (8 * a + k) = a3
                rw [ii (by omega), gs]
              · show gI (sI (sI (sI (sI σ 502 0 a v) 502 0 k u) 1357 0 (8 * a + k) a3) 1357 0 (8 * k + a) a3) 1357 0 (8 * a + i) = gI σ 1357 0 (8 * a + i)
                rw [ii (by omega), ii (by omega), ii (by omega), ii (by omega)]
            · rw [ii (by omega), ii (by omega), ii (by omega), ii (by omega)]
              obtain ⟨w, w1, w2, w3⟩ := y5 a ha
              refine ⟨w, w1, w2, fun i hi => ?_⟩
              rw [← w3 i hi]
              show gI (sI (sI (sI (sI σ 502 0 j v) 502 0 k u) 1357 0 (8 * j + k) a3) 1357 0 (8 * k + j) a3) 1357 0 (8 * a + i) = gI σ 1357 0 (8 * a + i)
              rw [ii (by omega), ii (by omega), ii (by omega), ii (by omega)]
    · obtain ⟨f1, f2⟩ := stN hY p2
      refine opW (r := -1) (σ1 := σ) (σ2 := σ) ?_ ?_ hR
      · unfold fX11_apart
        rw [e1, bnk_some, mop_s, ck_n e3, f1]; rfl
      · unfold fX12_apart
        rw [e2, bnk_some, if_neg (by decide), f2]; rfl
  · obtain ⟨e1, e2⟩ := stN hY p
    refine opW (r := -1) (σ1 := σ) (σ2 := σ) ?_ ?_ hR
    · unfold fX11_apart; rw [e1]; rfl
    · unfold fX12_apart; rw [e2]; rfl
theorem op_33 : OP33 RR := by
  intro a1 a2 ha1 ha2 σ hSF hR
  obtain ⟨hT, hW, hS, hF, hY, hA, hL, hG, hE, hC, hH, hQ⟩ := id hR
  obtain ⟨y1, y2, y3, y4, y5, y6⟩ := id hE
  by_cases p : 1 ≤ a2 ∧ a2 ≤ 3000
  · have key : ∀ σ2, Ex [500, 501, 1355, 1356] σ σ2 → gI σ2 1355 0 0 = gI σ2 500 0 0 → gI σ2 1356 0 0 = gI σ2 501 0 0 → (1 ≤ gI σ2 500 0 0 ∧ gI σ2 500 0 0 ≤ 3000) → (1 ≤ gI σ2 501 0 0 ∧ gI σ2 501 0 0 ≤ 3000) → RR σ2 := by
      intro σ2 hx z1 z2 z3 z4
      refine ⟨hT.ex hx (dj_use (by decide)), hW.ex hx (dj_use (by decide)), hS.ex hx (dj_use (by decide)), hF.ex hx (dj_use (by decide)), hY.ex hx (dj_use (by decide)), hA.ex hx (dj_use (by decide)), hL.ex hx (dj_use (by decide)), hG.ex hx (dj_use (by decide)), ?_, hC.ex hx (dj_use (by decide)), hH.ex hx (dj_use (by decide)), hQ.ex hx (dj_use (by decide))⟩
      unfold RE
      simp only [hx.i (c := 502) (by decide), hx.i (c := 1357) (by decide)]
      exact ⟨z1, z2, z3, z4, y5, y6⟩
    by_cases c : a1 = 0
    · subst c
      by_cases c0 : a2 ≤ gI σ 501 0 0
      · refine opW (r := gI σ 500 0 0) (σ1 := sI σ 500 0 0 a2) (σ2 := sI (sI (sI σ 500 0 0 a2) 1356 0 0 (gI σ 501 0 0)) 1355 0 0 a2) ?_ ?_ ?_
        · unfold fX11_length fX4_changeLength fX4_changeLength_j26 fX4_changeLength_j41
          rw [within_eq, bnkI, if_pos p]
          simp only [if_pos c0]; rfl
        · unfold fX12_length fX12_length_j41 fX12_length_j56 fX12_length_j70 fX12_length_j86
          have hx : Ex [500] σ (sI σ 500 0 0 a2) := Ex.rf.sI (by decide)
          rw [in_eq, bnkI, if_pos p]
          simp only [hx.i (c := 1355) (by decide), hx.i (c := 1356) (by decide), y1, y2, if_pos c0]; rfl
        · exact key _ (((Ex.rf.sI (by decide)).sI (by decide)).sI (by decide)) (by rw [gs, ii (by omega), ii (by omega), gs]) (by rw [ii (by omega), gs, ii (by omega), ii (by omega), ii (by omega)]) (by rw [ii (by omega), ii (by omega), gs]; exact p) (by rw [ii (by omega), ii (by omega), ii (by omega)]; exact y4)
      · refine opW (r := -3) (σ1 := σ) (σ2 := σ) ?_ ?_ hR
        · unfold fX11_length fX4_changeLength
          rw [within_eq, bnkI, if_pos p]
          simp only [if_neg c0]; rfl
        · unfold fX12_length
          rw [in_eq, bnkI, if_pos p]
          simp only [y2, if_neg c0]; rfl
    · by_cases c0 : gI σ 500 0 0 ≤ a2
      · refine opW (r := gI σ 501 0 0) (σ1 := sI σ 501 0 0 a2) (σ2 := sI (sI (sI σ 501 0 0 a2) 1356 0 0 a2) 1355 0 0 (gI σ 500 0 0)) ?_ ?_ ?_
        · unfold fX11_length fX4_changeLength fX4_changeLength_j26 fX4_changeLength_j41
          rw [within_eq, bnkI, if_pos p]
          simp only [if_pos c0, if_neg c]; rfl
        · unfold fX12_length fX12_length_j41 fX12_length_j56 fX12_length_j70 fX12_length_j86
          have hx : Ex [501] σ (sI σ 501 0 0 a2) := Ex.rf.sI (by decide)
          rw [in_eq, bnkI, if_pos p]
          simp only [hx.i (c := 1355) (by decide), hx.i (c := 1356) (by decide), y1, y2, if_pos c0, if_neg c]
        · exact key _ (((Ex.rf.sI (by decide)).sI (by decide)).sI (by decide)) (by rw [gs, ii (by omega), ii (by omega), ii (by omega)]) (by rw [ii (by omega), gs, ii (by omega), ii (by omega), gs]) (by rw [ii (by omega), ii (by omega), ii (by omega)]; exact y3) (by rw [ii (by omega), ii (by omega), gs]; exact p)
      · refine opW (r := -3) (σ1 := σ) (σ2 := σ) ?_ ?_ hR
        · unfold fX11_length fX4_changeLength
          rw [within_eq, bnkI, if_pos p]
          simp only [if_neg c0, if_neg c]; rfl
        · unfold fX12_length
          rw [in_eq, bnkI, if_pos p]
          simp only [y1, if_neg c0, if_neg c]
  · refine opW (r := -2) (σ1 := σ) (σ2 := σ) ?_ ?_ hR
    · unfold fX11_length
      rw [within_eq, bnkI, if_neg p]
    · unfold fX12_length
      rw [in_eq, bnkI, if_neg p]
theorem op_44 : OP44 RR := by
  intro a1 a2 a3 a4 ha1 ha2 ha3 ha4 σ hSF hR
  obtain ⟨hT, hW, hS, hF, hY, hA, hL, hG, hE, hC, hH, hQ⟩ := id hR
  obtain ⟨y1, y2, y3, y4, y5, y6, y7⟩ := id hH
  by_cases p1 : 0 ≤ a1 ∧ a1 ≤ 4
  · by_cases p2 : (0 ≤ a2 ∧ a2 ≤ 8) ∧ (0 ≤ a3 ∧ a3 ≤ 8) ∧ ¬ a3 < a2 ∧ 1 ≤ a4 ∧ a4 ≤ 9999
    · obtain ⟨p2, p3, p4, p5⟩ := p2
      by_cases c0 : gI σ 300 0 0 < 8
      · obtain ⟨n, hn⟩ := Int.eq_ofNat_of_zero_le y2.1
        refine opW (r := (n : Int)) (σ1 := sI (sI (sI (sI (sI σ 301 0 n a2) 302 0 n a3) 303 0 n a4) 300 0 0 ((n : Int) + 1)) 308 0 0 0) (σ2 := sI (sI (sI (sI (sI (sI (sI (sI (sI σ 301 0 n a2) 302 0 n a3) 303 0 n a4) 300 0 0 ((n : Int) + 1)) 308 0 0 0) 1379 0 n a2) 1380 0 n a3) 1381 0 n a4) 1378 0 0 ((n : Int) + 1)) ?_ ?_ ?_
        · unfold fX11_hall fX2_add
          rw [c_isLand_eq, bnkI, if_pos p1, c_isWeek_eq, bnkI, if_pos p2, c_isWeek_eq, bnkI, if_pos p3, if_neg p4, within_eq, bnkI, if_pos p5, if_pos c0, hn]
          rw [ck_x (by omega) (by omega), ck_x (by omega) (by omega), ck_x (by omega) (by omega), ck_i (by omega) (by omega), ck_i (by omega) (by omega), bnd_some, Int.add_sub_cancel]; rfl
        · have hx : Ex [300, 301, 302, 303, 308] σ (sI (sI (sI (sI (sI σ 301 0 n a2) 302 0 n a3) 303 0 n a4) 300 0 0 ((n : Int) + 1)) 308 0 0 0) := ((((Ex.rf.sI (by decide)).sI (by decide)).sI (by decide)).sI (by decide)).sI (by decide)
          unfold fX12_hall
          rw [m_isLand_eq, bnkI, if_pos p1, in_eq, bnkI, if_pos p2, in_eq, bnkI, if_pos (by omega), in_eq, bnkI, if_pos p5, hx.i (c := 1378) (by decide), y1, hn, if_neg (by omega)]
          rw [ck_x (by omega) (by omega), ck_x (by omega) (by omega), ck_x (by omega) (by omega), ck_i (by omega) (by omega), ck_i (by omega) (by omega), Int.add_sub_cancel]; rfl
        · have hx : Ex [300, 301, 302, 303, 308, 1378, 1379, 1380, 1381] σ (sI (sI (sI (sI (sI (sI (sI (sI (sI σ 301 0 n a2) 302 0 n a3) 303 0 n a4) 300 0 0 ((n : Int) + 1)) 308 0 0 0) 1379 0 n a2) 1380 0 n a3) 1381 0 n a4) 1378 0 0 ((n : Int) + 1)) := ((((((((Ex.rf.sI (by decide)).sI (by decide)).sI (by decide)).sI (by decide)).sI (by decide)).sI (by decide)).sI (by decide)).sI (by decide)).sI (by decide)
          refine ⟨hT.ex hx (dj_use (by decide)), hW.ex hx (dj_use (by decide)), hS.ex hx (dj_use (by decide)), hF.ex hx (dj_use (by decide)), hY.ex hx (dj_use (by decide)), hA.ex hx (dj_use (by decide)), hL.ex hx (dj_use (by decide)), hG.ex hx (dj_use (by decide)), hE.ex hx (dj_use (by decide)), hC.ex hx (dj_use (by decide)), ?_, ?_⟩
          · unfold RH
            simp only [hx.i (c := 304) (by decide), hx.i (c := 1382) (by decide), hx.i (c := 305) (by decide), hx.i (c := 1383) (by decide)]
            have z1 : gI (sI (sI (sI (sI (sI (sI (sI (sI (sI σ 301 0 n a2) 302 0 n a3) 303 0 n a4) 300 0 0 ((n : Int) + 1)) 308 0 0 0) 1379 0 n a2) 1380 0 n a3) 1381 0 n a4) 1378 0 0 ((n : Int) + 1)) 300 0 0 = (n : Int) + 1 := by
              rw [ii (by omega), ii (by omega), ii (by omega), ii (by omega), ii (by omega), gs]
            refine ⟨by rw [gs, z1], by rw [z1]; omega, fun i hi => ?_, y4, y5, y6, Or.inl ?_⟩
            · rw [z1] at hi
              by_cases q : i = n
              · subst q
                simp only [gI_sI]
                simp
                omega
              · have := y3 i (by omega)
                simp only [gI_sI]
                simp [q]
                exact this
            · rw [ii (by omega), ii (by omega), ii (by omega), ii (by omega), gs]
          · intro q
            rw [ii (by omega), ii (by omega), ii (by omega), ii (by omega), gs] at q
            exact absurd q (by decide)
      · refine opW (r := -4) (σ1 := σ) (σ2 := σ) ?_ ?_ hR
        · unfold fX11_hall fX2_add
          rw [c_isLand_eq, bnkI, if_pos p1, c_isWeek_eq, bnkI, if_pos p2, c_isWeek_eq, bnkI, if_pos p3, if_neg p4, within_eq, bnkI, if_pos p5, if_neg c0]; rfl
        · unfold fX12_hall
          rw [m_isLand_eq, bnkI, if_pos p1, in_eq, bnkI, if_pos p2, in_eq, bnkI, if_pos (by omega), in_eq, bnkI, if_pos p5, y1, if_pos (by omega)]
    · refine opW (r := -2) (σ1 := σ) (σ2 := σ) ?_ ?_ hR
      · unfold fX11_hall
        rw [c_isLand_eq, bnkI, if_pos p1, c_isWeek_eq, bnkI]
        split
        · rw [c_isWeek_eq, bnkI]
          split
          · split
            · rfl
            · rw [within_eq, bnkI, if_neg (by omega)]
          · rfl
        · rfl
      · unfold fX12_hall
        rw [m_isLand_eq, bnkI, if_pos p1, in_eq, bnkI]
        split
        · rw [in_eq, bnkI]
          split
          · rw [in_eq, bnkI, if_neg (by omega)]
          · rfl
        · rfl
  · refine opW (r := -1) (σ1 := σ) (σ2 := σ) ?_ ?_ hR
    · unfold fX11_hall
      rw [c_isLand_eq, bnkI, if_neg p1]
    · unfold fX12_hall
      rw [m_isLand_eq, bnkI, if_neg p1]
