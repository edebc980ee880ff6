/-! cover, covered -/
theorem wv_bd {σ : St} (h : RC σ) (E : Nat) (k : Nat) (hk : k ≤ evN σ) : 0 ≤ sumN (fun e => if E.testBit e = true then gI σ 105 0 e else 0) k ∧ sumN (fun e => if E.testBit e = true then gI σ 105 0 e else 0) k ≤ 999 * k := by
  obtain ⟨c1, c2, c3, c4, c5, c6⟩ := h.ev
  have := sumN_bd2 (g := fun e => if E.testBit e = true then gI σ 105 0 e else 0) (lo := 0) (hi := 999) k (fun i hi => by
    have h1 := (c6 i (by omega)).2.2.2.2.2
    show 0 ≤ (if E.testBit i = true then gI σ 105 0 i else 0) ∧ (if E.testBit i = true then gI σ 105 0 i else 0) ≤ 999
    split <;> omega)
  omega
theorem worth_m {σ τ : St} {E : Nat} (hR : RR σ) (ha : Ag σ τ) (hE : E < 256) : fX12_worthOf (E : Int) τ = some (wvE σ E) := by
  have hC := hR.2.2.2.2.2.2.2.2.2.1
  obtain ⟨c1, c2, c3, c4, c5, c6⟩ := hC.ev
  unfold fX12_worthOf fX12_worthOf_j4 fX12_worthOf_j40 wvE ssum
  refine bnk_of (wh_sum (fun e => if E.testBit e = true then gI σ 105 0 e else 0) (evN σ) (fun e he => ?_) ?_) rfl
  · have hb := wv_bd hC E e (by omega)
    obtain ⟨f1, f2, f3, f4, f5, f6⟩ := c6 e he
    generalize sumN (fun e => if E.testBit e = true then gI σ 105 0 e else 0) e = A at hb
    show fX12_worthOf_l4 (E : Int) τ A (e : Int) = _
    unfold fX12_worthOf_l4 fX12_worthOf_j32
    rw [ha.i (c := 1369) (by decide), c2, if_neg (by omega), iandshr (by omega) (by omega), Int.toNat_natCast, ha.i (c := 1372) (by decide), f3]
    by_cases c : E.testBit e = true
    · rw [if_pos (b2i_pos c), if_pos c, ck_x (by omega) (by omega), ck_i (by omega) (by omega), ck_i (by omega) (by omega)]
    · rw [if_neg (by rw [b2i_neg c]; decide), if_neg c, ck_i (by omega) (by omega), ck_i (by omega) (by omega)]
  · show fX12_worthOf_l4 (E : Int) τ _ _ = _
    unfold fX12_worthOf_l4
    rw [ha.i (c := 1369) (by decide), c2, if_pos (Int.le_refl _)]
/-- the most that is covered, by events -/
def TOP (σ : St) (L : Nat) (W : Int) : Prop := (W = 0 ∨ ∃ E, E < L ∧ cvP (chM σ) 4 (rkS σ E) ∧ wvE σ E = W) ∧ (∀ E, E < L → cvP (chM σ) 4 (rkS σ E) → wvE σ E ≤ W) ∧ 0 ≤ W
theorem best_m {σ τ : St} (hR : RR σ) (ha : Ag σ τ) : ∃ τ' W, fX12_bestCover τ = some (W, τ') ∧ Ex SCo τ τ' ∧ T374 σ τ' 4 ∧ TOP σ (2 ^ evN σ) W := by
  have hC := hR.2.2.2.2.2.2.2.2.2.1
  obtain ⟨c1, c2, c3, c4, c5, c6⟩ := hC.ev
  have h256 : 2 ^ evN σ ≤ 2 ^ 8 := Nat.pow_le_pow_right (by omega) c3
  have hsh : ishl 1 (evN σ : Int) = ((2 ^ evN σ : Nat) : Int) := ishl_one ⟨evN σ, by omega⟩
  obtain ⟨τ1, v1, v2, v3⟩ := covers_m hR ha
  have a1 := ha.trans (Ag.of v2 (by decide))
  have key : ∀ i E, E + i = 2 ^ evN σ → ∀ W, TOP σ E W → ∃ W', wh (fun s => fX12_bestCover_l8 τ1 s.1 s.2) ((W, (E : Int))) = some W' ∧ TOP σ (2 ^ evN σ) W' := by
    intro i
    induction i with
    | zero =>
      intro E hE W h
      have : E = 2 ^ evN σ := by omega
      rw [← this]
      refine ⟨W, wh_inr ?_, h⟩
      show fX12_bestCover_l8 τ1 W (E : Int) = _
      unfold fX12_bestCover_l8
      rw [a1.i (c := 1369) (by decide), c2, hsh, if_pos (by omega)]
    | succ i ih =>
      intro E hE W h
      obtain ⟨t1, t2, t3⟩ := id h
      have hT := v3 E (by omega)
      have hwo := worth_m (E := E) hR a1 (by omega)
      have hwb := wv_bd hC E (evN σ) (Nat.le_refl _)
      have hwb2 : 0 ≤ wvE σ E := hwb.1
      have step : ∀ W2, TOP σ (E + 1) W2 → fX12_bestCover_l8 τ1 W (E : Int) = some (.inl (W2, ((E + 1 : Nat) : Int))) → ∃ W', wh (fun s => fX12_bestCover_l8 τ1 s.1 s.2) ((W, (E : Int))) = some W' ∧ TOP σ (2 ^ evN σ) W' := by
        intro W2 x1 x2
        obtain ⟨W', k1, k2⟩ := ih (E + 1) (by omega) W2 x1
        exact ⟨W', wh_inl x2 k1, k2⟩
      have same : (cvP (chM σ) 4 (rkS σ E) → wvE σ E ≤ W) → TOP σ (E + 1) W := by
        intro z
        refine ⟨?_, fun E' y1 y2 => ?_, t3⟩
        · rcases t1 with t1 | ⟨E', y1, y2, y3⟩
          · exact Or.inl t1
          · exact Or.inr ⟨E', by omega, y2, y3⟩
        · by_cases q : E' = E
          · rw [q] at y2 ⊢; exact z y2
          · exact t2 E' (by omega) y2
      have pre : ∀ {X : Option ((Int × Int) ⊕ Int)}, (if gI τ1 1374 0 E = 0 then (some (.inl (W, ((E + 1 : Nat) : Int)))) else (if wvE σ E ≤ W then (some (.inl (W, ((E + 1 : Nat) : Int)))) else (some (.inl (wvE σ E, ((E + 1 : Nat) : Int)))))) = X → fX12_bestCover_l8 τ1 W (E : Int) = X := by
        intro X hX
        unfold fX12_bestCover_l8 fX12_bestCover_j44 fX12_bestCover_j45
        rw [a1.i (c := 1369) (by decide), c2, hsh, if_neg (by omega), ck_x (by omega) (by omega), Int.toNat_natCast, hwo, bnk_some, bnk_some, ck_i (by omega) (by omega), ck_i (by omega) (by omega)]
        exact hX
      by_cases c : cvP (chM σ) 4 (rkS σ E)
      · have hnz : ¬ gI τ1 1374 0 E = 0 := fun z => (hT.z.mp z) c
        by_cases d : wvE σ E ≤ W
        · exact step W (same (fun _ => d)) (pre (by rw [if_neg hnz, if_pos d]))
        · refine step (wvE σ E) ⟨Or.inr ⟨E, by omega, c, rfl⟩, fun E' y1 y2 => ?_, hwb2⟩ (pre (by rw [if_neg hnz, if_neg d]))
          by_cases q : E' = E
          · rw [q]; exact Int.le_refl _
          · have := t2 E' (by omega) y2; omega
      · exact step W (same (fun z => absurd z c)) (pre (by rw [if_pos (hT.z.mpr c)]))
  obtain ⟨W', k1, k2⟩ := key (2 ^ evN σ) 0 (by omega) 0 ⟨Or.inl rfl, fun E h => by omega, Int.le_refl _⟩
  refine ⟨τ1, W', ?_, v2, v3, k2⟩
  unfold fX12_bestCover fX12_bestCover_j8 fX12_bestCover_j52
  rw [v1, bnd_some]
  exact bnk_of k1 rfl
theorem top_eq {σ : St} {W V A U : Int} (hC : RC σ) (h : CBS σ (2 ^ evN σ) W A U) (h2 : TOP σ (2 ^ evN σ) V) : W = V := by
  obtain ⟨⟨S, s1, s2, s3⟩, g2, -⟩ := h
  obtain ⟨t1, t2, t3⟩ := h2
  have e1 := ws_we hC S (evN σ) (Nat.le_refl _)
  have e2 := t2 (evS σ S (evN σ)) (evS_lt hC S (evN σ) (Nat.le_refl _)) (by rw [rk_ev hC s1]; exact s2)
  have e3 : V ≤ W := by
    rcases t1 with t1 | ⟨E, y1, y2, y3⟩
    · have := wr_bd hC S (evN σ) (Nat.le_refl _)
      omega
    · have := g2 (rkS σ E) (rkS_lt σ E) y2
      rw [ws_we hC (rkS σ E) (evN σ) (Nat.le_refl _), ev_rk hC y1] at this
      omega
  omega
theorem op_42 : OP42 RR := by
  intro σ hSF hR
  have hC := hR.2.2.2.2.2.2.2.2.2.1
  obtain ⟨τ1, p1, p2, p3⟩ := plan_c hR Ag.rf
  have a1 : Ag σ τ1 := Ag.of p2 (by decide)
  obtain ⟨τ2, W, b1, b2, b3, b4⟩ := best_m hR a1
  have e := top_eq hC p3 b4
  refine opW (r := W) (σ1 := τ1) (σ2 := τ2) ?_ ?_ ((a1.trans (Ag.of b2 (by decide))).rr hR)
  · unfold fX11_cover
    rw [p1, bnd_some, e]
  · unfold fX12_cover
    rw [b1, bnd_some]
theorem op_43 : OP43 RR := by
  intro a ha σ hSF hR
  have hC := hR.2.2.2.2.2.2.2.2.2.1
  obtain ⟨c1, c2, c3, c4, c5, c6⟩ := hC.ev
  have h256 : 2 ^ evN σ ≤ 2 ^ 8 := Nat.pow_le_pow_right (by omega) c3
  have hsh : ishl 1 (evN σ : Int) = ((2 ^ evN σ : Nat) : Int) := ishl_one ⟨evN σ, by omega⟩
  by_cases p : 0 ≤ a ∧ a ≤ (evN σ : Int) - 1
  · obtain ⟨x, rfl⟩ := Int.eq_ofNat_of_zero_le p.1
    obtain ⟨τ1, p1, p2, p3⟩ := plan_c hR Ag.rf
    have a1 : Ag σ τ1 := Ag.of p2 (by decide)
    obtain ⟨τ2, W, b1, b2, b3, b4⟩ := best_m hR a1
    have e := top_eq hC p3 b4
    obtain ⟨⟨S0, z1, z2, z3⟩, g2, A, U, g3, g4, g5, g6, g7, g8⟩ := id p3
    have a2 : Ag σ τ2 := a1.trans (Ag.of b2 (by decide))
    -- some, all
    have sm : ∃ s q : Int, wh (fun s => fX12_covered_l31 (x : Int) W τ2 s.1 s.2.1 s.2.2) ((0, 1, 0)) = some (s, q) ∧ TF s (∃ E, E < 2 ^ evN σ ∧ (cvP (chM σ) 4 (rkS σ E) ∧ wvE σ E = W) ∧ E.testBit x = true) ∧ TF q (∀ E, E < 2 ^ evN σ → (cvP (chM σ) 4 (rkS σ E) ∧ wvE σ E = W) → E.testBit x = true) := by
      have key : ∀ i E, E + i = 2 ^ evN σ → ∀ s q : Int, TF s (∃ E', E' < E ∧ (cvP (chM σ) 4 (rkS σ E') ∧ wvE σ E' = W) ∧ E'.testBit x = true) → TF q (∀ E', E' < E → (cvP (chM σ) 4 (rkS σ E') ∧ wvE σ E' = W) → E'.testBit x = true) → ∃ s' q' : Int, wh (fun s => fX12_covered_l31 (x : Int) W τ2 s.1 s.2.1 s.2.2) ((s, q, (E : Int))) = some (s', q') ∧ TF s' (∃ E, E < 2 ^ evN σ ∧ (cvP (chM σ) 4 (rkS σ E) ∧ wvE σ E = W) ∧ E.testBit x = true) ∧ TF q' (∀ E, E < 2 ^ evN σ → (cvP (chM σ) 4 (rkS σ E) ∧ wvE σ E = W) → E.testBit x = true) := by
        intro i
        induction i with
        | zero =>
          intro E hE s q h1 h2
          have hEE : E = 2 ^ evN σ := by omega
          rw [hEE] at h1 h2
          refine ⟨s, q, wh_inr ?_, h1, h2⟩
          show fX12_covered_l31 (x : Int) W τ2 s q (E : Int) = _
          unfold fX12_covered_l31
          rw [a2.i (c := 1369) (by decide), c2, hsh, if_pos (by omega)]
        | succ i ih =>
          intro E hE s q h1 h2
          have hT := b3 E (by omega)
          have hwo := worth_m (E := E) hR a2 (by omega)
          have j111 : ∀ s q : Int, fX12_covered_j111 (x : Int) W s q (E : Int) τ2 = some (.inl (s, q, ((E + 1 : Nat) : Int))) := by
            intro s q
            unfold fX12_covered_j111
            rw [ck_i (by omega) (by omega)]; rfl
          have skip : ¬ (cvP (chM σ) 4 (rkS σ E) ∧ wvE σ E = W) → fX12_covered_l31 (x : Int) W τ2 s q (E : Int) = some (.inl (s, q, ((E + 1 : Nat) : Int))) → ∃ s' q' : Int, wh (fun s => fX12_covered_l31 (x : Int) W τ2 s.1 s.2.1 s.2.2) ((s, q, (E : Int))) = some (s', q') ∧ TF s' (∃ E, E < 2 ^ evN σ ∧ (cvP (chM σ) 4 (rkS σ E) ∧ wvE σ E = W) ∧ E.testBit x = true) ∧ TF q' (∀ E, E < 2 ^ evN σ → (cvP (chM σ) 4 (rkS σ E) ∧ wvE σ E = W) → E.testBit x = true) := by
            intro hn hf
            obtain ⟨s', q', k1, k2⟩ := ih (E + 1) (by omega) s q (h1.c ⟨fun ⟨E', y1, y2⟩ => ⟨E', by omega, y2⟩, fun ⟨E', y1, y2, y3⟩ => ⟨E', by
              apply Classical.byContradiction
              intro w
              have : E' = E := by omega
              rw [this] at y2
              exact hn y2, y2, y3⟩⟩) (h2.c ⟨fun w E' y1 y2 => w E' (by
              apply Classical.byContradiction
              intro v
              have : E' = E := by omega
              rw [this] at y2
              exact hn y2) y2, fun w E' y1 y2 => w E' (by omega) y2⟩)
            exact ⟨s', q', wh_inl hf k1, k2⟩
          by_cases c : cvP (chM σ) 4 (rkS σ E)
          · have hnz : ¬ gI τ2 1374 0 E = 0 := fun z => (hT.z.mp z) c
            by_cases d : wvE σ E = W
            · -- one of the best
              have hs01 := h1.b
              have hq01 := h2.b
              by_cases t : E.testBit x = true
              · have hf : fX12_covered_l31 (x : Int) W τ2 s q (E : Int) = some (.inl (1, q, ((E + 1 : Nat) : Int))) := by
                  unfold fX12_covered_l31 fX12_covered_j77 fX12_covered_j88 fX12_covered_j93 fX12_covered_j108 fX12_covered_j109
                  rw [a2.i (c := 1369) (by decide), c2, hsh, if_neg (by omega), ck_x (by omega) (by omega), Int.toNat_natCast, if_neg hnz, hwo, bnk_some, if_pos d, iandshr (by omega) (by omega), if_pos (b2i_pos t), j111, j111, j111, j111]
                  rcases hs01 with w | w <;> rcases hq01 with v | v <;> rw [w, v] <;> rfl
                obtain ⟨s', q', k1, k2⟩ := ih (E + 1) (by omega) 1 q (Or.inl ⟨rfl, E, by omega, ⟨c, d⟩, t⟩) (h2.c ⟨fun w E' y1 y2 => by
                  by_cases v : E' = E
                  · rw [v]; exact t
                  · exact w E' (by omega) y2, fun w E' y1 y2 => w E' (by omega) y2⟩)
                exact ⟨s', q', wh_inl hf k1, k2⟩
              · have hf : fX12_covered_l31 (x : Int) W τ2 s q (E : Int) = some (.inl (s, 0, ((E + 1 : Nat) : Int))) := by
                  unfold fX12_covered_l31 fX12_covered_j77 fX12_covered_j88 fX12_covered_j93 fX12_covered_j108 fX12_covered_j109
                  rw [a2.i (c := 1369) (by decide), c2, hsh, if_neg (by omega), ck_x (by omega) (by omega), Int.toNat_natCast, if_neg hnz, hwo, bnk_some, if_pos d, iandshr (by omega) (by omega), if_neg (by rw [b2i_neg t]; decide), j111, j111, j111, j111]
                  rcases hs01 with w | w <;> rcases hq01 with v | v <;> rw [w, v] <;> rfl
                obtain ⟨s', q', k1, k2⟩ := ih (E + 1) (by omega) s 0 (h1.c ⟨fun ⟨E', y1, y2⟩ => ⟨E', by omega, y2⟩, fun ⟨E', y1, y2, y3⟩ => ⟨E', by
                  apply Classical.byContradiction
                  intro w
                  have : E' = E := by omega
                  rw [this] at y3
                  exact t y3, y2, y3⟩⟩) (Or.inr ⟨rfl, fun w => t (w E (by omega) ⟨c, d⟩)⟩)
                exact ⟨s', q', wh_inl hf k1, k2⟩
            · refine skip (fun z => d z.2) ?_
              unfold fX12_covered_l31
              rw [a2.i (c := 1369) (by decide), c2, hsh, if_neg (by omega), ck_x (by omega) (by omega), Int.toNat_natCast, if_neg hnz, hwo, bnk_some, if_neg d, j111]
          · refine skip (fun z => c z.1) ?_
            unfold fX12_covered_l31
            rw [a2.i (c := 1369) (by decide), c2, hsh, if_neg (by omega), ck_x (by omega) (by omega), Int.toNat_natCast, if_pos (hT.z.mpr c), j111]
      exact key (2 ^ evN σ) 0 (by omega) 0 1 (Or.inr ⟨rfl, fun ⟨E', y1, _⟩ => by omega⟩) (Or.inl ⟨rfl, fun E' y1 => by omega⟩)
    obtain ⟨s, q, w1, w2, w3⟩ := sm
    have hall : A.testBit x = true ↔ (∀ E, E < 2 ^ evN σ → (cvP (chM σ) 4 (rkS σ E) ∧ wvE σ E = W) → E.testBit x = true) := by
      rw [g7 x]
      constructor
      · intro h E y1 y2
        have := h (rkS σ E) (rkS_lt σ E) y2.1 (by rw [ws_we hC _ _ (Nat.le_refl _), ev_rk hC y1, y2.2, e])
        rw [ev_rk hC y1] at this
        exact this
      · intro h S y1 y2 y3
        exact h (evS σ S (evN σ)) (evS_lt hC S _ (Nat.le_refl _)) ⟨by rw [rk_ev hC y1]; exact y2, by rw [← ws_we hC _ _ (Nat.le_refl _), y3, e]⟩
    have hsome : U.testBit x = true ↔ (∃ E, E < 2 ^ evN σ ∧ (cvP (chM σ) 4 (rkS σ E) ∧ wvE σ E = W) ∧ E.testBit x = true) := by
      rw [g8 x]
      constructor
      · rintro ⟨S, y1, y2, y3, y4⟩
        exact ⟨evS σ S (evN σ), evS_lt hC S _ (Nat.le_refl _), ⟨by rw [rk_ev hC y1]; exact y2, by rw [← ws_we hC _ _ (Nat.le_refl _), y3, e]⟩, y4⟩
      · rintro ⟨E, y1, y2, y3⟩
        exact ⟨rkS σ E, rkS_lt σ E, y2.1, by rw [ws_we hC _ _ (Nat.le_refl _), ev_rk hC y1, y2.2, e], by rw [ev_rk hC y1]; exact y3⟩
    refine opW (r := if A.testBit x = true then 2 else b2i (U.testBit x = true)) (σ1 := τ1) (σ2 := τ2) ?_ ?_ (a2.rr hR)
    · unfold fX11_covered
      rw [c1, ck_i (by omega) (by omega), within_eq, bnkI, if_pos p, p1, bnd_some, g3, hasM_eq (by omega) (by omega), bnkI, g4, hasM_eq (by omega) (by omega), bnk_some, asN_eq b2i_b, bnk_some]
      split <;> rfl
    · unfold fX12_covered fX12_covered_j31 fX12_covered_j117
      rw [a1.i (c := 1369) (by decide), c2, ck_i (by omega) (by omega), in_eq, bnkI, if_pos p, b1, bnd_some, w1, bnk_some]
      show (if q = 0 then (if s = 0 then some (0, τ2) else some (1, τ2)) else some (2, τ2)) = _
      by_cases c : A.testBit x = true
      · rw [if_pos c, if_neg (fun z => (w3.z.mp z) (hall.mp c))]
      · rw [if_neg c, if_pos (w3.z.mpr (fun z => c (hall.mpr z)))]
        by_cases d : U.testBit x = true
        · rw [if_neg (fun z => (w2.z.mp z) (hsome.mp d)), b2i_pos d]
        · rw [if_pos (w2.z.mpr (fun z => d (hsome.mpr z))), b2i_neg d]
  · refine opW (r := -1) (σ1 := σ) (σ2 := σ) ?_ ?_ hR
    · unfold fX11_covered
      rw [c1, ck_i (by omega) (by omega), within_eq, bnkI, if_neg p]
    · unfold fX12_covered
      rw [c2, ck_i (by omega) (by omega), in_eq, bnkI, if_neg p]
