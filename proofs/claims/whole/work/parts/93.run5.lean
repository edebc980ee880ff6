/-! run and week, both sides -/
theorem VA9 {σ : St} : VA σ (fun _ => 9) := ⟨fun _ _ => .inl rfl, fun w hw => by
  rw [sumN_0 (f := fun _ => if 9 = w then (1 : Int) else 0) (hlN σ) (fun h _ => if_neg (by omega))]
  omega⟩
theorem free_m {σ : St} (hH : RH σ) : ∃ r τ', fX12_freeAll σ = some (r, τ') ∧ Ex SCm σ τ' ∧ (∀ h, h < 8 → gI τ' 1391 0 h = 9) ∧ ∃ a, VA σ a ∧ TE σ a = r ∧ ∀ b, VA σ b → TE σ b ≤ r := by
  have h8 := hH.hl.2.2.1
  have key : ∀ i k, k + i = 8 → ∀ τ1, Ex SCm σ τ1 → (∀ x, x < k → gI τ1 1391 0 x = 9) → ∃ τ', wh (fun s => fX12_freeAll_l2 s.1 s.2) (((k : Int), τ1)) = some τ' ∧ Ex SCm σ τ' ∧ ∀ x, x < 8 → gI τ' 1391 0 x = 9 := by
    intro i
    induction i with
    | zero =>
      intro k hk τ1 hE h
      refine ⟨τ1, wh_inr ?_, hE, fun x hx => h x (by omega)⟩
      show fX12_freeAll_l2 (k : Int) τ1 = _
      unfold fX12_freeAll_l2
      rw [if_pos (by omega)]
    | succ i ih =>
      intro k hk τ1 hE h
      obtain ⟨τ', k1, k2⟩ := ih (k + 1) (by omega) (sI τ1 1391 0 k 9) (hE.sI (by decide)) (fun x hx => by
        by_cases c : x = k
        · rw [c, gs]
        · rw [ii (by omega)]; exact h x (by omega))
      refine ⟨τ', wh_inl ?_ k1, k2⟩
      show fX12_freeAll_l2 (k : Int) τ1 = some (.inl (((k + 1 : Nat) : Int), sI τ1 1391 0 k 9))
      unfold fX12_freeAll_l2
      rw [if_neg (by omega), ck_x (by omega) (by omega), ck_i (by omega) (by omega), Int.toNat_natCast]; rfl
  obtain ⟨τ1, k1, k2, k3⟩ := key 8 0 (by omega) σ Ex.rf (fun x hx => by omega)
  obtain ⟨r, τ', m1, m2, m3⟩ := most_m (F := fun _ => 9) hH k2 (fun h hh => k3 h (by omega)) (fun h hh => .inl rfl)
  refine ⟨r, τ', ?_, k2.trans (m2.mono (by decide)), fun h hh => by rw [m2.i (c := 1391) (by decide)]; exact k3 h hh, ?_⟩
  · unfold fX12_freeAll fX12_freeAll_j2
    refine bnk_of k1 ?_
    unfold fX12_freeAll_j22
    rw [m1, bnd_some]
  · rcases m3 with ⟨-, q⟩ | ⟨a, q1, q2, q3, q4⟩
    · exact absurd (fun h _ => .inl rfl) (q _ VA9)
    · exact ⟨a, q1, q3, fun b hb => q4 b hb (fun h _ => .inl rfl)⟩
theorem class_run {σ : St} (hH : RH σ) (hQ : RQ σ) : ∃ σ1 a, fX2_bestRun σ = some (100000000 * TE σ1 a + KA σ1 a, σ1) ∧ Ex [306, 307, 308] σ σ1 ∧ RH σ1 ∧ RQ σ1 ∧ VA σ1 a ∧ (∀ b, VA σ1 b → 100000000 * TE σ1 b + KA σ1 b ≤ 100000000 * TE σ1 a + KA σ1 a) ∧ ∀ b, VA σ1 b → TE σ1 b ≤ TE σ1 a := by
  obtain ⟨σ1, b1, b2, b3, b4⟩ := best_run hH hQ
  obtain ⟨w1, w2, w3⟩ := hWs_ex b2 (by decide)
  obtain ⟨a, c1, c2, c3⟩ := run_best b3
  rw [w1, w3] at c2
  rw [c2] at b1
  refine ⟨σ1, a, b1, b2, b3, b4, c1, c3, fun b hb => ?_⟩
  have k1 := KA_bd b3 c1
  have k2 := KA_bd b3 hb
  have := c3 b hb
  omega
theorem rr_run {σ σ1 σ2 : St} (hR : RR σ) (h1 : Ex [306, 307, 308] σ σ1) (hH : RH σ1) (hQ : RQ σ1) (h2 : Ex SCm σ1 σ2) : RR σ2 := by
  obtain ⟨hT, hW, hS, hF, hY, hA, hL, hG, hE, hC, -, -⟩ := hR
  exact ⟨(hT.ex h1 (dj_use (by decide))).ex h2 (dj_use (by decide)), (hW.ex h1 (dj_use (by decide))).ex h2 (dj_use (by decide)), (hS.ex h1 (dj_use (by decide))).ex h2 (dj_use (by decide)), (hF.ex h1 (dj_use (by decide))).ex h2 (dj_use (by decide)), (hY.ex h1 (dj_use (by decide))).ex h2 (dj_use (by decide)), (hA.ex h1 (dj_use (by decide))).ex h2 (dj_use (by decide)), (hL.ex h1 (dj_use (by decide))).ex h2 (dj_use (by decide)), (hG.ex h1 (dj_use (by decide))).ex h2 (dj_use (by decide)), (hE.ex h1 (dj_use (by decide))).ex h2 (dj_use (by decide)), (hC.ex h1 (dj_use (by decide))).ex h2 (dj_use (by decide)), hH.ex h2 (dj_use (by decide)), hQ.ex h2 (dj_use (by decide))⟩
theorem op_47 : OP47 RR := by
  intro σ hSF hR
  have hH := hR.2.2.2.2.2.2.2.2.2.2.1
  have hQ := hR.2.2.2.2.2.2.2.2.2.2.2
  obtain ⟨σ1, a, b1, b2, b3, b4, b5, b6, b7⟩ := class_run hH hQ
  obtain ⟨r, σ2, m1, m2, m3, a', m4, m5, m6⟩ := free_m b3
  have er : r = TE σ1 a := by
    have q1 := m6 a b5
    have q2 := b7 a' m4
    omega
  have kb := KA_bd b3 b5
  have tb := TE_bd b3 b5
  refine opW (r := TE σ1 a) (σ1 := σ1) (σ2 := σ2) ?_ ?_ (rr_run hR b2 b3 b4 m2)
  · unfold fX11_run fX2_earnings
    rw [b1, bnd_some, jdivI (by omega) (by omega), show (100000000 * TE σ1 a + KA σ1 a) / 100000000 = TE σ1 a by omega, l2iI (by omega), bnd_some]
  · unfold fX12_run
    rw [m1, bnd_some, er]
def wkA (a : Nat → Nat) (h : Nat) : Int := if a h = 9 then -9 else (a h : Int)
theorem wk_inj {σ : St} {a b : Nat → Nat} {h : Nat} (ha : a h ≤ 9) (hb : b h ≤ 9) (e : wkA a h = wkA b h) : b h = a h := by
  unfold wkA at e
  by_cases c1 : a h = 9
  · rw [if_pos c1] at e
    by_cases c2 : b h = 9
    · omega
    · rw [if_neg c2] at e; omega
  · rw [if_neg c1] at e
    by_cases c2 : b h = 9
    · rw [if_pos c2] at e; omega
    · rw [if_neg c2] at e; omega
theorem wk_in {σ : St} {a : Nat → Nat} {k : Nat} {x1 : Int} (hH : RH σ) (hA : VA σ a) (hbest : ∀ b, VA σ b → 100000000 * TE σ b + KA σ b ≤ 100000000 * TE σ a + KA σ a) (hk : k < hlN σ) : ∀ i j, j + i = cnH σ k → frH σ k + j ≤ a k → ∀ τ1, Ex SCm σ τ1 → (∀ h, h < k → gI τ1 1391 0 h = wkA a h) → gI τ1 1391 0 k = ((frH σ k + j : Nat) : Int) → (∀ h, k < h → h < 8 → gI τ1 1391 0 h = 9) → ∃ y τ', wh (fun s => fX12_week_l46 x1 (TE σ a) (k : Int) s.1 s.2) ((((frH σ k + j : Nat) : Int), τ1)) = some (y, τ') ∧ Ex SCm σ τ' ∧ (∀ h, h < 8 → h ≠ k → gI τ' 1391 0 h = gI τ1 1391 0 h) ∧ (if y ≤ gI σ 302 0 k then y else -9) = wkA a k := by
  obtain ⟨e1, e2, h8, h4, h5, e6, e7, e8⟩ := hH.hl
  obtain ⟨q1, q2, q3, q4, q5, q6, q7⟩ := h4 k hk
  obtain ⟨f1, f2, f3, f4⟩ := hH.fc k hk
  have hak := hA.1 k hk
  intro i
  induction i with
  | zero =>
    intro j hj hle τ1 hE h1 h2 h3
    refine ⟨((frH σ k + j : Nat) : Int), τ1, wh_inr ?_, hE, fun _ _ _ => rfl, ?_⟩
    · show fX12_week_l46 x1 (TE σ a) (k : Int) ((frH σ k + j : Nat) : Int) τ1 = _
      unfold fX12_week_l46
      rw [ck_x (by omega) (by omega), Int.toNat_natCast, hE.i (c := 1380) (by decide), q2, if_pos (by omega)]
    · unfold wkA
      rw [if_neg (by omega), if_pos (by omega)]
  | succ i ih =>
    intro j hj hle τ1 hE h1 h2 h3
    have hval : ∀ h, h < hlN σ → gI τ1 1391 0 h = 9 ∨ gI τ1 1391 0 h = -9 ∨ ((frH σ h : Int) ≤ gI τ1 1391 0 h ∧ gI τ1 1391 0 h < (frH σ h : Int) + (cnH σ h : Int)) := by
      intro h hh
      rcases (by omega : h < k ∨ h = k ∨ k < h) with z | z | z
      · rw [h1 h z]
        unfold wkA
        have b1 := hA.1 h hh
        by_cases c : a h = 9
        · rw [if_pos c]; exact .inr (.inl rfl)
        · rw [if_neg c]; omega
      · rw [z, h2]; omega
      · exact .inl (h3 h z (by omega))
    obtain ⟨r, τ2, m1, m2, m3⟩ := most_m (F := fun h => gI τ1 1391 0 h) hH hE (fun h hh => rfl) hval
    have hE2 : Ex SCm σ τ2 := hE.trans (m2.mono (by decide))
    have tb := TE_bd hH hA
    have step : fX12_week_l46 x1 (TE σ a) (k : Int) ((frH σ k + j : Nat) : Int) τ1 = if r = TE σ a then (some (.inr ((((frH σ k + j : Nat) : Int), τ2)))) else (some (.inl ((((frH σ k + (j + 1) : Nat) : Int), sI τ2 1391 0 k (((frH σ k + (j + 1) : Nat) : Int)))))) := by
      unfold fX12_week_l46
      rw [ck_x (by omega) (by omega), Int.toNat_natCast, hE.i (c := 1380) (by decide), q2, if_neg (by omega), m1, bnd_some, ck_i (by omega) (by omega), ck_x (by omega) (by omega)]; rfl
    by_cases c : frH σ k + j = a k
    · have hX : XT σ (fun h => gI τ1 1391 0 h) a := by
        intro h hh
        rcases (by omega : h < k ∨ h = k ∨ k < h) with z | z | z
        · exact .inr (h1 h z)
        · right
          show gI τ1 1391 0 h = _
          rw [z, h2, if_neg (by omega), c]
        · exact .inl (h3 h z (by omega))
      have er : r = TE σ a := by
        rcases m3 with ⟨-, q⟩ | ⟨a', p1, p2, p3, p4⟩
        · exact absurd hX (q a hA)
        · have y1 := p4 a hA hX
          have y2 := hbest a' p1
          have y3 := KA_bd hH hA
          have y4 := KA_bd hH p1
          omega
      refine ⟨((frH σ k + j : Nat) : Int), τ2, wh_inr ?_, hE2, fun h _ _ => by rw [m2.i (c := 1391) (by decide)], ?_⟩
      · show fX12_week_l46 x1 (TE σ a) (k : Int) ((frH σ k + j : Nat) : Int) τ1 = _
        rw [step, if_pos er]
      · unfold wkA
        rw [if_pos (by omega), if_neg (by omega), c]
    · have ner : ¬ r = TE σ a := by
        intro er
        rcases m3 with ⟨p, -⟩ | ⟨a', p1, p2, p3, p4⟩
        · omega
        · have y2 := hbest a' p1
          have ag : ∀ h, h < k → a' h = a h := by
            intro h hh
            have w1 := VA_le hH hA h (by omega)
            have w2 := VA_le hH p1 h (by omega)
            refine wk_inj (σ := σ) w1 w2 ?_
            rw [← h1 h hh]
            rcases p2 h (by omega) with z | z
            · have z : gI τ1 1391 0 h = 9 := z
              rw [h1 h hh] at z
              unfold wkA at z
              by_cases c : a h = 9
              · rw [if_pos c] at z; omega
              · rw [if_neg c] at z; omega
            · exact z
          have lx := KA_lex hH hA p1 (by omega) hk ag
          have z : gI τ1 1391 0 k = 9 ∨ gI τ1 1391 0 k = (if a' k = 9 then -9 else (a' k : Int)) := p2 k hk
          rw [h2] at z
          by_cases c9 : a' k = 9
          · rw [if_pos c9] at z; omega
          · rw [if_neg c9] at z; omega
      obtain ⟨y, τ', k1, k2, k3, k4⟩ := ih (j + 1) (by omega) (by omega) (sI τ2 1391 0 k (((frH σ k + (j + 1) : Nat) : Int))) (hE2.sI (by decide)) (fun h hh => by rw [ii (by omega), m2.i (c := 1391) (by decide)]; exact h1 h hh) gs (fun h z1 z2 => by rw [ii (by omega), m2.i (c := 1391) (by decide)]; exact h3 h z1 z2)
      refine ⟨y, τ', wh_inl ?_ k1, k2, fun h z1 z2 => by rw [k3 h z1 z2, ii (by omega), m2.i (c := 1391) (by decide)], k4⟩
      show fX12_week_l46 x1 (TE σ a) (k : Int) ((frH σ k + j : Nat) : Int) τ1 = _
      rw [step, if_neg ner]
theorem wk_lp {σ : St} {a : Nat → Nat} {k0 : Nat} (hH : RH σ) (hA : VA σ a) (hbest : ∀ b, VA σ b → 100000000 * TE σ b + KA σ b ≤ 100000000 * TE σ a + KA σ a) (hk0 : k0 < hlN σ) : ∀ i k, k + i = k0 + 1 → ∀ τ1, Ex SCm σ τ1 → (∀ h, h < k → gI τ1 1391 0 h = wkA a h) → (∀ h, k ≤ h → h < 8 → gI τ1 1391 0 h = 9) → ∃ τ', wh (fun s => fX12_week_l25 (k0 : Int) (TE σ a) s.1 s.2) (((k : Int), τ1)) = some τ' ∧ Ex SCm σ τ' ∧ ∀ h, h < k0 + 1 → gI τ' 1391 0 h = wkA a h := by
  obtain ⟨e1, e2, h8, h4, h5, e6, e7, e8⟩ := hH.hl
  intro i
  induction i with
  | zero =>
    intro k hk τ1 hE h1 h2
    refine ⟨τ1, wh_inr ?_, hE, fun h hh => h1 h (by omega)⟩
    show fX12_week_l25 (k0 : Int) (TE σ a) (k : Int) τ1 = _
    unfold fX12_week_l25
    rw [if_pos (by omega)]
  | succ i ih =>
    intro k hk τ1 hE h1 h2
    obtain ⟨q1, q2, q3, q4, q5, q6, q7⟩ := h4 k (by omega)
    obtain ⟨f1, f2, f3, f4⟩ := hH.fc k (by omega)
    have hak := hA.1 k (by omega)
    obtain ⟨y, τ2, w1, w2, w3, w4⟩ := wk_in (k := k) (x1 := (k0 : Int)) hH hA hbest (by omega) (cnH σ k) 0 (by omega) (by omega) (sI τ1 1391 0 k ((frH σ k + 0 : Nat) : Int)) (hE.sI (by decide)) (fun h hh => by rw [ii (by omega)]; exact h1 h hh) gs (fun h z1 z2 => by rw [ii (by omega)]; exact h2 h (by omega) z2)
    obtain ⟨τ', k1, k2⟩ := ih (k + 1) (by omega) (sI τ2 1391 0 k (wkA a k)) (w2.sI (by decide)) (fun h hh => by
      by_cases c : h = k
      · rw [c, gs]
      · rw [ii (by omega), w3 h (by omega) c, ii (by omega)]; exact h1 h (by omega)) (fun h z1 z2 => by
      rw [ii (by omega), w3 h z2 (by omega), ii (by omega)]; exact h2 h (by omega) z2)
    refine ⟨τ', wh_inl ?_ k1, k2⟩
    show fX12_week_l25 (k0 : Int) (TE σ a) (k : Int) τ1 = some (.inl (((k + 1 : Nat) : Int), sI τ2 1391 0 k (wkA a k)))
    unfold fX12_week_l25
    rw [if_neg (by omega), ck_x (by omega) (by omega), ck_x (by omega) (by omega), Int.toNat_natCast, hE.i (c := 1379) (by decide), q1, f1]
    unfold fX12_week_j46
    refine bnk_of w1 ?_
    show fX12_week_j79 (k0 : Int) (TE σ a) (k : Int) y τ2 = _
    unfold fX12_week_j79 fX12_week_j102
    rw [ck_x (by omega) (by omega), Int.toNat_natCast, w2.i (c := 1380) (by decide), q2, ← w4]
    by_cases c : y ≤ gI σ 302 0 k
    · rw [if_pos c, if_pos c, ck_x (by omega) (by omega), ck_i (by omega) (by omega)]; rfl
    · rw [if_neg c, if_neg c, ck_x (by omega) (by omega), ck_i (by omega) (by omega)]; rfl
theorem tens_bd : ∀ h : Fin 8, (1 : Int) ≤ tens (7 - (h : Nat)) ∧ tens (7 - (h : Nat)) ≤ 10000000 := by decide
theorem tens_s (k : Nat) : tens (k + 1) = tens k * 10 := by
  unfold tens
  exact Int.pow_succ 10 k
/-- the class's figures, one behind another taken off -/
theorem week_lp {τ : St} {V : Int} (hV : 0 ≤ V ∧ V < 9223372036854775808) {k0 : Nat} (hk : k0 ≤ 7) : wh (fun s => fX2_bestWeek_l9 (k0 : Int) τ s.1 s.2) ((V, 7)) = some (V / tens (7 - k0)) := by
  have tp : ∀ k, 0 < tens k := fun k => by
    unfold tens
    exact Int.pow_pos (by decide)
  have e0 : V / tens 0 = V := by rw [show tens 0 = 1 from rfl, Int.ediv_one]
  have q : wh (fun s => fX2_bestWeek_l9 (k0 : Int) τ s.1 s.2) ((V / tens 0, 7 - ((0 : Nat) : Int))) = some (V / tens (7 - k0)) := by
    refine wh_seq (f := fun s => fX2_bestWeek_l9 (k0 : Int) τ s.1 s.2) (r := V / tens (7 - k0)) (7 - k0) (fun k => (V / tens k, 7 - (k : Int))) (fun k hk1 => ?_) ?_
    · show fX2_bestWeek_l9 (k0 : Int) τ (V / tens k) (7 - (k : Int)) = some (.inl ((V / tens (k + 1), 7 - ((k + 1 : Nat) : Int))))
      have d1 : 0 ≤ V / tens k := Int.ediv_nonneg hV.1 (Int.le_of_lt (tp k))
      have d2 : V / tens k ≤ V := Int.ediv_le_self _ hV.1
      have d3 : V / tens k / 10 = V / tens (k + 1) := by rw [tens_s, Int.ediv_ediv_of_nonneg (Int.le_of_lt (tp k))]
      unfold fX2_bestWeek_l9
      rw [if_neg (by omega), ck_i (by omega) (by omega), jdivI (by omega) (by omega), d3, show 7 - (k : Int) + (-1) = 7 - ((k + 1 : Nat) : Int) by omega]
    · show fX2_bestWeek_l9 (k0 : Int) τ (V / tens (7 - k0)) (7 - ((7 - k0 : Nat) : Int)) = some (.inr (V / tens (7 - k0)))
      unfold fX2_bestWeek_l9
      rw [if_pos (by omega)]
  rw [e0] at q
  exact q
theorem op_48 : OP48 RR := by
  intro a1 ha1 σ hSF hR
  have hH := hR.2.2.2.2.2.2.2.2.2.2.1
  have hQ := hR.2.2.2.2.2.2.2.2.2.2.2
  obtain ⟨e1, e2, h8, h4, h5, e6, e7, e8⟩ := hH.hl
  by_cases p : 0 ≤ a1 ∧ a1 ≤ gI σ 300 0 0 - 1
  · obtain ⟨k0, rfl⟩ := Int.eq_ofNat_of_zero_le p.1
    have hk0 : k0 < hlN σ := by omega
    obtain ⟨σ1, a, b1, b2, b3, b4, b5, b6, b7⟩ := class_run hH hQ
    obtain ⟨r, σ2, m1, m2, m3, a', m4, m5, m6⟩ := free_m b3
    have er : r = TE σ1 a := by
      have q1 := m6 a b5
      have q2 := b7 a' m4
      omega
    have kb := KA_bd b3 b5
    have tb := TE_bd b3 b5
    obtain ⟨w1, w2, w3⟩ := hWs_ex b2 (by decide)
    have hk1 : k0 < hlN σ1 := by rw [w1]; exact hk0
    obtain ⟨τ', l1, l2, l3⟩ := wk_lp (k0 := k0) b3 b5 b6 hk1 (k0 + 1) 0 (by omega) σ2 m2 (fun h hh => by omega) (fun h _ z => m3 h z)
    have hdig := KA_dig b3 b5 tb.1 (h := k0) (by omega)
    obtain ⟨t1, t2⟩ := tens_bd ⟨k0, by omega⟩
    have t1 : (1 : Int) ≤ tens (7 - k0) := t1
    have t2 : tens (7 - k0) ≤ 10000000 := t2
    have dle := dg_bd b3 b5 k0
    have hdg : dgA σ1 a k0 = 9 - (a k0 : Int) := if_pos hk1
    have hdiv : 0 ≤ (100000000 * TE σ1 a + KA σ1 a) / tens (7 - k0) ∧ (100000000 * TE σ1 a + KA σ1 a) / tens (7 - k0) ≤ 100000000 * TE σ1 a + KA σ1 a := ⟨Int.ediv_nonneg (by omega) (by omega), Int.ediv_le_self _ (by omega)⟩
    have hale := VA_le b3 b5 k0 hk1
    refine opW (r := wkA a k0) (σ1 := σ1) (σ2 := τ') ?_ ?_ (rr_run hR b2 b3 b4 l2)
    · unfold fX11_week
      rw [ck_i (by omega) (by omega), within_eq, bnkI, if_pos p]
      unfold fX2_bestWeek
      rw [b1, bnd_some]
      unfold fX2_bestWeek_j9
      rw [week_lp (by omega) (by omega), bnk_some]
      unfold fX2_bestWeek_j27
      rw [jremI (by omega) (by omega), hdig, l2iI (by omega), hdg]
      unfold wkA
      by_cases c : a k0 = 9
      · rw [if_pos c, if_pos (by omega), bnd_some]
      · rw [if_neg c, if_neg (by omega), ck_i (by omega) (by omega), bnd_some, show 9 - (9 - (a k0 : Int)) = (a k0 : Int) by omega]
    · have g8 : gI σ1 1378 0 0 = gI σ 300 0 0 := by rw [b2.i (c := 1378) (by decide), e2, e1]
      unfold fX12_week
      rw [g8, ck_i (by omega) (by omega), in_eq, bnkI, if_pos p, m1, bnd_some, er]
      unfold fX12_week_j25
      refine bnk_of l1 ?_
      unfold fX12_week_j109
      rw [ck_x (by omega) (by omega), Int.toNat_natCast, l3 k0 (by omega)]
  · refine opW (r := -1) (σ1 := σ) (σ2 := σ) ?_ ?_ hR
    · unfold fX11_week
      rw [ck_i (by omega) (by omega), within_eq, bnkI, if_neg p]
    · have g8 : gI σ 1378 0 0 = gI σ 300 0 0 := by rw [e2, e1]
      unfold fX12_week
      rw [g8, ck_i (by omega) (by omega), in_eq, bnkI, if_neg p]
