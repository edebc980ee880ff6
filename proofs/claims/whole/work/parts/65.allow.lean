/-! fault, bars, allowed -/
theorem op_26 : OP26 RR := by
  intro a1 ha1 σ hSF hR
  have hL := hR.2.2.2.2.2.2.1
  by_cases p : 0 ≤ a1 ∧ a1 < (gN σ 6 : Int)
  · obtain ⟨e1, e2, e3, e4, hl⟩ := ruP hL p
    obtain ⟨i, rfl⟩ := Int.eq_ofNat_of_zero_le p.1
    rw [Int.toNat_natCast] at e1 e3 hl
    obtain ⟨tb, tc, tm⟩ := hl.txt (by omega)
    obtain ⟨r, σ1, τ1, r1, r2, r3, r4, r5, r6⟩ := read_cm (V := False) (σ := σ) (τ := σ) tb tc tm (fun z => z.elim)
    obtain ⟨rb, σ2, τ2, q1, q2, q3, q4, q5, q6⟩ := read_cm (V := False) (σ := σ) (τ := σ1) tb tc (tm.ex r3 (by decide) (by decide)) (fun z => z.elim)
    rw [r1] at q1
    have hr : rb = r := (congrArg Prod.fst (Option.some.inj q1)).symm
    rw [hr] at q2
    have hi3 : fX12_isRule (i : Int) σ1 = fX12_isRule (i : Int) σ := by
      unfold fX12_isRule
      rw [r3.i (c := 1337) (by decide)]
    refine opW (r := r) (σ1 := σ1) (σ2 := τ2) ?_ ?_ (((Ag.of r3 (by decide)).trans (Ag.of q4 (by decide))).rr hR)
    · unfold fX11_fault
      rw [e1, bnk_some, mop_s, ck_n e3, r1, bnd_some]
    · unfold fX12_fault
      rw [hi3, e2, bnk_some, if_neg (by decide), q2, bnd_some]
  · obtain ⟨e1, e2⟩ := ruN hL p
    refine opW (r := -1) (σ1 := σ) (σ2 := σ) ?_ ?_ hR
    · unfold fX11_fault; rw [e1]; rfl
    · unfold fX12_fault; rw [e2]; rfl
theorem isStory_ag {σ τ : St} (h : Ag σ τ) (x : Int) : fX12_isStory x τ = fX12_isStory x σ := by
  unfold fX12_isStory
  rw [h.i (c := 1326) (by decide)]
theorem op_28 : OP28 RR := by
  intro a1 a2 a3 ha1 ha2 ha3 σ hSF hR
  have hY := hR.2.2.2.2.1
  by_cases p : 0 ≤ a1 ∧ a1 < (gN σ 8 : Int)
  · obtain ⟨e1, e2, e3, e4, hi⟩ := stP hY p
    obtain ⟨i, rfl⟩ := Int.eq_ofNat_of_zero_le p.1
    rw [Int.toNat_natCast] at e1 e3 hi
    by_cases p2 : 0 ≤ a2 ∧ a2 ≤ 4
    · by_cases p3 : 0 ≤ a3 ∧ a3 ≤ 416
      · obtain ⟨r, r1, r2, r3⟩ := bar_ex (land := a2) hR e3 p3
        obtain ⟨σ1, c1, c2⟩ := r2 σ Ag.rf
        have g1 : Ag σ σ1 := Ag.of c2 (by decide)
        obtain ⟨σ2, m1, m2⟩ := r3 σ1 g1.m
        refine opW (r := r) (σ1 := σ1) (σ2 := σ2) ?_ ?_ ((g1.trans (Ag.of m2 (by decide))).rr hR)
        · unfold fX11_bars
          rw [e1, bnk_some, mop_s, ck_n e3, c_isLand_eq, bnkI, if_pos p2, c_isDay_eq, bnkI, if_pos p3, c1, bnd_some]
        · unfold fX12_bars fX12_mayAsk
          rw [isStory_ag g1, e2, bnk_some, if_neg (by decide), m_isLand_eq, bnkI, if_pos p2, m_isDay_eq, bnkI, if_pos p3, bnk_some, if_pos (by decide), m1, bnd_some]
      · refine opW (r := -2) (σ1 := σ) (σ2 := σ) ?_ ?_ hR
        · unfold fX11_bars
          rw [e1, bnk_some, mop_s, ck_n e3, c_isLand_eq, bnkI, if_pos p2, c_isDay_eq, bnkI, if_neg p3]
        · unfold fX12_bars fX12_mayAsk
          rw [e2, bnk_some, if_neg (by decide), m_isLand_eq, bnkI, if_pos p2, m_isDay_eq, bnkI, if_neg p3, bnk_some, if_neg (by decide)]
    · refine opW (r := -1) (σ1 := σ) (σ2 := σ) ?_ ?_ hR
      · unfold fX11_bars
        rw [e1, bnk_some, mop_s, ck_n e3, c_isLand_eq, bnkI, if_neg p2]
      · unfold fX12_bars fX12_mayAsk
        rw [e2, bnk_some, if_neg (by decide), m_isLand_eq, bnkI, if_neg p2, bnk_some, if_neg (by decide)]
  · obtain ⟨e1, e2⟩ := stN hY p
    refine opW (r := -1) (σ1 := σ) (σ2 := σ) ?_ ?_ hR
    · unfold fX11_bars; rw [e1]; rfl
    · unfold fX12_bars fX12_mayAsk; rw [e2]; rfl
/-- the first right -/
def rgB (σ : St) (s l d : Int) (k : Nat) : Bool := decide (gI σ 600 k 0 = s ∧ (gI σ 601 k 0).toNat.testBit l.toNat = true ∧ (gI σ 602 k 0 ≤ d ∧ d ≤ gI σ 603 k 0) ∧ ¬ gI σ 604 k 0 ≤ 0)
def rgV (σ : St) (s l d : Int) : Int := fstF (rgB σ s l d) 0 (gN σ 5)
theorem rgV_bd {σ : St} (hG : RG σ) (s l d : Int) : rgV σ s l d = -9 ∨ (0 ≤ rgV σ s l d ∧ rgV σ s l d < (gN σ 5 : Int)) := by
  have := fstF_bd (rgB σ s l d) 0 (gN σ 5)
  unfold rgV
  omega
theorem serves_c {σ : St} {s l d : Int} {k : Nat} (h : RG1 σ k) (hl : 0 ≤ l ∧ l ≤ 4) : fX5_serves k s l d σ = some (b2i (rgB σ s l d k = true)) := by
  obtain ⟨q1, q2, q3, q4, q5, q6, r1, r2, r3, r4, r5⟩ := h
  unfold fX5_serves rgB
  by_cases c1 : gI σ 600 k 0 = s
  · rw [if_pos c1, hasMI (by omega) (by omega), bnkI]
    by_cases c2 : (gI σ 601 k 0).toNat.testBit l.toNat = true
    · rw [if_pos c2, within_eq, bnkI]
      by_cases c3 : gI σ 602 k 0 ≤ d ∧ d ≤ gI σ 603 k 0
      · rw [if_pos c3]
        by_cases c4 : gI σ 604 k 0 ≤ 0
        · rw [if_pos c4, b2i_neg (fun z => (of_decide_eq_true z).2.2.2 c4)]
        · rw [if_neg c4, b2i_pos (decide_eq_true ⟨c1, c2, c3, c4⟩)]
      · rw [if_neg c3, b2i_neg (fun z => c3 (of_decide_eq_true z).2.2.1)]
    · rw [if_neg c2, b2i_neg (fun z => c2 (of_decide_eq_true z).2.1)]
  · rw [if_neg c1, b2i_neg (fun z => c1 (of_decide_eq_true z).1)]
theorem wh_fstR {β : Type} {f : Int → Option (Int ⊕ (Int ⊕ Unit))} (P : Nat → Bool) (n : Nat) (g : Int → Option β) (z : Option β) (hs : ∀ i, i < n → f (i : Int) = if P i = true then some (.inr (.inl (i : Int))) else some (.inl ((i : Int) + 1))) (he : f (n : Int) = some (.inr (.inr ()))) : bnk (wh f 0) (fun e => Sum.elim (fun a => g a) (fun _ => z) e) = if fstF P 0 n = -9 then z else g (fstF P 0 n) := by
  have key : ∀ k i, i + k = n → bnk (wh f (i : Int)) (fun e => Sum.elim (fun a => g a) (fun _ => z) e) = if fstF P i k = -9 then z else g (fstF P i k) := by
    intro k
    induction k with
    | zero => intro i hi; have : i = n := by omega
              subst this; rw [wh_inr he]; rfl
    | succ k ih =>
      intro i hi
      have h0 := hs i (by omega)
      unfold fstF
      by_cases c : P i = true
      · rw [if_pos c] at h0
        rw [if_pos c, wh_inr h0, if_neg (by omega)]; rfl
      · rw [if_neg c] at h0
        rw [if_neg c, wh_stp h0]
        exact ih (i + 1) (by omega)
  exact key n 0 (by omega)
theorem right_c {σ : St} {s l d : Int} (hG : RG σ) (hl : 0 ≤ l ∧ l ≤ 4) : fX11_firstRight s l d σ = some (if rgV σ s l d = -9 then none else some (rgV σ s l d).toNat) := by
  obtain ⟨g1, g2, g3, g4, g5⟩ := id hG
  have hb := rgV_bd hG s l d
  unfold fX11_firstRight fX11_firstRight_j3
  have hw := wh_fstR (f := fun z => fX11_firstRight_l3 s l d σ z) (rgB σ s l d) (gN σ 5) (fun a => fX11_firstRight_j28 a σ) (fX11_firstRight_j42 σ) ?_ ?_
  · refine hw.trans ?_
    show (if rgV σ s l d = -9 then _ else _) = _
    by_cases c : rgV σ s l d = -9
    · rw [if_pos c, if_pos c]; rfl
    · rw [if_neg c, if_neg c]
      show fX11_firstRight_j28 (rgV σ s l d) σ = _
      unfold fX11_firstRight_j28
      rw [ck_x (by omega) (by omega), lt_def, (g4 (rgV σ s l d).toNat (by omega)).1]
  · intro i hi
    show fX11_firstRight_l3 s l d σ (i : Int) = _
    unfold fX11_firstRight_l3
    rw [g2, if_neg (by omega), ck_x (by omega) (by omega), lt_def, Int.toNat_natCast, (g4 i hi).1, mop_s, ck_n hi, serves_c (g4 i hi) hl, bnkI, ck_i (by omega) (by omega)]
  · show fX11_firstRight_l3 s l d σ _ = _
    unfold fX11_firstRight_l3
    rw [g2, if_pos (by omega)]
theorem right_m {σ : St} {s l d : Int} (hG : RG σ) (hl : 0 ≤ l ∧ l ≤ 4) : fX12_rightTo s l d σ = some (rgV σ s l d) := by
  obtain ⟨g1, g2, g3, g4, g5⟩ := id hG
  unfold fX12_rightTo fX12_rightTo_j3 fX12_rightTo_j72 fX12_rightTo_j81 rgV
  refine wh_fst _ (gN σ 5) (fun i hi => ?_) ?_
  · obtain ⟨q1, q2, q3, q4, q5, q6, r1, r2, r3, r4, r5⟩ := g4 i hi
    show fX12_rightTo_l3 s l d σ (i : Int) = _
    unfold fX12_rightTo_l3 fX12_rightTo_j75 rgB
    rw [g1, if_neg (by omega), ck_x (by omega) (by omega), Int.toNat_natCast, q2, q3, q4, q5, q6, ck_i (by omega) (by omega)]
    by_cases c1 : gI σ 600 i 0 = s
    · rw [if_pos c1, ck_x (by omega) (by omega), iandshrI (by omega) (by omega)]
      by_cases c2 : (gI σ 601 i 0).toNat.testBit l.toNat = true
      · rw [if_pos (b2i_pos c2), ck_x (by omega) (by omega), ck_x (by omega) (by omega), in_eq, bnkI]
        by_cases c3 : gI σ 602 i 0 ≤ d ∧ d ≤ gI σ 603 i 0
        · rw [if_pos c3, ck_x (by omega) (by omega)]
          by_cases c4 : gI σ 604 i 0 ≤ 0
          · rw [if_pos c4, if_neg (fun z => (of_decide_eq_true z).2.2.2 c4)]
          · rw [if_neg c4, if_pos (decide_eq_true ⟨c1, c2, c3, c4⟩)]
        · rw [if_neg c3, if_neg (fun z => c3 (of_decide_eq_true z).2.2.1)]
      · rw [if_neg (by rw [b2i_neg c2]; decide), if_neg (fun z => c2 (of_decide_eq_true z).2.1)]
    · rw [if_neg c1, if_neg (fun z => c1 (of_decide_eq_true z).1)]
  · show fX12_rightTo_l3 s l d σ _ = _
    unfold fX12_rightTo_l3
    rw [g1, if_pos (by omega)]
theorem rgV_ag {σ τ : St} (h : Ag σ τ) (s l d : Int) : rgV τ s l d = rgV σ s l d := by
  unfold rgV
  rw [h.n]
  apply fstF_c
  intro j _ _
  unfold rgB
  rw [h.i (c := 600) (by decide), h.i (c := 601) (by decide), h.i (c := 602) (by decide), h.i (c := 603) (by decide), h.i (c := 604) (by decide)]
/-- whether there is a right, or none is wanted -/
def licB (σ : St) (i : Nat) (l d : Int) : Bool := decide (gI σ 1348 0 (gI σ 900 i 0).toNat = 0 ∨ rgV σ (gI σ 900 i 0) l d ≠ -9)
theorem lic_c {σ : St} {i : Nat} {l d : Int} (hG : RG σ) (hi : RY1 σ i) (hl : 0 ≤ l ∧ l ≤ 4) : fX11_isLicensed (gI σ 900 i 0) l d σ = some (b2i (licB σ i l d = true)) := by
  obtain ⟨y1, y2, y3, y4, y5, y6, y7, y8, z1, -⟩ := hi
  obtain ⟨s, hs⟩ := Int.eq_ofNat_of_zero_le z1.1
  have hb := rgV_bd hG (gI σ 900 i 0) l d
  obtain ⟨h1, h2⟩ := hG.2.2.2.2.1.has (k := s) (by omega) (by omega)
  unfold fX11_isLicensed licB
  rw [right_c hG hl]
  rw [hs] at hb ⊢
  rw [h1, bnk_some, bnk_some, Int.toNat_natCast]
  by_cases c : gI σ 1348 0 s = 0
  · rw [if_pos c, b2i_pos (by simp [c])]
  · rw [if_neg c]
    by_cases c2 : rgV σ (s : Int) l d = -9
    · rw [if_pos c2, mop_n, b2i_neg (by simp [c, c2])]
    · rw [if_neg c2, mop_s, ck_n (by omega), b2i_pos (by simp [c2])]
theorem licB_ag {σ τ : St} (h : Ag σ τ) : licB τ = licB σ := by
  funext i l d
  unfold licB
  rw [h.i (c := 900) (by decide), h.i (c := 1348) (by decide), rgV_ag h]
theorem rightTo_ag {σ τ : St} (h : AgM σ τ) (s l d : Int) : fX12_rightTo s l d τ = fX12_rightTo s l d σ := by
  unfold fX12_rightTo fX12_rightTo_j3 fX12_rightTo_j72 fX12_rightTo_j81
  have e : (fun z => fX12_rightTo_l3 s l d τ z) = (fun z => fX12_rightTo_l3 s l d σ z) := by
    funext z
    unfold fX12_rightTo_l3 fX12_rightTo_j75
    rw [h.i (c := 1349) (by decide), h.i (c := 1350) (by decide), h.i (c := 1351) (by decide), h.i (c := 1352) (by decide), h.i (c := 1353) (by decide), h.i (c := 1354) (by decide)]
  rw [e]
theorem allow_m {σ τ : St} {i : Nat} {l d : Int} (hR : RR σ) (ha : AgM σ τ) (hi : i < gN σ 8) (hl : 0 ≤ l ∧ l ≤ 4) : fX12_isAllowed (i : Int) l d τ = if licB σ i l d = true then bnd (fX12_barOf (i : Int) l d τ) (fun r4 σ6 => if r4 = (-9) then (some (1, σ6)) else (some (0, σ6))) else some (0, τ) := by
  have hG := hR.2.2.2.2.2.2.2.1
  obtain ⟨y1, y2, y3, y4, y5, y6, y7, y8, z1, -⟩ := hR.2.2.2.2.1.2.2.2.1 i hi
  have h8 := hR.2.2.2.2.1.2.2.1
  unfold fX12_isAllowed fX12_isAllowed_j31 fX12_isAllowed_j36 licB
  rw [ck_x (by omega) (by omega), Int.toNat_natCast, ha.i (c := 1327) (by decide), y2, ck_x (by omega) (by omega), ha.i (c := 1348) (by decide), rightTo_ag ha, right_m hG hl, bnk_some]
  by_cases c : gI σ 1348 0 (gI σ 900 i 0).toNat = 0
  · rw [if_pos c, if_neg (by decide), if_pos (by simp [c])]
  · rw [if_neg c, ck_x (by omega) (by omega)]
    by_cases c2 : rgV σ (gI σ 900 i 0) l d = -9
    · rw [if_pos c2, if_pos rfl, if_neg (by simp [c, c2])]
    · rw [if_neg c2, if_neg (by decide), if_pos (by simp [c2])]
theorem op_32 : OP32 RR := by
  intro a1 a2 a3 ha1 ha2 ha3 σ hSF hR
  have hY := hR.2.2.2.2.1
  by_cases p : 0 ≤ a1 ∧ a1 < (gN σ 8 : Int)
  · obtain ⟨e1, e2, e3, e4, hi⟩ := stP hY p
    obtain ⟨i, rfl⟩ := Int.eq_ofNat_of_zero_le p.1
    rw [Int.toNat_natCast] at e1 e3 hi
    by_cases p2 : 0 ≤ a2 ∧ a2 ≤ 4
    · by_cases p3 : 0 ≤ a3 ∧ a3 ≤ 416
      · have hlc := lic_c (d := a3) hR.2.2.2.2.2.2.2.1 hi p2
        by_cases c : licB σ i a2 a3 = true
        · obtain ⟨r, r1, r2, r3⟩ := bar_ex (land := a2) hR e3 p3
          obtain ⟨σ1, c1, c2⟩ := r2 σ Ag.rf
          have g1 : Ag σ σ1 := Ag.of c2 (by decide)
          obtain ⟨σ2, m1, m2⟩ := r3 σ1 g1.m
          refine opW (r := if r = -9 then 1 else 0) (σ1 := σ1) (σ2 := σ2) ?_ ?_ ((g1.trans (Ag.of m2 (by decide))).rr hR)
          · unfold fX11_allowed fX11_allowed_j62 fX11_allowed_j63
            rw [e1, bnk_some, mop_s, ck_n e3, c_isLand_eq, bnkI, if_pos p2, c_isDay_eq, bnkI, if_pos p3, hlc, bnkI, if_pos c, c1, bnd_some]
            by_cases d : r = -9
            · rw [if_pos d, if_pos d, ck_b (Or.inr rfl), asN_eq (Or.inr rfl), bnk_some]
            · rw [if_neg d, if_neg d, ck_b (Or.inl rfl), asN_eq (Or.inl rfl), bnk_some]
          · unfold fX12_allowed fX12_mayAsk
            rw [isStory_ag g1, e2, bnk_some, if_neg (by decide), m_isLand_eq, bnkI, if_pos p2, m_isDay_eq, bnkI, if_pos p3, bnk_some, if_pos (by decide), allow_m hR g1.m e3 p2, if_pos c, m1, bnd_some]
            by_cases d : r = -9
            · rw [if_pos d, if_pos d, bnd_some, if_neg (by decide)]
            · rw [if_neg d, if_neg d, bnd_some, if_pos rfl]
        · refine opW (r := 0) (σ1 := σ) (σ2 := σ) ?_ ?_ hR
          · unfold fX11_allowed fX11_allowed_j62 fX11_allowed_j63
            rw [e1, bnk_some, mop_s, ck_n e3, c_isLand_eq, bnkI, if_pos p2, c_isDay_eq, bnkI, if_pos p3, hlc, bnkI, if_neg c, ck_b (Or.inl rfl), asN_eq (Or.inl rfl), bnk_some]
          · unfold fX12_allowed fX12_mayAsk
            rw [e2, bnk_some, if_neg (by decide), m_isLand_eq, bnkI, if_pos p2, m_isDay_eq, bnkI, if_pos p3, bnk_some, if_pos (by decide), allow_m hR AgM.rf e3 p2, if_neg c, bnd_some, if_pos rfl]
      · refine opW (r := -2) (σ1 := σ) (σ2 := σ) ?_ ?_ hR
        · unfold fX11_allowed
          rw [e1, bnk_some, mop_s, ck_n e3, c_isLand_eq, bnkI, if_pos p2, c_isDay_eq, bnkI, if_neg p3]
        · unfold fX12_allowed fX12_mayAsk
          rw [e2, bnk_some, if_neg (by decide), m_isLand_eq, bnkI, if_pos p2, m_isDay_eq, bnkI, if_neg p3, bnk_some, if_neg (by decide)]
    · refine opW (r := -1) (σ1 := σ) (σ2 := σ) ?_ ?_ hR
      · unfold fX11_allowed
        rw [e1, bnk_some, mop_s, ck_n e3, c_isLand_eq, bnkI, if_neg p2]
      · unfold fX12_allowed fX12_mayAsk
        rw [e2, bnk_some, if_neg (by decide), m_isLand_eq, bnkI, if_neg p2, bnk_some, if_neg (by decide)]
  · obtain ⟨e1, e2⟩ := stN hY p
    refine opW (r := -1) (σ1 := σ) (σ2 := σ) ?_ ?_ hR
    · unfold fX11_allowed; rw [e1]; rfl
    · unfold fX12_allowed fX12_mayAsk; rw [e2]; rfl
