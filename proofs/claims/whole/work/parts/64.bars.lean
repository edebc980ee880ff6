/-! what may change without a trace; which rule bars -/
def bC : List Nat := cRT ++ cRW ++ cRS ++ cRF ++ cRY ++ cRA ++ cRL_ ++ cRG ++ cRE ++ cRC ++ cRH ++ cRQ
def Ag (σ τ : St) : Prop := ∃ S, dj bC S = true ∧ Ex S σ τ
theorem Ag.rf {σ : St} : Ag σ σ := ⟨[], by decide, Ex.rf⟩
theorem Ag.of {S : List Nat} {σ τ : St} (h : Ex S σ τ) (hd : dj bC S = true) : Ag σ τ := ⟨S, hd, h⟩
theorem Ag.trans {σ τ υ : St} (h1 : Ag σ τ) (h2 : Ag τ υ) : Ag σ υ := by
  obtain ⟨S1, d1, e1⟩ := h1
  obtain ⟨S2, d2, e2⟩ := h2
  refine ⟨S1 ++ S2, ?_, (e1.mono (fun c hc => List.mem_append_left _ hc)).trans (e2.mono (fun c hc => List.mem_append_right _ hc))⟩
  unfold dj
  rw [List.all_eq_true]
  intro c hc
  have a1 := dj_use d1 c hc
  have a2 := dj_use d2 c hc
  simp [a1, a2]
theorem Ag.i {σ τ : St} (h : Ag σ τ) {c : Nat} (hc : bC.contains c = true) (j e : Nat) : gI τ c j e = gI σ c j e := by
  obtain ⟨S, d, e1⟩ := h
  exact e1.i (dj_use d c (List.contains_iff_mem.mp hc)) j e
theorem Ag.p {σ τ : St} (h : Ag σ τ) {c : Nat} (hc : bC.contains c = true) (j e : Nat) : gP τ c j e = gP σ c j e := by
  obtain ⟨S, d, e1⟩ := h
  exact e1.p (dj_use d c (List.contains_iff_mem.mp hc)) j e
theorem Ag.n {σ τ : St} (h : Ag σ τ) (K : Nat) : gN τ K = gN σ K := by
  obtain ⟨S, d, e1⟩ := h
  exact e1.n K
theorem Ag.rr {σ τ : St} (h : Ag σ τ) (hR : RR σ) : RR τ := by
  obtain ⟨S, d, hx⟩ := h
  have hs := dj_use d
  obtain ⟨hT, hW, hS, hF, hY, hA, hL, hG, hE, hC, hH, hQ⟩ := hR
  refine ⟨hT.ex hx (fun c hc => hs c ?_), hW.ex hx (fun c hc => hs c ?_), hS.ex hx (fun c hc => hs c ?_), hF.ex hx (fun c hc => hs c ?_), hY.ex hx (fun c hc => hs c ?_), hA.ex hx (fun c hc => hs c ?_), hL.ex hx (fun c hc => hs c ?_), hG.ex hx (fun c hc => hs c ?_), hE.ex hx (fun c hc => hs c ?_), hC.ex hx (fun c hc => hs c ?_), hH.ex hx (fun c hc => hs c ?_), hQ.ex hx (fun c hc => hs c ?_)⟩
  all_goals (unfold bC; simp only [List.mem_append, hc, true_or, or_true])
/-- the same, for what the model reads: the class's showings may differ -/
def bCM : List Nat := bC.filter (fun c => c != 604)
def AgM (σ τ : St) : Prop := ∃ S, dj bCM S = true ∧ Ex S σ τ
theorem AgM.rf {σ : St} : AgM σ σ := ⟨[], by decide, Ex.rf⟩
theorem AgM.of {S : List Nat} {σ τ : St} (h : Ex S σ τ) (hd : dj bCM S = true) : AgM σ τ := ⟨S, hd, h⟩
theorem dj_sub {a b S : List Nat} (h : dj a S = true) (hs : ∀ c, c ∈ b → c ∈ a) : dj b S = true := by
  unfold dj
  rw [List.all_eq_true]
  intro c hc
  have := dj_use h c (hs c hc)
  simp [this]
theorem dj_app {a S1 S2 : List Nat} (h1 : dj a S1 = true) (h2 : dj a S2 = true) : dj a (S1 ++ S2) = true := by
  unfold dj
  rw [List.all_eq_true]
  intro c hc
  have a1 := dj_use h1 c hc
  have a2 := dj_use h2 c hc
  simp [a1, a2]
theorem AgM.trans {σ τ υ : St} (h1 : AgM σ τ) (h2 : AgM τ υ) : AgM σ υ := by
  obtain ⟨S1, d1, e1⟩ := h1
  obtain ⟨S2, d2, e2⟩ := h2
  exact ⟨S1 ++ S2, dj_app d1 d2, (e1.mono (fun c hc => List.mem_append_left _ hc)).trans (e2.mono (fun c hc => List.mem_append_right _ hc))⟩
theorem Ag.m {σ τ : St} (h : Ag σ τ) : AgM σ τ := by
  obtain ⟨S, d, e⟩ := h
  exact ⟨S, dj_sub d (fun c hc => (List.mem_filter.mp hc).1), e⟩
theorem AgM.i {σ τ : St} (h : AgM σ τ) {c : Nat} (hc : bCM.contains c = true) (j e : Nat) : gI τ c j e = gI σ c j e := by
  obtain ⟨S, d, e1⟩ := h
  exact e1.i (dj_use d c (List.contains_iff_mem.mp hc)) j e
theorem AgM.p {σ τ : St} (h : AgM σ τ) {c : Nat} (hc : bCM.contains c = true) (j e : Nat) : gP τ c j e = gP σ c j e := by
  obtain ⟨S, d, e1⟩ := h
  exact e1.p (dj_use d c (List.contains_iff_mem.mp hc)) j e
theorem AgM.n {σ τ : St} (h : AgM σ τ) (K : Nat) : gN τ K = gN σ K := by
  obtain ⟨S, d, e1⟩ := h
  exact e1.n K
theorem sub_all {a b : List Nat} (h : a.all (fun c => b.contains c) = true) : ∀ c, c ∈ a → c ∈ b := fun c hc => List.contains_iff_mem.mp (List.all_eq_true.mp h c hc)
theorem AgM.rr {σ τ : St} (h : AgM σ τ) (hR : RR σ) : RT τ ∧ RW τ ∧ RS τ ∧ RF τ ∧ RY τ ∧ RA τ ∧ RL_ τ ∧ True ∧ RE τ ∧ RC τ ∧ RH τ ∧ RQ τ := by
  obtain ⟨S, d, hx⟩ := h
  obtain ⟨hT, hW, hS, hF, hY, hA, hL, hG, hE, hC, hH, hQ⟩ := hR
  exact ⟨hT.ex hx (dj_use (dj_sub d (sub_all (by decide)))), hW.ex hx (dj_use (dj_sub d (sub_all (by decide)))), hS.ex hx (dj_use (dj_sub d (sub_all (by decide)))), hF.ex hx (dj_use (dj_sub d (sub_all (by decide)))), hY.ex hx (dj_use (dj_sub d (sub_all (by decide)))), hA.ex hx (dj_use (dj_sub d (sub_all (by decide)))), hL.ex hx (dj_use (dj_sub d (sub_all (by decide)))), trivial, hE.ex hx (dj_use (dj_sub d (sub_all (by decide)))), hC.ex hx (dj_use (dj_sub d (sub_all (by decide)))), hH.ex hx (dj_use (dj_sub d (sub_all (by decide)))), hQ.ex hx (dj_use (dj_sub d (sub_all (by decide))))⟩
theorem rwS_ag {σ τ : St} (h : AgM σ τ) : rwS τ = rwS σ := by
  funext i e
  unfold rwS
  rw [h.i (c := 1332) (by decide)]
theorem szS_ag {σ τ : St} (h : AgM σ τ) : szS τ = szS σ := by
  funext i
  unfold szS
  rw [h.i (c := 905) (by decide)]
theorem feetV_ag {σ τ : St} (h : AgM σ τ) : feetV τ = feetV σ := by
  funext i
  unfold feetV
  rw [szS_ag h, rwS_ag h]
  exact sumN_c _ (fun e _ => h.i (c := 803) (by decide) _ _)
theorem oldB_ag {σ τ : St} (h : AgM σ τ) : oldB τ = oldB σ := by
  funext i e
  unfold oldB
  rw [rwS_ag h, h.i (c := 902) (by decide), h.i (c := 802) (by decide), h.i (c := 1207) (by decide)]
theorem canB_ag {σ τ : St} (h : AgM σ τ) : canB τ = canB σ := by
  funext k p x
  unfold canB
  rw [h.i (c := 200) (by decide), h.i (c := 201) (by decide), h.i (c := 202) (by decide)]
theorem falB_ag {σ τ : St} (h : AgM σ τ) : falB τ = falB σ := by
  funext i e
  unfold falB lieV
  rw [rwS_ag h, canB_ag h, h.i (c := 805) (by decide), h.i (c := 901) (by decide), h.i (c := 902) (by decide)]
theorem lenB_ag {σ τ : St} (h : AgM σ τ) : lenB τ = lenB σ := by
  funext i e
  unfold lenB
  rw [rwS_ag h, h.i (c := 806) (by decide)]
theorem manB_ag {σ τ : St} (h : AgM σ τ) : manB τ = manB σ := by
  funext i k e
  unfold manB
  rw [oldB_ag h, falB_ag h, lenB_ag h]
/-- what the letters stand for -/
def vvS (σ : St) (i : Nat) (land : Int) (j : Nat) : Int := if j = 0 then gI σ 900 i 0 else if j = 1 then gI σ 901 i 0 else if j = 2 then land else if j = 3 then feetV σ i else if j = 4 then cntB (oldB σ i) (szS σ i) else if j = 5 then (if gI σ 906 i 0 = 0 then cntB (oldB σ i) (szS σ i) else 0) else if j = 6 then cntB (falB σ i) (szS σ i) else cntB (lenB σ i) (szS σ i)
theorem look_c {σ τ : St} {i : Nat} {land : Int} (hR : RR σ) (hi : i < gN σ 8) (hA : Ag σ τ) : ∃ τ', fX3_look i land (cntB (oldB σ i) (szS σ i)) (cntB (falB σ i) (szS σ i)) τ = some ((), τ') ∧ Ex [400] τ τ' ∧ ∀ j, j < 8 → gI τ' 400 0 j = vvS σ i land j := by
  have e0 : ∀ x : Int, lt x (fun y => some y) = some x := fun x => rfl
  have ex3 : Ex [400] τ (sI (sI (sI τ 400 0 0 (gI τ 900 i 0)) 400 0 1 (gI τ 901 i 0)) 400 0 2 land) := ((Ex.rf.sI (by decide)).sI (by decide)).sI (by decide)
  have a3 := hA.trans (Ag.of ex3 (by decide))
  have f3 := feet_c (a3.rr hR).2.2.1 ((a3.rr hR).2.2.2.2.1.2.2.2.1 i (by rw [a3.n]; exact hi))
  rw [feetV_ag a3.m] at f3
  have key : ∀ x : Int, ∃ τ', fX3_look_j61 i (cntB (falB σ i) (szS σ i)) 5 x (sI (sI (sI (sI (sI τ 400 0 0 (gI τ 900 i 0)) 400 0 1 (gI τ 901 i 0)) 400 0 2 land) 400 0 3 (feetV σ i)) 400 0 4 (cntB (oldB σ i) (szS σ i))) = some ((), τ') ∧ Ex [400] τ τ' ∧ ∀ j, j < 8 → gI τ' 400 0 j = if j = 5 then x else vvS σ i land j := by
    intro x
    have ex7 : Ex [400] τ (sI (sI (sI (sI (sI (sI (sI τ 400 0 0 (gI τ 900 i 0)) 400 0 1 (gI τ 901 i 0)) 400 0 2 land) 400 0 3 (feetV σ i)) 400 0 4 (cntB (oldB σ i) (szS σ i))) 400 0 5 x) 400 0 6 (cntB (falB σ i) (szS σ i))) := (((ex3.sI (by decide)).sI (by decide)).sI (by decide)).sI (by decide)
    have a7 := hA.trans (Ag.of ex7 (by decide))
    have f7 := len_c (a7.rr hR).2.2.1 ((a7.rr hR).2.2.2.2.1.2.2.2.1 i (by rw [a7.n]; exact hi))
    rw [lenB_ag a7.m, szS_ag a7.m] at f7
    refine ⟨_, ?_, ex7.sI (by decide) (c := 400) (j := 0) (e := 7) (v := cntB (lenB σ i) (szS σ i)), fun j hj => ?_⟩
    · unfold fX3_look_j61
      rw [ck_x (by decide) (by decide), show ((5 : Int)).toNat = 5 from rfl, f7, bnk_some]
    · have : j = 0 ∨ j = 1 ∨ j = 2 ∨ j = 3 ∨ j = 4 ∨ j = 5 ∨ j = 6 ∨ j = 7 := by omega
      rcases this with h | h | h | h | h | h | h | h <;> subst h
      · rw [ii (by decide), ii (by decide), ii (by decide), ii (by decide), ii (by decide), ii (by decide), ii (by decide), gs, hA.i (c := 900) (by decide)]; rfl
      · rw [ii (by decide), ii (by decide), ii (by decide), ii (by decide), ii (by decide), ii (by decide), gs, hA.i (c := 901) (by decide)]; rfl
      · rw [ii (by decide), ii (by decide), ii (by decide), ii (by decide), ii (by decide), gs]; rfl
      · rw [ii (by decide), ii (by decide), ii (by decide), ii (by decide), gs]; rfl
      · rw [ii (by decide), ii (by decide), ii (by decide), gs]; rfl
      · rw [ii (by decide), ii (by decide), gs]; rfl
      · rw [ii (by decide), gs]; rfl
      · rw [gs]; rfl
  unfold fX3_look
  rw [f3, bnk_some]
  by_cases c : gI σ 906 i 0 = 0
  · obtain ⟨τ', k1, k2, k3⟩ := key (cntB (oldB σ i) (szS σ i))
    refine ⟨τ', by rw [hA.i (c := 906) (by decide), if_pos c]; exact k1, k2, fun j hj => ?_⟩
    rw [k3 j hj]
    by_cases q : j = 5
    · subst q
      rw [if_pos rfl]
      show _ = if gI σ 906 i 0 = 0 then _ else _
      rw [if_pos c]
    · rw [if_neg q]
  · obtain ⟨τ', k1, k2, k3⟩ := key 0
    refine ⟨τ', by rw [hA.i (c := 906) (by decide), if_neg c]; exact k1, k2, fun j hj => ?_⟩
    rw [k3 j hj]
    by_cases q : j = 5
    · subst q
      rw [if_pos rfl]
      show _ = if gI σ 906 i 0 = 0 then _ else _
      rw [if_neg c]
    · rw [if_neg q]
/-- the two first bars, rule by rule -/
theorem RL1.txt {σ : St} {r : Nat} (h : RL1 σ r) (h6 : r < 6) : TXB r (gI σ 703 r 0).toNat (fun e => gI σ 702 r e) ∧ TXC σ r (gI σ 703 r 0).toNat (fun e => gI σ 702 r e) ∧ TXM σ r (gI σ 703 r 0).toNat (fun e => gI σ 702 r e) := by
  obtain ⟨q1, q2, q3, q4, q5, q6, q7⟩ := h
  refine ⟨⟨h6, by omega, fun e he => (q7 e (by omega)).2⟩, ⟨by omega, fun e he => rfl⟩, ⟨by omega, fun e he => (q7 e (by omega)).1⟩⟩
theorem held_c {σ : St} : fX3_held σ = some (oo (gI σ 401 0 0) (gI σ 402 0 0)) := by
  unfold fX3_held oo
  by_cases c : gI σ 401 0 0 = 0
  · rw [if_pos c, if_pos c]
    split <;> rfl
  · rw [if_neg c, if_neg c]
theorem pairBar {σ : St} {day : Int} {W : Nat → Int} (hR : RR σ) (hd : 0 ≤ day ∧ day ≤ 416) : ∀ m j, j + m = gN σ 6 → ∀ σc τ, Ag σ σc → AgM σ τ → (∀ k, k < 8 → gI σc 400 0 k = W k) → (∀ k, k < 8 → gI τ 1347 0 k = W k) → ∃ r σc' τ', fX11_firstBar_j28 day (j : Int) σc = some (r, σc') ∧ fX12_barOf_j108 day (j : Int) τ = some (r, τ') ∧ Ex SCc σc σc' ∧ Ex SMm τ τ' ∧ (r = -9 ∨ (0 ≤ r ∧ r < 6)) := by
  intro m
  induction m with
  | zero =>
    intro j hj σc τ ac at_ wc wm
    have hL := hR.2.2.2.2.2.2.1
    refine ⟨-9, σc, τ, ?_, ?_, Ex.rf, Ex.rf, Or.inl rfl⟩
    · unfold fX11_firstBar_j28
      have e : fX11_firstBar_l28 day (j : Int) σc = some (.inr (.inr σc)) := by
        unfold fX11_firstBar_l28
        rw [ac.i (c := 1210) (by decide), hL.2.1, if_pos (by omega)]
      exact bnk_of (wh_inr e) rfl
    · unfold fX12_barOf_j108
      have e : fX12_barOf_l108 day (j : Int) τ = some (.inr (.inr τ)) := by
        unfold fX12_barOf_l108
        rw [at_.i (c := 1337) (by decide), hL.1, if_pos (by omega)]
      exact bnk_of (wh_inr e) rfl
  | succ m ih =>
    intro j hj σc τ ac at_ wc wm
    obtain ⟨g1, g2, g3, g4, g5⟩ := id hR.2.2.2.2.2.2.1
    obtain ⟨q1, q2, q3, q4, q5, q6, q7⟩ := id (g4 j (by omega))
    -- the next rule
    have next : ∀ σc2 τ2, Ex SCc σc σc2 → Ex SMm τ τ2 → fX11_firstBar_l28 day (j : Int) σc = some (.inl (((j + 1 : Nat) : Int), σc2)) → fX12_barOf_l108 day (j : Int) τ = some (.inl (((j + 1 : Nat) : Int), τ2)) → ∃ r σc' τ', fX11_firstBar_j28 day (j : Int) σc = some (r, σc') ∧ fX12_barOf_j108 day (j : Int) τ = some (r, τ') ∧ Ex SCc σc σc' ∧ Ex SMm τ τ' ∧ (r = -9 ∨ (0 ≤ r ∧ r < 6)) := by
      intro σc2 τ2 x1 x2 s1 s2
      obtain ⟨r, a, b, k1, k2, k3, k4, k5⟩ := ih (j + 1) (by omega) σc2 τ2 (ac.trans (Ag.of x1 (by decide))) (at_.trans (AgM.of x2 (by decide))) (fun k hk => by rw [x1.i (c := 400) (by decide)]; exact wc k hk) (fun k hk => by rw [x2.i (c := 1347) (by decide)]; exact wm k hk)
      refine ⟨r, a, b, ?_, ?_, x1.trans k3, x2.trans k4, k5⟩
      · unfold fX11_firstBar_j28 at k1 ⊢
        rw [wh_stp (f := fun s => fX11_firstBar_l28 day s.1 s.2) (s := ((j : Int), σc)) s1]
        exact k1
      · unfold fX12_barOf_j108 at k2 ⊢
        rw [wh_stp (f := fun s => fX12_barOf_l108 day s.1 s.2) (s := ((j : Int), τ)) s2]
        exact k2
    have pc : gP σc 1209 0 j = some j := by rw [ac.p (c := 1209) (by decide)]; exact q1
    have nc : j < gN σc 6 := by rw [ac.n]; omega
    by_cases c : gI σ 700 j 0 ≤ day ∧ day < gI σ 701 j 0
    · have fc : fX6_isInForce j day σc = some 1 := by
        unfold fX6_isInForce
        rw [ac.i (c := 700) (by decide), ac.i (c := 701) (by decide), if_neg (by omega), if_neg (by omega)]
      obtain ⟨tb, tc, tm⟩ := (g4 j (by omega)).txt (by omega)
      have tc' : TXC σc j (gI σ 703 j 0).toNat (fun e => gI σ 702 j e) := ⟨(ac.i (c := 703) (by decide) _ _).trans tc.1, fun e he => ac.i (c := 702) (by decide) _ _⟩
      have tm' : TXM τ j (gI σ 703 j 0).toNat (fun e => gI σ 702 j e) := ⟨(at_.i (c := 1340) (by decide) _ _).trans tm.1, fun e he => (at_.i (c := 1341) (by decide) _ _).trans (tm.2 e he)⟩
      obtain ⟨r, σ1, τ1, r1, r2, r3, r4, r5, r6⟩ := read_cm (V := True) tb tc' tm' (fun _ k hk => by rw [wc k hk, wm k hk])
      have mf : ∀ {X : Option ((Int × St) ⊕ ((Int × St) ⊕ St))}, (if r = (-9) then (if gI τ1 1346 0 0 = 0 then (fX12_barOf_j186 day (j : Int) τ1) else (some (.inr (.inl (((j : Int), τ1)))))) else (fX12_barOf_j186 day (j : Int) τ1)) = X → fX12_barOf_l108 day (j : Int) τ = X := by
        intro X hX
        unfold fX12_barOf_l108 fX12_barOf_j151 fX12_barOf_j155 fX12_barOf_j156
        rw [at_.i (c := 1337) (by decide), g1, if_neg (by omega), ck_x (by omega) (by omega), Int.toNat_natCast, at_.i (c := 1338) (by decide), at_.i (c := 1339) (by decide), q2, if_neg (by omega), ck_x (by omega) (by omega), ck_x (by omega) (by omega), if_neg (show ¬ (1 : Int) = 0 by decide), r2, bnd_some]
        by_cases d : gI σ 1339 0 j = -9
        · rw [if_pos d]; exact hX
        · rw [if_neg d, if_neg (by unfold RX at q4; omega)]; exact hX
      have cf : ∀ {X : Option ((Int × St) ⊕ ((Int × St) ⊕ St))}, (if r = (-9) then (bnk (fX3_held σ1) (fun r34 => if r34 = 0 then (fX11_firstBar_j83 day (j : Int) σ1) else (some (.inr (.inl (((j : Int), σ1))))))) else (fX11_firstBar_j83 day (j : Int) σ1)) = X → fX11_firstBar_l28 day (j : Int) σc = X := by
        intro X hX
        unfold fX11_firstBar_l28
        rw [ac.i (c := 1210) (by decide), g2, if_neg (by omega), ck_x (by omega) (by omega), lt_def, Int.toNat_natCast, pc, mop_s, ck_n nc, fc, bnk_some, if_neg (by decide), ck_x (by omega) (by omega), lt_def, mop_s, ck_n nc, r1, bnd_some]
        exact hX
      have j1 : fX11_firstBar_j83 day (j : Int) σ1 = some (.inl (((j + 1 : Nat) : Int), σ1)) := by
        unfold fX11_firstBar_j83
        rw [ck_i (by omega) (by omega)]; rfl
      have j2 : fX12_barOf_j186 day (j : Int) τ1 = some (.inl (((j + 1 : Nat) : Int), τ1)) := by
        unfold fX12_barOf_j186
        rw [ck_i (by omega) (by omega)]; rfl
      by_cases d : r = -9
      · obtain ⟨b1, b2, b3, b4⟩ := r6 d
        have b5 := b4 trivial
        by_cases d2 : gI τ1 1346 0 0 = 0
        · exact next σ1 τ1 r3 r4 (cf (by rw [if_pos d, held_c, bnk_some, if_pos (by rw [← b5]; exact d2), j1])) (mf (by rw [if_pos d, if_pos d2, j2]))
        · refine ⟨(j : Int), σ1, τ1, ?_, ?_, r3, r4, Or.inr (by omega)⟩
          · unfold fX11_firstBar_j28
            have e : fX11_firstBar_l28 day (j : Int) σc = some (.inr (.inl ((j : Int), σ1))) := cf (by rw [if_pos d, held_c, bnk_some, if_neg (by rw [← b5]; exact d2)])
            exact bnk_of (wh_inr e) rfl
          · unfold fX12_barOf_j108
            have e : fX12_barOf_l108 day (j : Int) τ = some (.inr (.inl ((j : Int), τ1))) := mf (by rw [if_pos d, if_neg d2])
            exact bnk_of (wh_inr e) rfl
      · exact next σ1 τ1 r3 r4 (cf (by rw [if_neg d, j1])) (mf (by rw [if_neg d, j2]))
    · have fc : fX6_isInForce j day σc = some 0 := by
        unfold fX6_isInForce
        rw [ac.i (c := 700) (by decide), ac.i (c := 701) (by decide)]
        by_cases d : day < gI σ 700 j 0
        · rw [if_pos d]
        · rw [if_neg d, if_pos (by omega)]
      refine next σc τ Ex.rf Ex.rf ?_ ?_
      · unfold fX11_firstBar_l28 fX11_firstBar_j83
        rw [ac.i (c := 1210) (by decide), g2, if_neg (by omega), ck_x (by omega) (by omega), lt_def, Int.toNat_natCast, pc, mop_s, ck_n nc, fc, bnk_some, if_pos rfl, ck_i (by omega) (by omega)]; rfl
      · unfold fX12_barOf_l108 fX12_barOf_j151 fX12_barOf_j155 fX12_barOf_j156 fX12_barOf_j186
        rw [at_.i (c := 1337) (by decide), g1, if_neg (by omega), ck_x (by omega) (by omega), Int.toNat_natCast, at_.i (c := 1338) (by decide), at_.i (c := 1339) (by decide), q2, ck_i (by omega) (by omega), if_pos rfl]
        by_cases d : day < gI σ 700 j 0
        · rw [if_pos d]; rfl
        · rw [if_neg d, ck_x (by omega) (by omega), ck_x (by omega) (by omega), if_neg (by unfold RX at q4; omega), if_pos (by unfold RX at q4; omega)]; rfl
theorem pairB {σ : St} {i : Nat} {land day : Int} (hR : RR σ) (hi : i < gN σ 8) (hd : 0 ≤ day ∧ day ≤ 416) (σc τ : St) (ac : Ag σ σc) (at_ : AgM σ τ) : ∃ r σc' τ', fX11_firstBar i land day σc = some (r, σc') ∧ fX12_barOf (i : Int) land day τ = some (r, τ') ∧ Ex (400 :: SCc) σc σc' ∧ Ex (1347 :: SMm) τ τ' ∧ (r = -9 ∨ (0 ≤ r ∧ r < 6)) := by
  have h8 : i < 8 := by have := hR.2.2.2.2.1.2.2.1; omega
  have yc := (ac.rr hR).2.2.2.2.1.2.2.2.1 i (by rw [ac.n]; exact hi)
  have o1 := old_c (ac.rr hR).2.2.1 yc
  have o2 := fal_c (ac.rr hR).2.2.2.1 (ac.rr hR).2.2.1 yc
  rw [oldB_ag ac.m, szS_ag ac.m] at o1
  rw [falB_ag ac.m, szS_ag ac.m] at o2
  obtain ⟨σ1, l1, l2, l3⟩ := look_c (land := land) hR hi ac
  -- the model's
  obtain ⟨y1, y2, y3, y4, y5, y6, y7, y8, -⟩ := hR.2.2.2.2.1.2.2.2.1 i hi
  have xa : Ex [1347] τ (sI (sI (sI τ 1347 0 0 (gI σ 900 i 0)) 1347 0 1 (gI σ 901 i 0)) 1347 0 2 land) := ((Ex.rf.sI (by decide)).sI (by decide)).sI (by decide)
  have aa := at_.trans (AgM.of xa (by decide))
  have f1 := feet_m (aa.rr hR).2.2.1 ((aa.rr hR).2.2.2.2.1.2.2.2.1 i (by rw [aa.n]; exact hi)) h8
  rw [feetV_ag aa] at f1
  have xb : Ex [1347] τ (sI (sI (sI (sI τ 1347 0 0 (gI σ 900 i 0)) 1347 0 1 (gI σ 901 i 0)) 1347 0 2 land) 1347 0 3 (feetV σ i)) := xa.sI (by decide)
  have ab := at_.trans (AgM.of xb (by decide))
  have f2 := man_m (k := 0) (ab.rr hR).2.2.2.2.2.1 (ab.rr hR).2.2.2.1 (ab.rr hR).2.2.1 ((ab.rr hR).2.2.2.2.1.2.2.2.1 i (by rw [ab.n]; exact hi)) h8
  rw [manB_ag ab, szS_ag ab] at f2
  have m0 : manB σ i 0 = oldB σ i := rfl
  have m1 : manB σ i 1 = falB σ i := rfl
  have m2 : manB σ i 2 = lenB σ i := rfl
  rw [m0] at f2
  have key : ∀ x : Int, ∃ τ1, fX12_barOf_j78 (i : Int) day 5 x (sI (sI (sI (sI (sI τ 1347 0 0 (gI σ 900 i 0)) 1347 0 1 (gI σ 901 i 0)) 1347 0 2 land) 1347 0 3 (feetV σ i)) 1347 0 4 (cntB (oldB σ i) (szS σ i))) = fX12_barOf_j108 day 0 τ1 ∧ Ex [1347] τ τ1 ∧ ∀ j, j < 8 → gI τ1 1347 0 j = if j = 5 then x else vvS σ i land j := by
    intro x
    have xc : Ex [1347] τ (sI (sI (sI (sI (sI (sI τ 1347 0 0 (gI σ 900 i 0)) 1347 0 1 (gI σ 901 i 0)) 1347 0 2 land) 1347 0 3 (feetV σ i)) 1347 0 4 (cntB (oldB σ i) (szS σ i))) 1347 0 5 x) := (xb.sI (by decide)).sI (by decide)
    have a_c := at_.trans (AgM.of xc (by decide))
    have f3 := man_m (k := 1) (a_c.rr hR).2.2.2.2.2.1 (a_c.rr hR).2.2.2.1 (a_c.rr hR).2.2.1 ((a_c.rr hR).2.2.2.2.1.2.2.2.1 i (by rw [a_c.n]; exact hi)) h8
    rw [manB_ag a_c, szS_ag a_c, m1] at f3
    have xd := xc.sI (c := 1347) (j := 0) (e := 6) (v := cntB (falB σ i) (szS σ i)) (by decide)
    have ad := at_.trans (AgM.of xd (by decide))
    have f4 := man_m (k := 2) (ad.rr hR).2.2.2.2.2.1 (ad.rr hR).2.2.2.1 (ad.rr hR).2.2.1 ((ad.rr hR).2.2.2.2.1.2.2.2.1 i (by rw [ad.n]; exact hi)) h8
    rw [manB_ag ad, szS_ag ad, m2] at f4
    refine ⟨_, ?_, xd.sI (by decide) (c := 1347) (j := 0) (e := 7) (v := cntB (lenB σ i) (szS σ i)), fun j hj => ?_⟩
    · unfold fX12_barOf_j78
      rw [ck_x (by decide) (by decide), show ((5 : Int)).toNat = 5 from rfl, f3, bnk_some, f4, bnk_some]
    · have : j = 0 ∨ j = 1 ∨ j = 2 ∨ j = 3 ∨ j = 4 ∨ j = 5 ∨ j = 6 ∨ j = 7 := by omega
      rcases this with h | h | h | h | h | h | h | h <;> subst h
      · rw [ii (by decide), ii (by decide), ii (by decide), ii (by decide), ii (by decide), ii (by decide), ii (by decide), gs]; rfl
      · rw [ii (by decide), ii (by decide), ii (by decide), ii (by decide), ii (by decide), ii (by decide), gs]; rfl
      · rw [ii (by decide), ii (by decide), ii (by decide), ii (by decide), ii (by decide), gs]; rfl
      · rw [ii (by decide), ii (by decide), ii (by decide), ii (by decide), gs]; rfl
      · rw [ii (by decide), ii (by decide), ii (by decide), gs]; rfl
      · rw [ii (by decide), ii (by decide), gs]; rfl
      · rw [ii (by decide), gs]; rfl
      · rw [gs]; rfl
  have mb : ∃ τ1, fX12_barOf (i : Int) land day τ = fX12_barOf_j108 day 0 τ1 ∧ Ex [1347] τ τ1 ∧ ∀ j, j < 8 → gI τ1 1347 0 j = vvS σ i land j := by
    have unf : fX12_barOf (i : Int) land day τ = (if gI σ 906 i 0 = 0 then (fX12_barOf_j78 (i : Int) day 5 (cntB (oldB σ i) (szS σ i)) (sI (sI (sI (sI (sI τ 1347 0 0 (gI σ 900 i 0)) 1347 0 1 (gI σ 901 i 0)) 1347 0 2 land) 1347 0 3 (feetV σ i)) 1347 0 4 (cntB (oldB σ i) (szS σ i)))) else (fX12_barOf_j78 (i : Int) day 5 0 (sI (sI (sI (sI (sI τ 1347 0 0 (gI σ 900 i 0)) 1347 0 1 (gI σ 901 i 0)) 1347 0 2 land) 1347 0 3 (feetV σ i)) 1347 0 4 (cntB (oldB σ i) (szS σ i))))) := by
      unfold fX12_barOf
      rw [ck_x (by omega) (by omega), ck_x (by omega) (by omega), Int.toNat_natCast, at_.i (c := 1327) (by decide), at_.i (c := 1328) (by decide), at_.i (c := 1333) (by decide), y2, y3, y7, f1, bnk_some, f2, bnk_some, ck_x (by omega) (by omega)]
    by_cases c : gI σ 906 i 0 = 0
    · obtain ⟨τ1, k1, k2, k3⟩ := key (cntB (oldB σ i) (szS σ i))
      refine ⟨τ1, by rw [unf, if_pos c]; exact k1, k2, fun j hj => ?_⟩
      rw [k3 j hj]
      by_cases q : j = 5
      · subst q
        rw [if_pos rfl]
        show _ = if gI σ 906 i 0 = 0 then _ else _
        rw [if_pos c]
      · rw [if_neg q]
    · obtain ⟨τ1, k1, k2, k3⟩ := key 0
      refine ⟨τ1, by rw [unf, if_neg c]; exact k1, k2, fun j hj => ?_⟩
      rw [k3 j hj]
      by_cases q : j = 5
      · subst q
        rw [if_pos rfl]
        show _ = if gI σ 906 i 0 = 0 then _ else _
        rw [if_neg c]
      · rw [if_neg q]
  obtain ⟨τ1, n1, n2, n3⟩ := mb
  obtain ⟨r, σ2, τ2, p1, p2, p3, p4, p5⟩ := pairBar (W := vvS σ i land) hR hd (gN σ 6) 0 (by omega) σ1 τ1 (ac.trans (Ag.of l2 (by decide))) (at_.trans (AgM.of n2 (by decide))) l3 n3
  refine ⟨r, σ2, τ2, ?_, by rw [n1]; exact p2, (l2.mono (by decide)).trans (p3.mono (by decide)), (n2.mono (by decide)).trans (p4.mono (by decide)), p5⟩
  unfold fX11_firstBar
  rw [ac.i (c := 1207) (by decide)]
  rw [ac.i (c := 1207) (by decide)] at o1
  rw [o1, bnk_some, o2, bnk_some, l1, bnd_some]
  exact p1
/-- the rule that bars a story there then -/
theorem bar_ex {σ : St} {i : Nat} {land day : Int} (hR : RR σ) (hi : i < gN σ 8) (hd : 0 ≤ day ∧ day ≤ 416) : ∃ r : Int, (r = -9 ∨ (0 ≤ r ∧ r < 6)) ∧ (∀ σc, Ag σ σc → ∃ σc', fX11_firstBar i land day σc = some (r, σc') ∧ Ex (400 :: SCc) σc σc') ∧ (∀ τ, AgM σ τ → ∃ τ', fX12_barOf (i : Int) land day τ = some (r, τ') ∧ Ex (1347 :: SMm) τ τ') := by
  obtain ⟨r, σ1, τ1, p1, p2, p3, p4, p5⟩ := pairB (land := land) hR hi hd σ σ Ag.rf AgM.rf
  refine ⟨r, p5, fun σc ac => ?_, fun τ at_ => ?_⟩
  · obtain ⟨r2, σ2, τ2, q1, q2, q3, q4, q5⟩ := pairB (land := land) hR hi hd σc σ ac AgM.rf
    rw [p2] at q2
    have : r2 = r := (congrArg Prod.fst (Option.some.inj q2)).symm
    subst this
    exact ⟨σ2, q1, q3⟩
  · obtain ⟨r2, σ2, τ2, q1, q2, q3, q4, q5⟩ := pairB (land := land) hR hi hd σ τ Ag.rf at_
    rw [p1] at q1
    have : r2 = r := (congrArg Prod.fst (Option.some.inj q1)).symm
    subst this
    exact ⟨τ2, q2, q4⟩
