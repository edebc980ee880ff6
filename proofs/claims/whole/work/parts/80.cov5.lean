/-! men and events: the model's covers -/
def stM (σ : St) (m r : Nat) : Bool := tmB σ (8 + m) (evB σ r)
theorem chB_false {nx : Nat → Nat → Bool} {S n : Nat} (hS : S < 2 ^ n) : chB (fun _ => false) nx S n = decide (S = 0) := by
  by_cases c : S = 0
  · subst c
    rw [decide_eq_true rfl]
    unfold chB
    rw [allB_iff]
    intro i _
    unfold cndB
    rw [Nat.zero_testBit]; rfl
  · rw [decide_eq_false c]
    have hex : ∃ i, S.testBit i = true := by
      apply Classical.byContradiction
      intro z
      apply c
      apply Nat.eq_of_testBit_eq
      intro i
      rw [Nat.zero_testBit]
      by_cases q : S.testBit i = true
      · exact absurd ⟨i, q⟩ z
      · simpa using q
    obtain ⟨i, hi⟩ := hex
    obtain ⟨r, r1, r2, r3⟩ := least_ex (fun i => S.testBit i = true) i hi
    have hrn : r < n := by
      apply Classical.byContradiction
      intro z
      have : S.testBit r = false := Nat.testBit_lt_two_pow (Nat.lt_of_lt_of_le hS (Nat.pow_le_pow_right (by omega) (by omega)))
      rw [this] at r2; cases r2
    have hno : ¬ chB (fun _ => false) nx S n = true := by
      unfold chB
      rw [allB_iff]
      intro z
      have := z r hrn
      unfold cndB at this
      rw [r2, prd_none r (fun q hq => by have := r3 q hq; simpa using this)] at this
      cases this
    simpa using hno
theorem chM_m {σ : St} {m S : Nat} (hS : S < 2 ^ evN σ) : chB (stM σ m) (nxB σ) S (evN σ) = chM σ m S := by
  unfold chM
  by_cases c : gI σ 100 0 m = -9
  · rw [if_pos c, ← chB_false (nx := nxB σ) hS]
    have : stM σ m = fun _ => false := by
      funext r
      unfold stM tmB
      rw [if_neg (by omega), show 8 + m - 8 = m by omega]
      simp [c]
    rw [this]
  · rw [if_neg c]
    have : stM σ m = rchB σ (gI σ 100 0 m) (gI σ 101 0 m) := by
      funext r
      unfold stM tmB
      rw [if_neg (by omega), show 8 + m - 8 = m by omega]
      simp [c]
      rfl
    rw [this]
def lsX (σ : St) (m S k : Nat) : Nat := match prd S k with
  | none => 8 + m
  | some q => evB σ q
def TMS (σ τ : St) : Prop := (∀ k, k < evN σ → gI τ 1376 0 k = (evB σ k : Int)) ∧ ∀ i j, i < 12 → j < evN σ → gI τ 1377 0 (8 * i + j) = b2i (tmB σ i j = true)
theorem go_m {σ τ : St} {m E : Nat} (hR : RR σ) (ha : Ag σ τ) (hT : TMS σ τ) (hm : m < 4) (hE : E < 2 ^ evN σ) : fX12_canGoTo (m : Int) (E : Int) τ = some (b2i (chM σ m (rkS σ E) = true)) := by
  have hC := hR.2.2.2.2.2.2.2.2.2.1
  obtain ⟨c1, c2, c3, c4, c5, c6⟩ := hC.ev
  have h256 : 2 ^ evN σ ≤ 2 ^ 8 := Nat.pow_le_pow_right (by omega) c3
  rw [← chM_m (rkS_lt σ E)]
  have hls : ∀ k, k ≤ evN σ → lsX σ m (rkS σ E) k < 12 := by
    intro k hk
    unfold lsX
    cases hp : prd (rkS σ E) k with
    | none => show 8 + m < 12; omega
    | some q =>
      have := prd_lt k q hp
      have := (c4 q (by omega)).2
      show evB σ q < 12
      omega
  have hcnd : ∀ k, k < evN σ → (rkS σ E).testBit k = true → cndB (stM σ m) (nxB σ) (rkS σ E) k = tmB σ (lsX σ m (rkS σ E) k) (evB σ k) := by
    intro k hk hb
    unfold cndB lsX
    rw [hb]
    cases hp : prd (rkS σ E) k with
    | none => rfl
    | some q =>
      have h1 := prd_lt k q hp
      have h2 := (c4 q (by omega)).2
      show (false || nxB σ q k) = tmB σ (evB σ q) (evB σ k)
      unfold tmB
      rw [if_pos (by omega)]
      simp [h2]
      rfl
  have hstep : ∀ k, k < evN σ → fX12_canGoTo_l8 (E : Int) τ ((lsX σ m (rkS σ E) k : Nat) : Int) (k : Int) = if cndB (stM σ m) (nxB σ) (rkS σ E) k = true then some (.inl (((lsX σ m (rkS σ E) (k + 1) : Nat) : Int), ((k + 1 : Nat) : Int))) else some (.inr (.inl ())) := by
    intro k hk
    obtain ⟨b1, b2⟩ := c4 k hk
    have hl := hls k (by omega)
    have hbit : (rkS σ E).testBit k = E.testBit (evB σ k) := by rw [rkS_bit]; simp [hk]
    have t : (8 * ((lsX σ m (rkS σ E) k : Nat) : Int) + (evB σ k : Int)).toNat = 8 * lsX σ m (rkS σ E) k + evB σ k := by omega
    unfold fX12_canGoTo_l8 fX12_canGoTo_j56
    rw [ha.i (c := 1369) (by decide), c2, if_neg (by omega), ck_x (by omega) (by omega), Int.toNat_natCast, hT.1 k hk, iandshr (by omega) (by omega), ← hbit]
    by_cases c : (rkS σ E).testBit k = true
    · have hn : lsX σ m (rkS σ E) (k + 1) = evB σ k := by
        unfold lsX prd
        rw [if_pos c]
      rw [if_pos (b2i_pos c), ck_i (by omega) (by omega), ck_i (by omega) (by omega), ck_x (by omega) (by omega), t, hT.2 _ _ hl b2, ck_i (by omega) (by omega), hcnd k hk c, hn]
      by_cases d : tmB σ (lsX σ m (rkS σ E) k) (evB σ k) = true
      · rw [if_neg (by rw [b2i_pos d]; decide), if_pos d]; rfl
      · rw [if_pos (b2i_neg d), if_neg d]
    · have hn : lsX σ m (rkS σ E) (k + 1) = lsX σ m (rkS σ E) k := by
        show (match (if (rkS σ E).testBit k = true then some k else prd (rkS σ E) k) with | none => 8 + m | some q => evB σ q) = _
        rw [if_neg c]; rfl
      have hcn : cndB (stM σ m) (nxB σ) (rkS σ E) k = true := by
        unfold cndB
        have : (rkS σ E).testBit k = false := by simpa using c
        rw [this]; rfl
      rw [if_neg (by rw [b2i_neg c]; decide), ck_i (by omega) (by omega), if_pos hcn, hn]; rfl
  have key : ∀ i k, k + i = evN σ → (∀ j, j < k → cndB (stM σ m) (nxB σ) (rkS σ E) j = true) → wh (fun s => fX12_canGoTo_l8 (E : Int) τ s.1 s.2) ((((lsX σ m (rkS σ E) k : Nat) : Int), (k : Int))) = some (if chB (stM σ m) (nxB σ) (rkS σ E) (evN σ) = true then .inr () else .inl ()) := by
    intro i
    induction i with
    | zero =>
      intro k hk hp
      have : k = evN σ := by omega
      subst this
      rw [if_pos (show chB (stM σ m) (nxB σ) (rkS σ E) (evN σ) = true from allB_iff.mpr hp)]
      apply wh_inr
      show fX12_canGoTo_l8 (E : Int) τ _ (evN σ : Int) = _
      unfold fX12_canGoTo_l8
      rw [ha.i (c := 1369) (by decide), c2, if_pos (Int.le_refl _)]
    | succ i ih =>
      intro k hk hp
      have h0 := hstep k (by omega)
      by_cases c : cndB (stM σ m) (nxB σ) (rkS σ E) k = true
      · rw [if_pos c] at h0
        exact wh_inl h0 (ih (k + 1) (by omega) (fun j hj => by
          by_cases q : j = k
          · rw [q]; exact c
          · exact hp j (by omega)))
      · rw [if_neg c] at h0
        rw [if_neg (show ¬ chB (stM σ m) (nxB σ) (rkS σ E) (evN σ) = true from fun z => c (allB_iff.mp z k (by omega)))]
        exact wh_inr h0
  have k0 := key (evN σ) 0 (by omega) (fun j hj => by omega)
  unfold fX12_canGoTo fX12_canGoTo_j8 fX12_canGoTo_j51 fX12_canGoTo_j62
  rw [ck_i (by omega) (by omega)]
  refine bnk_of (show wh (fun s => fX12_canGoTo_l8 (E : Int) τ s.1 s.2) ((8 + (m : Int), 0)) = _ from k0) ?_
  by_cases c : chB (stM σ m) (nxB σ) (rkS σ E) (evN σ) = true
  · rw [if_pos c, b2i_pos c]; rfl
  · rw [if_neg c, b2i_neg c]; rfl
def T373 (σ τ : St) : Prop := ∀ m E, m < 4 → E < 2 ^ evN σ → gI τ 1373 0 (256 * m + E) = b2i (chM σ m (rkS σ E) = true)
theorem goAll_m {σ τ : St} (hR : RR σ) (ha : Ag σ τ) (hT : TMS σ τ) : ∃ τ', wh (fun s => fX12_layCovers_l17 ((2 ^ evN σ : Nat) : Int) s.1 s.2) ((0, τ)) = some τ' ∧ Ex [1373] τ τ' ∧ T373 σ τ' := by
  have hC := hR.2.2.2.2.2.2.2.2.2.1
  obtain ⟨c1, c2, c3, c4, c5, c6⟩ := hC.ev
  have h256 : 2 ^ evN σ ≤ 2 ^ 8 := Nat.pow_le_pow_right (by omega) c3
  have h1p : 1 ≤ 2 ^ evN σ := Nat.one_le_two_pow
  generalize hA : 2 ^ evN σ = A at h256 h1p
  have key : ∀ i k, k + i = 4 * A → ∀ τ1, Ex [1373] τ τ1 → (∀ m E, E < A → A * m + E < k → gI τ1 1373 0 (256 * m + E) = b2i (chM σ m (rkS σ E) = true)) → ∃ τ', wh (fun s => fX12_layCovers_l17 (A : Int) s.1 s.2) (((k : Int), τ1)) = some τ' ∧ Ex [1373] τ τ' ∧ ∀ m E, E < A → A * m + E < 4 * A → gI τ' 1373 0 (256 * m + E) = b2i (chM σ m (rkS σ E) = true) := by
    intro i
    induction i with
    | zero =>
      intro k hk τ1 hx h
      refine ⟨τ1, wh_inr ?_, hx, fun m E z1 z2 => h m E z1 (by omega)⟩
      show fX12_layCovers_l17 (A : Int) (k : Int) τ1 = _
      unfold fX12_layCovers_l17
      rw [ck_i (by omega) (by omega), if_pos (by omega)]
    | succ i ih =>
      intro k hk τ1 hx h
      have hdm : A * (k / A) + k % A = k := Nat.div_add_mod k A
      have hmod : k % A < A := Nat.mod_lt _ (by omega)
      have hdiv : k / A < 4 := by
        apply Nat.div_lt_of_lt_mul
        omega
      have e1 : idiv (k : Int) (A : Int) = ((k / A : Nat) : Int) := idiv_nat (by omega) (by omega)
      have e2 : irem (k : Int) (A : Int) = ((k % A : Nat) : Int) := irem_nat (by omega) (by omega)
      have hgo := go_m (m := k / A) (E := k % A) hR (ha.trans (Ag.of hx (by decide))) ⟨fun r hr => by rw [hx.i (c := 1376) (by decide)]; exact hT.1 r hr, fun i j z1 z2 => by rw [hx.i (c := 1377) (by decide)]; exact hT.2 i j z1 z2⟩ hdiv (by rw [hA]; exact hmod)
      generalize k / A = m at hdm hdiv e1 hgo
      generalize k % A = E at hdm hmod e2 hgo
      have t : (256 * (m : Int) + (E : Int)).toNat = 256 * m + E := by omega
      obtain ⟨τ', k1, k2⟩ := ih (k + 1) (by omega) (sI τ1 1373 0 (256 * m + E) (b2i (chM σ m (rkS σ E) = true))) (hx.sI (by decide)) (fun m' E' z1 z2 => by
        by_cases q : m' = m ∧ E' = E
        · rw [q.1, q.2, gs]
        · rw [ii (by omega)]
          refine h m' E' z1 ?_
          apply Classical.byContradiction
          intro z
          have h1 : A * m' + E' = A * m + E := by omega
          have h2 : m' = m := by
            apply Classical.byContradiction
            intro y
            by_cases y2 : m' < m
            · have : A * (m' + 1) ≤ A * m := Nat.mul_le_mul_left A y2
              rw [Nat.mul_add, Nat.mul_one] at this
              omega
            · have : A * (m + 1) ≤ A * m' := Nat.mul_le_mul_left A (by omega)
              rw [Nat.mul_add, Nat.mul_one] at this
              omega
          rw [h2] at h1
          exact q ⟨h2, by omega⟩)
      refine ⟨τ', wh_inl ?_ k1, k2⟩
      show fX12_layCovers_l17 (A : Int) (k : Int) τ1 = some (.inl (((k + 1 : Nat) : Int), sI τ1 1373 0 (256 * m + E) (b2i (chM σ m (rkS σ E) = true))))
      unfold fX12_layCovers_l17
      rw [ck_i (by omega) (by omega), if_neg (by omega), e1, e2, ck_pos (by omega), ck_i (by omega) (by omega), ck_pos (by omega), ck_i (by omega) (by omega), ck_pos (by omega), ck_pos (by omega), hgo, bnk_some, ck_x (by omega) (by omega), ck_i (by omega) (by omega), t]; rfl
  obtain ⟨τ', k1, k2, k3⟩ := key (4 * A) 0 (by omega) τ Ex.rf (fun m E z1 z2 => by omega)
  refine ⟨τ', k1, k2, fun m E z1 z2 => k3 m E (by rw [← hA]; exact z2) ?_⟩
  rw [hA] at z2
  have : A * m ≤ A * 3 := Nat.mul_le_mul_left A (by omega)
  omega
theorem and_n {S o : Nat} (hS : S < 2147483648) (h : o &&& S = o) : iand (S : Int) (ixor (o : Int) (-1)) = ((S ^^^ o : Nat) : Int) := by
  have ho : o ≤ S := by rw [← h]; exact Nat.and_le_right
  obtain ⟨v, v1, v2, v3⟩ := andn (a := S) (b := o) hS (by omega)
  rw [v1]
  apply congrArg
  apply Nat.eq_of_testBit_eq
  intro i
  rw [v3 i, Nat.testBit_xor]
  have h1 : (o &&& S).testBit i = o.testBit i := by rw [h]
  rw [Nat.testBit_and] at h1
  by_cases q : o.testBit i = true
  · rw [q] at h1
    have : S.testBit i = true := by simpa using h1
    simp [q, this]
  · simp [q]
/-- one set's parts -/
theorem part_m {τ : St} {E m : Nat} {x1 : Int} {Q : Nat → Prop} {one : Nat → Bool} (hE : E < 256) (hm : m < 4) (h3 : ∀ o, o ≤ E → gI τ 1373 0 (256 * m + o) = b2i (one o = true)) (h4 : ∀ o, o ≤ E → TF (gI τ 1374 0 o) (Q o)) : ∃ τ', wh (fun s => fX12_layCovers_l108 x1 (m : Int) (E : Int) s.1 s.2) (((E : Int), sI τ 1375 0 E 0)) = some τ' ∧ Ex [1375] τ τ' ∧ (∀ e, e ≠ E → gI τ' 1375 0 e = gI τ 1375 0 e) ∧ TF (gI τ' 1375 0 E) (∃ o, o &&& E = o ∧ one o = true ∧ Q (E ^^^ o)) := by
  have j162 : ∀ (o : Nat) (b : Int) (τ1 : St), o ≤ E → (b = 0 ∨ b = 1) → fX12_layCovers_j162 x1 (m : Int) (E : Int) (o : Int) (E : Int) b τ1 = some (.inl ((if o = 0 then -1 else (((o - 1) &&& E : Nat) : Int)), sI τ1 1375 0 E b)) := by
    intro o b τ1 ho hb
    unfold fX12_layCovers_j162 fX12_layCovers_j178
    rw [ck_x (by omega) (by omega), ck_b hb, Int.toNat_natCast]
    by_cases c : o = 0
    · rw [if_pos (by omega), if_pos c]
    · have hnxt : iand ((o : Int) - 1) (E : Int) = (((o - 1) &&& E : Nat) : Int) := by
        rw [show (o : Int) - 1 = ((o - 1 : Nat) : Int) by omega]
        exact iand_nat (by omega) (by omega)
      rw [if_neg (by omega), if_neg c, ck_i (by omega) (by omega), hnxt]
  have stop : ∀ (x : Int) (τ1 : St), (x < 0 ∨ gI τ1 1375 0 E ≠ 0) → fX12_layCovers_l108 x1 (m : Int) (E : Int) x τ1 = some (.inr τ1) := by
    intro x τ1 h
    unfold fX12_layCovers_l108
    by_cases c : x < 0
    · rw [if_pos c]
    · rw [if_neg c, ck_x (by omega) (by omega), Int.toNat_natCast, if_neg (by rcases h with h | h; exact absurd h c; exact h)]
  have key : ∀ M o, o < M → o &&& E = o → ∀ τ1, Ex [1375] τ τ1 → (∀ e, e ≠ E → gI τ1 1375 0 e = gI τ 1375 0 e) → gI τ1 1375 0 E = 0 → (∀ x, x &&& E = x → o < x → ¬ (one x = true ∧ Q (E ^^^ x))) → ∃ τ', wh (fun s => fX12_layCovers_l108 x1 (m : Int) (E : Int) s.1 s.2) (((o : Int), τ1)) = some τ' ∧ Ex [1375] τ τ' ∧ (∀ e, e ≠ E → gI τ' 1375 0 e = gI τ 1375 0 e) ∧ TF (gI τ' 1375 0 E) (∃ o, o &&& E = o ∧ one o = true ∧ Q (E ^^^ o)) := by
    intro M
    induction M with
    | zero => intro o ho; omega
    | succ M ih =>
      intro o ho hos τ1 hx he hz hno
      have hoE : o ≤ E := by rw [← hos]; exact Nat.and_le_right
      have hxE : E ^^^ o ≤ E := by
        by_cases q : o = 0
        · rw [q, Nat.xor_zero]; exact Nat.le_refl _
        · have := xor_sub hos (by omega); omega
      have t : (256 * (m : Int) + (o : Int)).toNat = 256 * m + o := by omega
      have e3 : gI τ1 1373 0 (256 * m + o) = b2i (one o = true) := by rw [hx.i (c := 1373) (by decide)]; exact h3 o hoE
      have e4 : gI τ1 1374 0 (E ^^^ o) = gI τ 1374 0 (E ^^^ o) := hx.i (by decide) _ _
      have hQ := h4 (E ^^^ o) hxE
      have l108 : fX12_layCovers_l108 x1 (m : Int) (E : Int) (o : Int) τ1 = (if gI τ1 1373 0 (256 * m + o) = 0 then (fX12_layCovers_j162 x1 (m : Int) (E : Int) (o : Int) (E : Int) 0 τ1) else (if gI τ1 1374 0 (E ^^^ o) = 0 then (fX12_layCovers_j162 x1 (m : Int) (E : Int) (o : Int) (E : Int) 0 τ1) else (fX12_layCovers_j162 x1 (m : Int) (E : Int) (o : Int) (E : Int) 1 τ1))) := by
        unfold fX12_layCovers_l108 fX12_layCovers_j161
        rw [if_neg (by omega), ck_x (by omega) (by omega), Int.toNat_natCast, if_pos hz, ck_i (by omega) (by omega), ck_i (by omega) (by omega), ck_x (by omega) (by omega), t, and_n (by omega) hos, ck_x (by omega) (by omega), Int.toNat_natCast]
      by_cases d : one o = true ∧ Q (E ^^^ o)
      · have e1 : fX12_layCovers_l108 x1 (m : Int) (E : Int) (o : Int) τ1 = some (.inl ((if o = 0 then -1 else (((o - 1) &&& E : Nat) : Int)), sI τ1 1375 0 E 1)) := by
          rw [l108, e3, e4, if_neg (by rw [b2i_pos d.1]; decide), if_neg (fun z => (hQ.z.mp z) d.2), j162 o 1 _ hoE (Or.inr rfl)]
        refine ⟨sI τ1 1375 0 E 1, wh_inl e1 (wh_inr (stop _ _ (Or.inr (by rw [gs]; decide)))), hx.sI (by decide), fun e z => by rw [ii (by omega)]; exact he e z, ?_⟩
        rw [gs]
        exact Or.inl ⟨rfl, o, hos, d.1, d.2⟩
      · have e1 : fX12_layCovers_l108 x1 (m : Int) (E : Int) (o : Int) τ1 = some (.inl ((if o = 0 then -1 else (((o - 1) &&& E : Nat) : Int)), sI τ1 1375 0 E 0)) := by
          rw [l108, e3, e4]
          by_cases d1 : one o = true
          · rw [if_neg (by rw [b2i_pos d1]; decide), if_pos (hQ.z.mpr (fun z => d ⟨d1, z⟩)), j162 o 0 _ hoE (Or.inl rfl)]
          · rw [if_pos (b2i_neg d1), j162 o 0 _ hoE (Or.inl rfl)]
        by_cases c : o = 0
        · rw [if_pos c] at e1
          refine ⟨sI τ1 1375 0 E 0, wh_inl e1 (wh_inr (stop (-1) _ (Or.inl (by decide)))), hx.sI (by decide), fun e z => by rw [ii (by omega)]; exact he e z, ?_⟩
          rw [gs]
          refine Or.inr ⟨rfl, ?_⟩
          rintro ⟨x, y1, y2, y3⟩
          by_cases q : x = 0
          · rw [q] at y2 y3; rw [c] at d; exact d ⟨y2, y3⟩
          · exact hno x y1 (by omega) ⟨y2, y3⟩
        · rw [if_neg c] at e1
          have hand : ((o - 1) &&& E) ≤ o - 1 := Nat.and_le_left
          have hsub : ((o - 1) &&& E) &&& E = (o - 1) &&& E := by rw [Nat.and_assoc, Nat.and_self]
          obtain ⟨τ', k1, k2⟩ := ih ((o - 1) &&& E) (by omega) hsub (sI τ1 1375 0 E 0) (hx.sI (by decide)) (fun e z => by rw [ii (by omega)]; exact he e z) gs (fun x y1 y2 => by
            by_cases q : x = o
            · rw [q]; exact d
            · refine hno x y1 ?_
              apply Classical.byContradiction
              intro z
              have := sub_walk hE hos (by omega) y1 (by omega)
              omega)
          exact ⟨τ', wh_inl e1 k1, k2⟩
  exact key (E + 1) E (by omega) (Nat.and_self E) (sI τ 1375 0 E 0) (Ex.rf.sI (by decide)) (fun e z => ii (by omega)) gs (fun x y1 y2 => by
    have : x ≤ E := by rw [← y1]; exact Nat.and_le_right
    omega)
/-- parts by events, parts by ranks -/
theorem rk_and {σ : St} {E o : Nat} (h : o &&& E = o) : rkS σ o &&& rkS σ E = rkS σ o ∧ rkS σ (E ^^^ o) = rkS σ E ^^^ rkS σ o := by
  constructor
  · apply Nat.eq_of_testBit_eq
    intro i
    rw [Nat.testBit_and, rkS_bit, rkS_bit]
    have h1 : (o &&& E).testBit (evB σ i) = o.testBit (evB σ i) := by rw [h]
    rw [Nat.testBit_and] at h1
    by_cases q : o.testBit (evB σ i) = true
    · rw [q] at h1
      have : E.testBit (evB σ i) = true := by simpa using h1
      simp [q, this]
    · simp [q]
  · apply Nat.eq_of_testBit_eq
    intro i
    rw [Nat.testBit_xor, rkS_bit, rkS_bit, rkS_bit, Nat.testBit_xor]
    cases decide (i < evN σ) <;> simp
theorem cv_rk {σ : St} {m E : Nat} (hC : RC σ) (hE : E < 2 ^ evN σ) : (∃ o, o &&& E = o ∧ chM σ m (rkS σ o) = true ∧ cvP (chM σ) m (rkS σ (E ^^^ o))) ↔ cvP (chM σ) (m + 1) (rkS σ E) := by
  constructor
  · rintro ⟨o, h1, h2, h3⟩
    obtain ⟨r1, r2⟩ := rk_and (σ := σ) h1
    exact ⟨rkS σ o, r1, h2, by rw [← r2]; exact h3⟩
  · rintro ⟨o, h1, h2, h3⟩
    have hol : o < 2 ^ evN σ := by
      have : o ≤ rkS σ E := by rw [← h1]; exact Nat.and_le_right
      have := rkS_lt σ E
      omega
    have e1 := rk_ev hC hol
    have hsub : evS σ o (evN σ) &&& E = evS σ o (evN σ) := by
      apply Nat.eq_of_testBit_eq
      intro i
      rw [Nat.testBit_and]
      by_cases q : (evS σ o (evN σ)).testBit i = true
      · obtain ⟨r, r1, r2, r3⟩ := (evS_bit σ o (evN σ) i).mp q
        have h4 : (o &&& rkS σ E).testBit r = o.testBit r := by rw [h1]
        rw [Nat.testBit_and, r2, rkS_bit, r3] at h4
        have : E.testBit i = true := by simpa [r1] using h4
        simp [q, this]
      · simp [q]
    obtain ⟨r1, r2⟩ := rk_and (σ := σ) hsub
    refine ⟨evS σ o (evN σ), hsub, by rw [e1]; exact h2, ?_⟩
    rw [r2, e1]; exact h3
def T374 (σ τ : St) (m : Nat) : Prop := ∀ E, E < 2 ^ evN σ → TF (gI τ 1374 0 E) (cvP (chM σ) m (rkS σ E))
theorem man_go {σ τ : St} {m : Nat} (hR : RR σ) (hm : m < 4) (h3 : T373 σ τ) (h4 : T374 σ τ m) : ∃ τ', fX12_layCovers_l86 ((2 ^ evN σ : Nat) : Int) (m : Int) τ = some (.inl (((m + 1 : Nat) : Int), τ')) ∧ Ex [1374, 1375] τ τ' ∧ T374 σ τ' (m + 1) := by
  have hC := hR.2.2.2.2.2.2.2.2.2.1
  obtain ⟨c1, c2, c3, c4, c5, c6⟩ := hC.ev
  have h256 : 2 ^ evN σ ≤ 2 ^ 8 := Nat.pow_le_pow_right (by omega) c3
  have key1 : ∀ i E, E + i = 2 ^ evN σ → ∀ τ1, Ex [1375] τ τ1 → (∀ e, e < E → TF (gI τ1 1375 0 e) (cvP (chM σ) (m + 1) (rkS σ e))) → ∃ τ', wh (fun s => fX12_layCovers_l93 ((2 ^ evN σ : Nat) : Int) (m : Int) s.1 s.2) (((E : Int), τ1)) = some τ' ∧ Ex [1375] τ τ' ∧ ∀ e, e < 2 ^ evN σ → TF (gI τ' 1375 0 e) (cvP (chM σ) (m + 1) (rkS σ e)) := by
    intro i
    induction i with
    | zero =>
      intro E hE τ1 hx h
      refine ⟨τ1, wh_inr ?_, hx, fun e he => h e (by omega)⟩
      show fX12_layCovers_l93 _ (m : Int) (E : Int) τ1 = _
      unfold fX12_layCovers_l93
      rw [if_pos (by omega)]
    | succ i ih =>
      intro E hE τ1 hx h
      obtain ⟨τ2, p1, p2, p3, p4⟩ := part_m (τ := τ1) (E := E) (m := m) (x1 := ((2 ^ evN σ : Nat) : Int)) (Q := fun o => cvP (chM σ) m (rkS σ o)) (one := fun o => chM σ m (rkS σ o)) (by omega) hm (fun o z => by rw [hx.i (c := 1373) (by decide)]; exact h3 m o hm (by omega)) (fun o z => by rw [hx.i (c := 1374) (by decide)]; exact h4 o (by omega))
      obtain ⟨τ', k1, k2⟩ := ih (E + 1) (by omega) τ2 (hx.trans p2) (fun e he => by
        by_cases q : e = E
        · rw [q]; exact p4.c (cv_rk hC (by omega))
        · rw [p3 e q]; exact h e (by omega))
      refine ⟨τ', wh_inl ?_ k1, k2⟩
      show fX12_layCovers_l93 _ (m : Int) (E : Int) τ1 = some (.inl (((E + 1 : Nat) : Int), τ2))
      unfold fX12_layCovers_l93 fX12_layCovers_j108 fX12_layCovers_j183
      rw [if_neg (by omega), ck_x (by omega) (by omega), Int.toNat_natCast]
      refine bnk_of p1 ?_
      rw [ck_i (by omega) (by omega)]; rfl
  obtain ⟨τ1, a1, a2, a3⟩ := key1 (2 ^ evN σ) 0 (by omega) τ Ex.rf (fun e he => by omega)
  have key2 : ∀ i E, E + i = 2 ^ evN σ → ∀ τ2, Ex [1374] τ1 τ2 → (∀ e, e < E → TF (gI τ2 1374 0 e) (cvP (chM σ) (m + 1) (rkS σ e))) → ∃ τ', wh (fun s => fX12_layCovers_l191 ((2 ^ evN σ : Nat) : Int) (m : Int) s.1 s.2) (((E : Int), τ2)) = some τ' ∧ Ex [1374] τ1 τ' ∧ T374 σ τ' (m + 1) := by
    intro i
    induction i with
    | zero =>
      intro E hE τ2 hx h
      refine ⟨τ2, wh_inr ?_, hx, fun e he => h e (by omega)⟩
      show fX12_layCovers_l191 _ (m : Int) (E : Int) τ2 = _
      unfold fX12_layCovers_l191
      rw [if_pos (by omega)]
    | succ i ih =>
      intro E hE τ2 hx h
      have e5 : gI τ2 1375 0 E = gI τ1 1375 0 E := hx.i (by decide) _ _
      have hT := a3 E (by omega)
      obtain ⟨τ', k1, k2⟩ := ih (E + 1) (by omega) (sI τ2 1374 0 E (gI τ1 1375 0 E)) (hx.sI (by decide)) (fun e he => by
        by_cases q : e = E
        · rw [q, gs]; exact hT
        · rw [ii (by omega)]; exact h e (by omega))
      refine ⟨τ', wh_inl ?_ k1, k2⟩
      show fX12_layCovers_l191 _ (m : Int) (E : Int) τ2 = some (.inl (((E + 1 : Nat) : Int), sI τ2 1374 0 E (gI τ1 1375 0 E)))
      unfold fX12_layCovers_l191
      rw [if_neg (by omega), ck_x (by omega) (by omega), ck_x (by omega) (by omega), Int.toNat_natCast, e5, ck_b hT.b, ck_i (by omega) (by omega)]; rfl
  obtain ⟨τ2, b1, b2, b3⟩ := key2 (2 ^ evN σ) 0 (by omega) τ1 Ex.rf (fun e he => by omega)
  refine ⟨τ2, ?_, (a2.mono (by decide)).trans (b2.mono (by decide)), b3⟩
  unfold fX12_layCovers_l86 fX12_layCovers_j93 fX12_layCovers_j189 fX12_layCovers_j191 fX12_layCovers_j214
  rw [if_neg (by omega)]
  refine bnk_of a1 (bnk_of b1 ?_)
  rw [ck_i (by omega) (by omega)]; rfl
def SCo : List Nat := [1309, 1373, 1374, 1375, 1376, 1377]
theorem covers_m {σ τ : St} (hR : RR σ) (ha : Ag σ τ) : ∃ τ', fX12_layCovers τ = some ((), τ') ∧ Ex SCo τ τ' ∧ T374 σ τ' 4 := by
  have hC := hR.2.2.2.2.2.2.2.2.2.1
  obtain ⟨c1, c2, c3, c4, c5, c6⟩ := hC.ev
  have h256 : 2 ^ evN σ ≤ 2 ^ 8 := Nat.pow_le_pow_right (by omega) c3
  have hsh : ishl 1 (evN σ : Int) = ((2 ^ evN σ : Nat) : Int) := ishl_one ⟨evN σ, by omega⟩
  obtain ⟨τ1, o1, o2, o3⟩ := order_m hR ha
  have a1 := ha.trans (Ag.of o2 (by decide))
  obtain ⟨τ2, t1, t2, t3⟩ := times_m hR a1
  have a2 := a1.trans (Ag.of t2 (by decide))
  obtain ⟨τ3, g1, g2, g3⟩ := goAll_m hR a2 ⟨fun k hk => by rw [t2.i (c := 1376) (by decide)]; exact o3 k hk, t3⟩
  have key : ∀ i E, E + i = 2 ^ evN σ → ∀ τ4, Ex [1374] τ3 τ4 → (∀ e, e < E → gI τ4 1374 0 e = if e = 0 then 1 else 0) → ∃ τ', wh (fun s => fX12_layCovers_l58 ((2 ^ evN σ : Nat) : Int) s.1 s.2) (((E : Int), τ4)) = some τ' ∧ Ex [1374] τ3 τ' ∧ ∀ e, e < 2 ^ evN σ → gI τ' 1374 0 e = if e = 0 then 1 else 0 := by
    intro i
    induction i with
    | zero =>
      intro E hE τ4 hx h
      refine ⟨τ4, wh_inr ?_, hx, fun e he => h e (by omega)⟩
      show fX12_layCovers_l58 _ (E : Int) τ4 = _
      unfold fX12_layCovers_l58
      rw [if_pos (by omega)]
    | succ i ih =>
      intro E hE τ4 hx h
      obtain ⟨τ', k1, k2⟩ := ih (E + 1) (by omega) (sI τ4 1374 0 E (if E = 0 then 1 else 0)) (hx.sI (by decide)) (fun e he => by
        by_cases q : e = E
        · rw [q, gs]
        · rw [ii (by omega)]; exact h e (by omega))
      refine ⟨τ', wh_inl ?_ k1, k2⟩
      show fX12_layCovers_l58 _ (E : Int) τ4 = some (.inl (((E + 1 : Nat) : Int), sI τ4 1374 0 E (if E = 0 then 1 else 0)))
      unfold fX12_layCovers_l58 fX12_layCovers_j77
      by_cases q : E = 0
      · rw [if_neg (by omega), if_pos (by omega), if_pos q, ck_x (by omega) (by omega), ck_b (Or.inr rfl), ck_i (by omega) (by omega), Int.toNat_natCast]; rfl
      · rw [if_neg (by omega), if_neg (by omega), if_neg q, ck_x (by omega) (by omega), ck_b (Or.inl rfl), ck_i (by omega) (by omega), Int.toNat_natCast]; rfl
  obtain ⟨τ4, u1, u2, u3⟩ := key (2 ^ evN σ) 0 (by omega) τ3 Ex.rf (fun e he => by omega)
  have e00 : ∀ k, evS σ 0 k = 0 := by
    intro k
    induction k with
    | zero => rfl
    | succ k ih =>
      show (if (0 : Nat).testBit k = true then _ else evS σ 0 k) = 0
      rw [if_neg (by rw [Nat.zero_testBit]; decide), ih]
  have h40 : T374 σ τ4 0 := by
    intro E hE
    rw [u3 E hE]
    by_cases q : E = 0
    · rw [if_pos q]
      refine Or.inl ⟨rfl, ?_⟩
      show rkS σ E = 0
      apply Nat.eq_of_testBit_eq
      intro i
      rw [rkS_bit, q, Nat.zero_testBit, Nat.zero_testBit]; simp
    · rw [if_neg q]
      refine Or.inr ⟨rfl, fun z => q ?_⟩
      have z : rkS σ E = 0 := z
      have := ev_rk hC hE
      rw [z, e00] at this
      exact this.symm
  have key2 : ∀ i m, m + i = 4 → ∀ τ5, Ex [1374, 1375] τ4 τ5 → T374 σ τ5 m → ∃ τ', wh (fun s => fX12_layCovers_l86 ((2 ^ evN σ : Nat) : Int) s.1 s.2) (((m : Int), τ5)) = some τ' ∧ Ex [1374, 1375] τ4 τ' ∧ T374 σ τ' 4 := by
    intro i
    induction i with
    | zero =>
      intro m hm τ5 hx h
      have : m = 4 := by omega
      subst this
      refine ⟨τ5, wh_inr ?_, hx, h⟩
      show fX12_layCovers_l86 _ ((4 : Nat) : Int) τ5 = _
      unfold fX12_layCovers_l86
      rw [if_pos (by decide)]
    | succ i ih =>
      intro m hm τ5 hx h
      obtain ⟨τ6, w1, w2, w3⟩ := man_go (m := m) hR (by omega) (fun m' E z1 z2 => by rw [hx.i (c := 1373) (by decide), u2.i (c := 1373) (by decide)]; exact g3 m' E z1 z2) h
      obtain ⟨τ', k1, k2⟩ := ih (m + 1) (by omega) τ6 (hx.trans w2) w3
      exact ⟨τ', wh_inl w1 k1, k2⟩
  obtain ⟨τ5, v1, v2, v3⟩ := key2 4 0 (by omega) τ4 Ex.rf h40
  refine ⟨τ5, ?_, ((((o2.mono (by decide)).trans (t2.mono (by decide))).trans (g2.mono (by decide))).trans (u2.mono (by decide))).trans (v2.mono (by decide)), v3⟩
  unfold fX12_layCovers fX12_layCovers_j17 fX12_layCovers_j56 fX12_layCovers_j58 fX12_layCovers_j84 fX12_layCovers_j86 fX12_layCovers_j220
  rw [o1, bnd_some, t1, bnd_some, a2.i (c := 1369) (by decide), c2, hsh]
  exact bnk_of g1 (bnk_of u1 (bnk_of v1 rfl))
