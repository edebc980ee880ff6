/-! the best run: the class's search -/
theorem fillJ {σ : St} : ∃ τ', fJ7_fill_d0a16 307 256 0 σ = some ((), τ') ∧ Ex [307] σ τ' ∧ ∀ x, x < 256 → gJ τ' 307 0 x = 0 := by
  have key : ∀ i k, k + i = 256 → ∀ τ1, Ex [307] σ τ1 → (∀ x, x < k → gJ τ1 307 0 x = 0) → ∃ τ', wh (fun s => fJ7_fill_d0a16_l6 307 256 0 ((256 : Nat) : Int) s.1 s.2) (((k : Int), τ1)) = some τ' ∧ Ex [307] σ τ' ∧ ∀ x, x < 256 → gJ τ' 307 0 x = 0 := by
    intro i
    induction i with
    | zero =>
      intro k hk τ1 hE h
      refine ⟨τ1, wh_inr ?_, hE, fun x hx => h x (by omega)⟩
      show fJ7_fill_d0a16_l6 307 256 0 ((256 : Nat) : Int) (k : Int) τ1 = _
      unfold fJ7_fill_d0a16_l6
      rw [if_pos (by omega)]
    | succ i ih =>
      intro k hk τ1 hE h
      obtain ⟨τ', k1, k2⟩ := ih (k + 1) (by omega) (sJ τ1 307 0 k 0) (hE.sJ (by decide)) (fun x hx => by
        by_cases c : x = k
        · rw [c, js]
        · rw [jj (by omega)]; exact h x (by omega))
      refine ⟨τ', wh_inl ?_ k1, k2⟩
      show fJ7_fill_d0a16_l6 307 256 0 ((256 : Nat) : Int) (k : Int) τ1 = some (.inl (((k + 1 : Nat) : Int), sJ τ1 307 0 k 0))
      unfold fJ7_fill_d0a16_l6
      rw [if_neg (by omega), ck_x (by omega) (by omega), ck_i (by omega) (by omega), Int.toNat_natCast]; rfl
  obtain ⟨τ', k1, k2⟩ := key 256 0 (by omega) σ Ex.rf (fun x hx => by omega)
  refine ⟨τ', ?_, k2⟩
  unfold fJ7_fill_d0a16 fJ7_fill_d0a16_j6
  exact bnk_of k1 rfl
theorem prints_c {τ : St} {n : Nat} {op : Nat → Bool} {g f : Nat → Int} {M : Int} {x1 : Int} {mm : Nat} (hn : n ≤ 8) (hm : mm ≤ 8) (h0 : gI τ 300 0 0 = (n : Int)) (hM0 : 0 ≤ M) (hM1 : M ≤ 100000000000000) (hg : ∀ k, k < n → gJ τ 306 0 k = g k ∧ 0 ≤ g k ∧ g k ≤ 1000000000000) : ∀ i m, m + i = mm → ∀ τ1, Ex [307] τ τ1 → (∀ x, x < 2 ^ n → gJ τ1 307 0 x = hM n op g m f x ∧ 0 ≤ hM n op g m f x ∧ hM n op g m f x ≤ M + 1000000000000 * (m : Int)) → ∃ τ', wh (fun s => fX2_search_l37 x1 ((setN op n : Nat) : Int) (mm : Int) s.1 s.2) (((m : Int), τ1)) = some τ' ∧ Ex [307] τ τ' ∧ ∀ x, x < 2 ^ n → gJ τ' 307 0 x = hM n op g mm f x ∧ 0 ≤ hM n op g mm f x ∧ hM n op g mm f x ≤ M + 1000000000000 * (mm : Int) := by
  intro i
  induction i with
  | zero =>
    intro m hm' τ1 hE h
    have : m = mm := by omega
    subst this
    refine ⟨τ1, wh_inr ?_, hE, h⟩
    show fX2_search_l37 x1 _ (m : Int) (m : Int) τ1 = _
    unfold fX2_search_l37
    rw [if_pos (Int.le_refl _)]
  | succ i ih =>
    intro m hm' τ1 hE h
    obtain ⟨τ2, p1, p2, p3⟩ := print_c (τ := τ1) (n := n) (op := op) (g := g) (f := hM n op g m f) (M := M + 1000000000000 * (m : Int)) hn (by rw [hE.i (c := 300) (by decide)]; exact h0) (by omega) h (fun k hk => by rw [hE.j (c := 306) (by decide)]; exact hg k hk)
    obtain ⟨τ', k1, k2⟩ := ih (m + 1) (by omega) τ2 (hE.trans p2) (fun x hx => by
      have hb := hp1_bd (op := op) (g := g) (f := hM n op g m f) (x := x) (M := M + 1000000000000 * (m : Int)) (G := 1000000000000) (by omega) (n := n) (fun y hy => (h y (by omega)).2) (fun k hk => (hg k hk).2) n (Nat.le_refl _)
      refine ⟨p3 x hx, hb.1, ?_⟩
      show hp1 op g (hM n op g m f) x n ≤ _
      omega)
    refine ⟨τ', wh_inl ?_ k1, k2⟩
    show fX2_search_l37 x1 _ (mm : Int) (m : Int) τ1 = some (.inl (((m + 1 : Nat) : Int), τ2))
    unfold fX2_search_l37
    rw [if_neg (by omega), p1, bnd_some, ck_i (by omega) (by omega)]; rfl
theorem hcnt_le (P : Nat → Bool) : ∀ n, hcnt P n ≤ n := by
  intro n
  induction n with
  | zero => exact Nat.le_refl _
  | succ n ih =>
    show hcnt P n + (if P n = true then 1 else 0) ≤ n + 1
    split <;> omega
theorem search_run {σ : St} (hH : RH σ) : ∃ τ', fX2_search σ = some ((), τ') ∧ Ex [306, 307] σ τ' ∧ ∀ x, x < 2 ^ hlN σ → gJ τ' 307 0 x = hWs σ 9 x ∧ 0 ≤ hWs σ 9 x ∧ hWs σ 9 x ≤ 72000000000000 := by
  obtain ⟨e1, e2, h8, h4, h5, e6, e7, e8⟩ := hH.hl
  have h256 : 2 ^ hlN σ ≤ 2 ^ 8 := Nat.pow_le_pow_right (by omega) h8
  have key : ∀ i w, w + i = 9 → ∀ τ1, Ex [306, 307] σ τ1 → (∀ x, x < 2 ^ hlN σ → gJ τ1 307 0 x = hWs σ w x ∧ 0 ≤ hWs σ w x ∧ hWs σ w x ≤ 8000000000000 * (w : Int)) → ∃ τ', wh (fun s => fX2_search_l10 s.1 s.2) (((w : Int), τ1)) = some τ' ∧ Ex [306, 307] σ τ' ∧ ∀ x, x < 2 ^ hlN σ → gJ τ' 307 0 x = hWs σ 9 x ∧ 0 ≤ hWs σ 9 x ∧ hWs σ 9 x ≤ 8000000000000 * ((9 : Nat) : Int) := by
    intro i
    induction i with
    | zero =>
      intro w hw τ1 hE h
      have : w = 9 := by omega
      subst this
      refine ⟨τ1, wh_inr ?_, hE, h⟩
      show fX2_search_l10 ((9 : Nat) : Int) τ1 = _
      unfold fX2_search_l10
      rw [if_pos (by decide)]
    | succ i ih =>
      intro w hw τ1 hE h
      obtain ⟨τ2, o1, o2, o3⟩ := open_c (w := w) hH hE (by decide) (by omega)
      have hpc := hcnt_pc (P := opN σ w) (hlN σ) h8
      have hcl := hcnt_le (opN σ w) (hlN σ)
      have hsl := setN_lt (opN σ w) (hlN σ)
      have hmm : imin (prN_ σ : Int) ((hcnt (opN σ w) (hlN σ) : Nat) : Int) = ((min (prN_ σ) (hcnt (opN σ w) (hlN σ)) : Nat) : Int) := by
        unfold imin
        split <;> omega
      obtain ⟨τ3, p1, p2, p3⟩ := prints_c (τ := τ2) (n := hlN σ) (op := opN σ w) (g := gnN σ w) (f := hWs σ w) (M := 8000000000000 * (w : Int)) (x1 := (w : Int)) (mm := min (prN_ σ) (hcnt (opN σ w) (hlN σ))) h8 (by omega) (by rw [o2.i (c := 300) (by decide), hE.i (c := 300) (by decide)]; exact e1) (by omega) (by omega) (fun k hk => ⟨o3 k hk, (gn_bd hH (by omega) hk).1, (gn_bd hH (by omega) hk).2.1⟩) (min (prN_ σ) (hcnt (opN σ w) (hlN σ))) 0 (by omega) τ2 Ex.rf (fun x hx => by
        rw [o2.j (c := 307) (by decide)]
        have := h x hx
        refine ⟨this.1, this.2.1, ?_⟩
        show hWs σ w x ≤ _
        omega)
      obtain ⟨τ', k1, k2⟩ := ih (w + 1) (by omega) τ3 ((hE.trans (o2.mono (by decide))).trans (p2.mono (by decide))) (fun x hx => by
        obtain ⟨a1, a2, a3⟩ := p3 x hx
        refine ⟨a1, a2, ?_⟩
        show hM (hlN σ) (opN σ w) (gnN σ w) (min (prN_ σ) (hcnt (opN σ w) (hlN σ))) (hWs σ w) x ≤ _
        omega)
      refine ⟨τ', wh_inl ?_ k1, k2⟩
      show fX2_search_l10 (w : Int) τ1 = some (.inl (((w + 1 : Nat) : Int), τ3))
      unfold fX2_search_l10
      rw [if_neg (by omega), o1, bnd_some, show fJ6_bitCount_0f7a4 ((setN (opN σ w) (hlN σ) : Nat) : Int) = some ((pc8 (setN (opN σ w) (hlN σ)) : Nat) : Int) from bitC ⟨setN (opN σ w) (hlN σ), by omega⟩, bnk_some, hpc, o2.i (c := 305) (by decide), hE.i (c := 305) (by decide), e6, hmm]
      unfold fX2_search_j37
      refine bnk_of p1 ?_
      unfold fX2_search_j54
      rw [ck_i (by omega) (by omega)]; rfl
  obtain ⟨τ1, f1, f2, f3⟩ := fillJ (σ := σ)
  obtain ⟨τ', k1, k2, k3⟩ := key 9 0 (by omega) τ1 (f2.mono (by decide)) (fun x hx => ⟨f3 x (by omega), Int.le_refl _, Int.le_refl _⟩)
  refine ⟨τ', ?_, k2, k3⟩
  unfold fX2_search
  rw [f1, bnd_some]
  unfold fX2_search_j10
  exact bnk_of k1 rfl
theorem hWs_ex {S : List Nat} {σ τ : St} (hx : Ex S σ τ) (hd : dj Hc S = true) : hlN τ = hlN σ ∧ prN_ τ = prN_ σ ∧ ∀ w x, hWs τ w x = hWs σ w x := by
  have du := dj_use hd
  have a0 := fun j e => hx.i (du 300 (by decide)) j e
  have a1 := fun j e => hx.i (du 301 (by decide)) j e
  have a2 := fun j e => hx.i (du 302 (by decide)) j e
  have a3 := fun j e => hx.i (du 303 (by decide)) j e
  have a4 := fun j e => hx.i (du 304 (by decide)) j e
  have a5 := fun j e => hx.i (du 305 (by decide)) j e
  refine ⟨?_, ?_, fun w x => ?_⟩
  · unfold hlN; rw [a0]
  · unfold prN_; rw [a5]
  · unfold hWs hlN prN_
    simp only [a0, a1, a2, a3, a4, a5]
theorem best_run {σ : St} (hH : RH σ) (hQ : RQ σ) : ∃ σ', fX2_bestRun σ = some (hWs σ 9 (2 ^ hlN σ - 1), σ') ∧ Ex [306, 307, 308] σ σ' ∧ RH σ' ∧ RQ σ' := by
  obtain ⟨e1, e2, h8, h4, h5, e6, e7, e8⟩ := hH.hl
  have h256 : 2 ^ hlN σ ≤ 2 ^ 8 := Nat.pow_le_pow_right (by omega) h8
  have h1p : 1 ≤ 2 ^ hlN σ := Nat.one_le_two_pow
  have hsh : ishl 1 (hlN σ : Int) = ((2 ^ hlN σ : Nat) : Int) := ishl_one ⟨hlN σ, by omega⟩
  have j16 : ∀ σ', gI σ' 300 0 0 = (hlN σ : Int) → fX2_bestRun_j16 σ' = some (gJ σ' 307 0 (2 ^ hlN σ - 1), σ') := by
    intro σ' h0
    unfold fX2_bestRun_j16
    rw [h0, hsh, ck_i (by omega) (by omega), ck_x (by omega) (by omega), show ((2 ^ hlN σ : Nat) : Int) - 1 = ((2 ^ hlN σ - 1 : Nat) : Int) by omega, Int.toNat_natCast]
  by_cases c : gI σ 308 0 0 = 0
  · obtain ⟨τ, s1, s2, s3⟩ := search_run hH
    have hx : Ex [306, 307, 308] σ (sI τ 308 0 0 1) := (s2.mono (by decide)).sI (by decide)
    obtain ⟨w1, w2, w3⟩ := hWs_ex hx (by decide)
    have hv : gJ (sI τ 308 0 0 1) 307 0 (2 ^ hlN σ - 1) = hWs σ 9 (2 ^ hlN σ - 1) := (s3 _ (by omega)).1
    refine ⟨sI τ 308 0 0 1, ?_, hx, ?_, ?_⟩
    · unfold fX2_bestRun
      rw [if_pos c, s1, bnd_some, j16 _ (by rw [hx.i (c := 300) (by decide)]; exact e1), hv]
    · obtain ⟨y1, y2, y3, y4, y5, y6, y7⟩ := hH
      have a0 := fun j e => hx.i (c := 300) (by decide) j e
      have a1 := fun j e => hx.i (c := 301) (by decide) j e
      have a2 := fun j e => hx.i (c := 302) (by decide) j e
      have a3 := fun j e => hx.i (c := 303) (by decide) j e
      have a4 := fun j e => hx.i (c := 304) (by decide) j e
      have a5 := fun j e => hx.i (c := 305) (by decide) j e
      have b0 := fun j e => hx.i (c := 1378) (by decide) j e
      have b1 := fun j e => hx.i (c := 1379) (by decide) j e
      have b2 := fun j e => hx.i (c := 1380) (by decide) j e
      have b3 := fun j e => hx.i (c := 1381) (by decide) j e
      have b4 := fun j e => hx.i (c := 1382) (by decide) j e
      have b5 := fun j e => hx.i (c := 1383) (by decide) j e
      unfold RH
      simp only [a0, a1, a2, a3, a4, a5, b0, b1, b2, b3, b4, b5]
      exact ⟨y1, y2, y3, y4, y5, y6, .inr gs⟩
    · intro _
      show gJ (sI τ 308 0 0 1) 307 0 (2 ^ hlN (sI τ 308 0 0 1) - 1) = hWs (sI τ 308 0 0 1) 9 (2 ^ hlN (sI τ 308 0 0 1) - 1)
      rw [w3, w1]
      exact hv
  · have c1 : gI σ 308 0 0 = 1 := by rcases hH.2.2.2.2.2.2 with q | q; exact absurd q c; exact q
    refine ⟨σ, ?_, Ex.rf, hH, hQ⟩
    unfold fX2_bestRun
    rw [if_neg c, j16 σ e1]
    have := hQ c1
    show some (gJ σ 307 0 (2 ^ hlN σ - 1), σ) = _
    rw [show gJ σ 307 0 (2 ^ hlN σ - 1) = hWs σ 9 (2 ^ hlN σ - 1) from this]
