/-! the best run: the class -/
theorem jj {c j e c2 j2 e2 : Nat} {σ : St} {v : Int} (h : ¬ (c2 = c ∧ j2 = j ∧ e2 = e)) : gJ (sJ σ c j e v) c2 j2 e2 = gJ σ c2 j2 e2 := by rw [gJ_sJ, if_neg h]
theorem js {c j e : Nat} {σ : St} {v : Int} : gJ (sJ σ c j e v) c j e = v := by rw [gJ_sJ, if_pos ⟨rfl, rfl, rfl⟩]
def hlN (σ : St) : Nat := (gI σ 300 0 0).toNat
def opN (σ : St) (w h : Nat) : Bool := hO (fun i => gI σ 301 0 i) (fun i => gI σ 302 0 i) w h
def gnN (σ : St) (w h : Nat) : Int := hG (fun i => gI σ 303 0 i) (fun i => gI σ 304 0 i) w h
def prN_ (σ : St) : Nat := (gI σ 305 0 0).toNat
def hWs (σ : St) (w x : Nat) : Int := hW (hlN σ) (fun i => gI σ 301 0 i) (fun i => gI σ 302 0 i) (fun i => gI σ 303 0 i) (fun i => gI σ 304 0 i) (prN_ σ) w x
theorem RH.hl {σ : St} (h : RH σ) : gI σ 300 0 0 = (hlN σ : Int) ∧ gI σ 1378 0 0 = (hlN σ : Int) ∧ hlN σ ≤ 8 ∧ (∀ i, i < hlN σ → gI σ 1379 0 i = gI σ 301 0 i ∧ gI σ 1380 0 i = gI σ 302 0 i ∧ gI σ 1381 0 i = gI σ 303 0 i ∧ 0 ≤ gI σ 301 0 i ∧ gI σ 301 0 i ≤ gI σ 302 0 i ∧ gI σ 302 0 i ≤ 8 ∧ (1 ≤ gI σ 303 0 i ∧ gI σ 303 0 i ≤ 9999)) ∧ (∀ i, i < 9 → gI σ 1382 0 i = gI σ 304 0 i ∧ 0 ≤ gI σ 304 0 i ∧ gI σ 304 0 i ≤ 100) ∧ gI σ 305 0 0 = (prN_ σ : Int) ∧ gI σ 1383 0 0 = (prN_ σ : Int) ∧ prN_ σ ≤ 8 := by
  obtain ⟨h1, h2, h3, h4, h5, h6, h7⟩ := h
  have e1 : gI σ 300 0 0 = (hlN σ : Int) := by unfold hlN; omega
  have e2 : gI σ 305 0 0 = (prN_ σ : Int) := by unfold prN_; omega
  exact ⟨e1, by rw [h1]; exact e1, by omega, fun i hi => h3 i (by omega), h4, e2, by rw [h5]; exact e2, by omega⟩
theorem ten_b : ∀ h : Fin 8, (1 : Int) ≤ 10 ^ (7 - (h : Nat)) ∧ (10 : Int) ^ (7 - (h : Nat)) ≤ 10000000 := by decide
theorem gn_bd {σ : St} {w h : Nat} (hH : RH σ) (hw : w < 9) (hh : h < hlN σ) : 0 ≤ gnN σ w h ∧ gnN σ w h ≤ 1000000000000 ∧ gI σ 303 0 h * gI σ 304 0 w ≤ 999900 ∧ 0 ≤ gI σ 303 0 h * gI σ 304 0 w := by
  obtain ⟨e1, e2, e3, e4, e5, e6, e7, e8⟩ := hH.hl
  obtain ⟨f1, f2, f3, f4, f5, f6, f7⟩ := e4 h hh
  obtain ⟨g1, g2, g3⟩ := e5 w hw
  obtain ⟨t1, t2⟩ := ten_b ⟨h, by omega⟩
  have m1 : gI σ 303 0 h * gI σ 304 0 w ≤ 9999 * 100 := Int.mul_le_mul f7.2 g3 g2 (by omega)
  have m2 : 0 ≤ gI σ 303 0 h * gI σ 304 0 w := Int.mul_nonneg (by omega) g2
  unfold gnN hG
  generalize gI σ 303 0 h * gI σ 304 0 w = X at m1 m2
  have m3 : 0 ≤ (9 - (w : Int)) * 10 ^ (7 - h) := Int.mul_nonneg (by omega) (by have : (1 : Int) ≤ 10 ^ (7 - h) := t1; omega)
  have m4 : (9 - (w : Int)) * 10 ^ (7 - h) ≤ 9 * 10000000 := Int.mul_le_mul (by omega) t2 (by have : (1 : Int) ≤ 10 ^ (7 - h) := t1; omega) (by omega)
  generalize (9 - (w : Int)) * 10 ^ (7 - h) = Y at m3 m4
  omega
theorem hcnt_pc {P : Nat → Bool} : ∀ n, n ≤ 8 → pc8 (setN P n) = hcnt P n := by
  intro n
  induction n with
  | zero => intro _; show pc8 0 = 0; decide
  | succ n ih =>
    intro hn
    have h1 := setN_lt P n
    have h2 : 2 ^ n ≤ 2 ^ 8 := Nat.pow_le_pow_right (by omega) (by omega)
    have h3 : (setN P n).testBit n = false := Nat.testBit_lt_two_pow h1
    show pc8 (if P n = true then setN P n ||| 2 ^ n else setN P n) = hcnt P n + if P n then 1 else 0
    by_cases c : P n = true
    · rw [if_pos c, if_pos c, ← ih (by omega)]
      exact pc8_or ⟨setN P n, by omega⟩ ⟨n, by omega⟩ h3
    · rw [if_neg c, if_neg c, ih (by omega)]; rfl
theorem xor_b8 : ∀ x : Fin 256, ∀ k : Fin 8, (x : Nat).testBit k = true → (x : Nat) ^^^ 2 ^ (k : Nat) = (x : Nat) - 2 ^ (k : Nat) ∧ 2 ^ (k : Nat) ≤ (x : Nat) := by decide +kernel
theorem max_jmax (a b : Int) : jmax a b = max a b := by
  unfold jmax
  rw [Int.max_def]
  by_cases c : b < a
  · rw [if_pos c, if_neg (by omega)]
  · rw [if_neg c, if_pos (by omega)]
theorem hp1_bd {op : Nat → Bool} {g f : Nat → Int} {x : Nat} {M G : Int} (hG : 0 ≤ G) {n : Nat} (hf : ∀ y, y ≤ x → 0 ≤ f y ∧ f y ≤ M) (hg : ∀ k, k < n → 0 ≤ g k ∧ g k ≤ G) : ∀ k, k ≤ n → 0 ≤ hp1 op g f x k ∧ hp1 op g f x k ≤ M + G := by
  intro k
  induction k with
  | zero => intro _; have := hf x (Nat.le_refl _); unfold hp1; omega
  | succ k ih =>
    intro hk
    have h1 := ih (by omega)
    have h2 := hg k (by omega)
    have h3 := hf (x - 2 ^ k) (Nat.sub_le _ _)
    unfold hp1
    split
    · rw [Int.max_def]; split <;> omega
    · exact h1
theorem hp1_0 {op : Nat → Bool} {g f : Nat → Int} : ∀ k, hp1 op g f 0 k = f 0 := by
  intro k
  induction k with
  | zero => rfl
  | succ k ih =>
    unfold hp1
    rw [Nat.zero_testBit, if_neg (by simp)]
    exact ih
theorem print_c {τ : St} {n : Nat} {op : Nat → Bool} {g f : Nat → Int} {M : Int} (hn : n ≤ 8) (h0 : gI τ 300 0 0 = (n : Int)) (hM : M ≤ 1000000000000000) (hf : ∀ x, x < 2 ^ n → gJ τ 307 0 x = f x ∧ 0 ≤ f x ∧ f x ≤ M) (hg : ∀ k, k < n → gJ τ 306 0 k = g k ∧ 0 ≤ g k ∧ g k ≤ 1000000000000) : ∃ τ', fX2_addPrint ((setN op n : Nat) : Int) τ = some ((), τ') ∧ Ex [307] τ τ' ∧ ∀ x, x < 2 ^ n → gJ τ' 307 0 x = hp1 op g f x n := by
  have h256 : 2 ^ n ≤ 2 ^ 8 := Nat.pow_le_pow_right (by omega) hn
  have h1p : 1 ≤ 2 ^ n := Nat.one_le_two_pow
  have hsl := setN_lt op n
  have hsh : ishl 1 (n : Int) = ((2 ^ n : Nat) : Int) := ishl_one ⟨n, by omega⟩
  have inner : ∀ x, 0 < x → x < 2 ^ n → ∀ i k, k + i = n → ∀ τ1, Ex [307] τ τ1 → (∀ y, y < x → gJ τ1 307 0 y = f y) → gJ τ1 307 0 x = hp1 op g f x k → ∃ τ', wh (fun s => fX2_addPrint_l15 ((setN op n : Nat) : Int) (x : Int) s.1 s.2) (((k : Int), τ1)) = some τ' ∧ Ex [307] τ τ' ∧ (∀ y, y ≠ x → gJ τ' 307 0 y = gJ τ1 307 0 y) ∧ gJ τ' 307 0 x = hp1 op g f x n := by
    intro x hx0 hx i
    induction i with
    | zero =>
      intro k hk τ1 hE hlo hc
      have : k = n := by omega
      subst this
      refine ⟨τ1, wh_inr ?_, hE, fun y _ => rfl, hc⟩
      show fX2_addPrint_l15 _ (x : Int) (k : Int) τ1 = _
      unfold fX2_addPrint_l15
      rw [hE.i (c := 300) (by decide), h0, if_pos (Int.le_refl _)]
    | succ i ih =>
      intro k hk τ1 hE hlo hc
      have hand : iand (x : Int) ((setN op n : Nat) : Int) = ((x &&& setN op n : Nat) : Int) := iand_nat (by omega) (by omega)
      have hle : x &&& setN op n ≤ x := Nat.and_le_left
      have hbit : (x &&& setN op n).testBit k = (x.testBit k && op k) := by
        rw [Nat.testBit_and, setN_bit]
        have : k < n := by omega
        simp [this]
      have hs : hp1 op g f x (k + 1) = if x.testBit k && op k then max (hp1 op g f x k) (f (x - 2 ^ k) + g k) else hp1 op g f x k := rfl
      have hpb := hp1_bd (op := op) (g := g) (f := f) (x := x) (M := M) (G := 1000000000000) (by omega) (n := n) (fun y hy => (hf y (by omega)).2) (fun k hk => (hg k hk).2) k (by omega)
      by_cases c : (x.testBit k && op k) = true
      · have cx : x.testBit k = true := by rw [Bool.and_eq_true] at c; exact c.1
        obtain ⟨z1, z2⟩ := xor_b8 ⟨x, by omega⟩ ⟨k, by omega⟩ cx
        have z1 : x ^^^ 2 ^ k = x - 2 ^ k := z1
        have z2 : 2 ^ k ≤ x := z2
        have hpk : 1 ≤ 2 ^ k := Nat.one_le_two_pow
        have hxr : ixor (x : Int) (ishl 1 (k : Int)) = ((x - 2 ^ k : Nat) : Int) := by
          rw [show ishl 1 (k : Int) = ((2 ^ k : Nat) : Int) from ishl_one ⟨k, by omega⟩, ixor_nat (by omega) (by omega), z1]
        have hfb := (hf (x - 2 ^ k) (by omega)).2
        have hgb := (hg k (by omega)).2
        have hg6 : gJ τ1 306 0 k = g k := by rw [hE.j (c := 306) (by decide)]; exact (hg k (by omega)).1
        obtain ⟨τ', k1, k2, k3, k4⟩ := ih (k + 1) (by omega) (sJ τ1 307 0 x (max (hp1 op g f x k) (f (x - 2 ^ k) + g k))) (hE.sJ (by decide)) (fun y hy => by rw [jj (by omega)]; exact hlo y hy) (by rw [js, hs, if_pos c])
        refine ⟨τ', wh_inl ?_ k1, k2, fun y hy => by rw [k3 y hy, jj (by omega)], k4⟩
        show fX2_addPrint_l15 _ (x : Int) (k : Int) τ1 = some (.inl (((k + 1 : Nat) : Int), sJ τ1 307 0 x (max (hp1 op g f x k) (f (x - 2 ^ k) + g k))))
        unfold fX2_addPrint_l15 fX2_addPrint_j65
        rw [hE.i (c := 300) (by decide), h0, if_neg (by omega), hand, hasM_eq (by omega) (by omega), bnkI, hbit, if_pos c, ck_x (by omega) (by omega), hxr, ck_x (by omega) (by omega), ck_x (by omega) (by omega), Int.toNat_natCast, Int.toNat_natCast, hlo _ (by omega), hg6, ck_pos ⟨by omega, by omega⟩, ck_x (by omega) (by omega), Int.toNat_natCast, hc, max_jmax, ck_i (by omega) (by omega)]; rfl
      · obtain ⟨τ', k1, k2, k3, k4⟩ := ih (k + 1) (by omega) τ1 hE hlo (by rw [hs, if_neg c]; exact hc)
        refine ⟨τ', wh_inl ?_ k1, k2, k3, k4⟩
        show fX2_addPrint_l15 _ (x : Int) (k : Int) τ1 = some (.inl (((k + 1 : Nat) : Int), τ1))
        unfold fX2_addPrint_l15 fX2_addPrint_j65
        rw [hE.i (c := 300) (by decide), h0, if_neg (by omega), hand, hasM_eq (by omega) (by omega), bnkI, hbit, if_neg c, ck_i (by omega) (by omega)]; rfl
  have outer : ∀ x, x < 2 ^ n → ∀ τ1, Ex [307] τ τ1 → (∀ y, y ≤ x → gJ τ1 307 0 y = f y) → (∀ y, x < y → y < 2 ^ n → gJ τ1 307 0 y = hp1 op g f y n) → ∃ τ', wh (fun s => fX2_addPrint_l9 ((setN op n : Nat) : Int) s.1 s.2) (((x : Int), τ1)) = some τ' ∧ Ex [307] τ τ' ∧ ∀ y, y < 2 ^ n → gJ τ' 307 0 y = hp1 op g f y n := by
    intro x
    induction x with
    | zero =>
      intro hx τ1 hE hl hh
      refine ⟨τ1, wh_inr ?_, hE, fun y hy => ?_⟩
      · show fX2_addPrint_l9 _ ((0 : Nat) : Int) τ1 = _
        unfold fX2_addPrint_l9
        rw [if_pos (by decide)]
      · by_cases q : y = 0
        · rw [q, hl 0 (Nat.le_refl _), hp1_0]
        · exact hh y (by omega) hy
    | succ x ih =>
      intro hx τ1 hE hl hh
      obtain ⟨τ2, i1, i2, i3, i4⟩ := inner (x + 1) (by omega) hx n 0 (by omega) τ1 hE (fun y hy => hl y (by omega)) (hl (x + 1) (Nat.le_refl _))
      obtain ⟨τ', k1, k2⟩ := ih (by omega) τ2 i2 (fun y hy => by rw [i3 y (by omega)]; exact hl y (by omega)) (fun y z1 z2 => by
        by_cases q : y = x + 1
        · rw [q]; exact i4
        · rw [i3 y q]; exact hh y (by omega) z2)
      refine ⟨τ', wh_inl ?_ k1, k2⟩
      show fX2_addPrint_l9 _ ((x + 1 : Nat) : Int) τ1 = some (.inl ((x : Int), τ2))
      unfold fX2_addPrint_l9 fX2_addPrint_j15 fX2_addPrint_j71
      rw [if_neg (by omega)]
      refine bnk_of i1 ?_
      rw [ck_i (by omega) (by omega), show ((x + 1 : Nat) : Int) + -1 = (x : Int) by omega]
  obtain ⟨τ', k1, k2, k3⟩ := outer (2 ^ n - 1) (by omega) τ Ex.rf (fun y hy => (hf y (by omega)).1) (fun y z1 z2 => by omega)
  refine ⟨τ', ?_, k2, k3⟩
  unfold fX2_addPrint fX2_addPrint_j9 fX2_addPrint_j77
  rw [h0, hsh, ck_i (by omega) (by omega), show ((2 ^ n : Nat) : Int) - 1 = ((2 ^ n - 1 : Nat) : Int) by omega]
  exact bnk_of k1 rfl
def Hc : List Nat := [300, 301, 302, 303, 304, 305]
theorem open_c {σ τ : St} {S : List Nat} {w : Nat} (hH : RH σ) (hx : Ex S σ τ) (hd : dj Hc S = true) (hw : w < 9) : ∃ τ', fX2_openIn (w : Int) τ = some (((setN (opN σ w) (hlN σ) : Nat) : Int), τ') ∧ Ex [306] τ τ' ∧ ∀ h, h < hlN σ → gJ τ' 306 0 h = gnN σ w h := by
  obtain ⟨e1, e2, e3, e4, e5, e6, e7, e8⟩ := hH.hl
  have du := dj_use hd
  have key : ∀ i h, h + i = hlN σ → ∀ τ1, Ex [306] τ τ1 → (∀ k, k < h → gJ τ1 306 0 k = gnN σ w k) → ∃ τ', wh (fun s => fX2_openIn_l4 (w : Int) s.1 s.2.1 s.2.2) ((((setN (opN σ w) h : Nat) : Int), (h : Int), τ1)) = some (((setN (opN σ w) (hlN σ) : Nat) : Int), τ') ∧ Ex [306] τ τ' ∧ ∀ h, h < hlN σ → gJ τ' 306 0 h = gnN σ w h := by
    intro i
    induction i with
    | zero =>
      intro h hh τ1 hE hk
      have : h = hlN σ := by omega
      subst this
      refine ⟨τ1, wh_inr ?_, hE, hk⟩
      show fX2_openIn_l4 (w : Int) _ (hlN σ : Int) τ1 = _
      unfold fX2_openIn_l4
      rw [hE.i (c := 300) (by decide), hx.i (du 300 (by decide)), e1, if_pos (Int.le_refl _)]
    | succ i ih =>
      intro h hh τ1 hE hk
      obtain ⟨b1, b2, b3, b4⟩ := gn_bd (w := w) (h := h) hH hw (by omega)
      obtain ⟨f1, f2, f3, f4, f5, f6, f7⟩ := e4 h (by omega)
      obtain ⟨t1, t2⟩ := ten_b ⟨h, by omega⟩
      have t1 : (1 : Int) ≤ 10 ^ (7 - h) := t1
      have t2 : (10 : Int) ^ (7 - h) ≤ 10000000 := t2
      have t : (7 - (h : Int)).toNat = 7 - h := by omega
      have m4 : 0 ≤ (9 - (w : Int)) * tens (7 - h) ∧ (9 - (w : Int)) * tens (7 - h) ≤ 90000000 := by
        unfold tens
        exact ⟨Int.mul_nonneg (by omega) (by omega), Int.le_trans (Int.mul_le_mul (show 9 - (w : Int) ≤ 9 by omega) t2 (by omega) (by omega)) (by decide)⟩
      have hdv : idiv (gI σ 303 0 h * gI σ 304 0 w) 100 = gI σ 303 0 h * gI σ 304 0 w / 100 := idivI (by omega) (by omega)
      have hg : gI σ 303 0 h * gI σ 304 0 w / 100 * 100000000 + (9 - (w : Int)) * tens (7 - h) = gnN σ w h := rfl
      have hwm := withS (P := opN σ w) (k := h) (by omega)
      have hop : b2i (gI σ 301 0 h ≤ (w : Int) ∧ (w : Int) ≤ gI σ 302 0 h) = b2i (opN σ w h = true) := by
        apply b2i_c
        unfold opN hO
        rw [decide_eq_true_iff]
      obtain ⟨τ', k1, k2⟩ := ih (h + 1) (by omega) (sJ τ1 306 0 h (gnN σ w h)) (hE.sJ (by decide)) (fun k hk' => by
        by_cases q : k = h
        · rw [q, js]
        · rw [jj (by omega)]; exact hk k (by omega))
      refine ⟨τ', wh_inl ?_ k1, k2⟩
      show fX2_openIn_l4 (w : Int) ((setN (opN σ w) h : Nat) : Int) (h : Int) τ1 = some (.inl (((setN (opN σ w) (h + 1) : Nat) : Int), ((h + 1 : Nat) : Int), sJ τ1 306 0 h (gnN σ w h)))
      unfold fX2_openIn_l4
      rw [hE.i (c := 300) (by decide), hx.i (du 300 (by decide)), e1, if_neg (by omega), ck_x (by omega) (by omega), ck_x (by omega) (by omega), Int.toNat_natCast, Int.toNat_natCast, hE.i (c := 303) (by decide), hx.i (du 303 (by decide)), hE.i (c := 304) (by decide), hx.i (du 304 (by decide)), hE.i (c := 301) (by decide), hx.i (du 301 (by decide)), hE.i (c := 302) (by decide), hx.i (du 302 (by decide)), ck_i (by omega) (by omega), hdv]
      generalize hX : gI σ 303 0 h * gI σ 304 0 w = X at b3 b4 hg
      rw [ck_pos (by constructor <;> omega), ck_i (by omega) (by omega), ck_i (by omega) (by omega), ck_x (by omega) (by omega), t, ck_i (by omega) (by omega), ck_pos (by constructor <;> omega), ck_x (by omega) (by omega), ck_x (by omega) (by omega), ck_x (by omega) (by omega), within_eq, bnk_some, hop, hwm, bnk_some, ck_i (by omega) (by omega), hg]; rfl
  obtain ⟨τ', k1, k2⟩ := key (hlN σ) 0 (by omega) τ Ex.rf (fun k hk => by omega)
  refine ⟨τ', ?_, k2⟩
  unfold fX2_openIn fX2_openIn_j4 fX2_openIn_j86
  exact bnk_of k1 rfl
