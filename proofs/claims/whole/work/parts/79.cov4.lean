/-! men and events: the model, order and times -/
theorem onto_of {n : Nat} {s : Nat → Nat} (hn : n ≤ 8) (h1 : ∀ k, k < n → s k < n) (h2 : ∀ r q, r < n → q < n → s r = s q → r = q) {e : Nat} (he : e < n) : ∃ r, r < n ∧ s r = e := by
  have hg : ∀ k, k < n → s k < n ∧ ¬ (jset n s k).testBit (s k) = true := by
    intro k hk
    refine ⟨h1 k hk, fun z => ?_⟩
    obtain ⟨k', k1, k2, k3⟩ := (jset_bit k (s k)).mp z
    have := h2 k' k (by omega) hk k2
    omega
  have hp := pc_row hn n hg
  have hl := jset_lt (n := n) (s := s) n
  have h256 : 2 ^ n ≤ 2 ^ 8 := Nat.pow_le_pow_right (by omega) hn
  have hf : jset n s n = 2 ^ n - 1 := pc8_full ⟨n, by omega⟩ ⟨jset n s n, by omega⟩ hl hp
  have hb : (jset n s n).testBit e = true := by
    rw [hf, Nat.testBit_two_pow_sub_one]
    simp [he]
  obtain ⟨r, r1, r2, r3⟩ := (jset_bit n e).mp hb
  exact ⟨r, r1, r2⟩
/-- in order of hours -/
def SRT (n : Nat) (H : Nat → Int) (s : Nat → Nat) : Prop := (∀ i, i < n → s i < n) ∧ ∀ i j, i < j → j < n → s i ≠ s j ∧ (H (s i) < H (s j) ∨ (H (s i) = H (s j) ∧ s i < s j))
theorem SRT.inj {n : Nat} {H : Nat → Int} {s : Nat → Nat} (h : SRT n H s) (r q : Nat) (hr : r < n) (hq : q < n) (he : s r = s q) : r = q := by
  apply Classical.byContradiction
  intro c
  by_cases z : r < q
  · exact (h.2 r q z hq).1 he
  · exact (h.2 q r (by omega) hr).1 he.symm
theorem SRT_one {n : Nat} {H : Nat → Int} {s t : Nat → Nat} (hn : n ≤ 8) (h1 : SRT n H s) (h2 : SRT n H t) : ∀ k, k < n → s k = t k := by
  have key : ∀ m, ∀ k, k < m → k < n → s k = t k := by
    intro m
    induction m with
    | zero => intro k hk; omega
    | succ m ih =>
      intro k hk hkn
      have half : ∀ (a b : Nat → Nat), SRT n H a → SRT n H b → (∀ j, j < k → a j = b j) → H (a k) < H (b k) ∨ (H (a k) = H (b k) ∧ a k ≤ b k) := by
        intro a b ha hb hab
        obtain ⟨j, j1, j2⟩ := onto_of hn ha.1 (ha.inj) (hb.1 k hkn)
        by_cases q : j < k
        · have := hab j q
          rw [j2] at this
          have := hb.inj k j hkn j1 this
          omega
        · by_cases q2 : j = k
          · rw [← j2, q2]; exact Or.inr ⟨rfl, Nat.le_refl _⟩
          · have := (ha.2 k j (by omega) j1).2
            rw [← j2]
            omega
      have a1 := half s t h1 h2 (fun j hj => ih j (by omega) (by omega))
      have a2 := half t s h2 h1 (fun j hj => (ih j (by omega) (by omega)).symm)
      omega
  intro k hk
  exact key n k hk hk
theorem RC.srt {σ : St} (h : RC σ) : SRT (evN σ) (fun e => gI σ 104 0 e) (evB σ) := by
  obtain ⟨c1, c2, c3, c4, c5, c6⟩ := h.ev
  exact ⟨fun i hi => (c4 i hi).2, c5⟩
def shO (σ : St) (n : Nat) : Nat → St
  | 0 => σ
  | k + 1 => sI (shO σ n k) 1376 0 (n - k) (gI (shO σ n k) 1376 0 (n - k - 1))
theorem shO_p (σ : St) (n k : Nat) (hk : k ≤ n) : Ex [1376] σ (shO σ n k) ∧ ∀ e, gI (shO σ n k) 1376 0 e = if n - k < e ∧ e ≤ n then gI σ 1376 0 (e - 1) else gI σ 1376 0 e := by
  induction k with
  | zero => exact ⟨Ex.rf, fun e => by rw [if_neg (by omega)]; rfl⟩
  | succ k ih =>
    have ih := ih (by omega)
    refine ⟨ih.1.sI (by decide), fun e => ?_⟩
    show gI (sI (shO σ n k) 1376 0 (n - k) (gI (shO σ n k) 1376 0 (n - k - 1))) 1376 0 e = _
    rw [gI_sI, ih.2 (n - k - 1), ih.2 e]
    by_cases c : e = n - k
    · rw [if_pos ⟨rfl, rfl, c⟩, if_neg (by omega), if_pos (by omega), c]
    · rw [if_neg (by omega)]
      by_cases c2 : n - k < e ∧ e ≤ n
      · rw [if_pos c2, if_pos (by omega)]
      · rw [if_neg c2, if_neg (by omega)]
theorem order_m {σ τ : St} (hR : RR σ) (ha : Ag σ τ) : ∃ τ', fX12_layOrder τ = some ((), τ') ∧ Ex [1376] τ τ' ∧ ∀ k, k < evN σ → gI τ' 1376 0 k = (evB σ k : Int) := by
  have hC := hR.2.2.2.2.2.2.2.2.2.1
  obtain ⟨c1, c2, c3, c4, c5, c6⟩ := hC.ev
  have key : ∀ m n, n + m = evN σ → ∀ τ1, Ex [1376] τ τ1 → (∃ s, SRT n (fun e => gI σ 104 0 e) s ∧ ∀ k, k < n → gI τ1 1376 0 k = (s k : Int)) → ∃ τ', wh (fun s => fX12_layOrder_l2 s.1 s.2) (((n : Int), τ1)) = some τ' ∧ Ex [1376] τ τ' ∧ ∃ s, SRT (evN σ) (fun e => gI σ 104 0 e) s ∧ ∀ k, k < evN σ → gI τ' 1376 0 k = (s k : Int) := by
    intro m
    induction m with
    | zero =>
      intro n hn τ1 hx hs
      have : n = evN σ := by omega
      subst this
      refine ⟨τ1, wh_inr ?_, hx, hs⟩
      show fX12_layOrder_l2 (evN σ : Int) τ1 = _
      unfold fX12_layOrder_l2
      rw [hx.i (c := 1369) (by decide), ha.i (c := 1369) (by decide), c2, if_pos (Int.le_refl _)]
    | succ m ih =>
      intro n hn τ1 hx hs
      obtain ⟨s, s1, s2⟩ := hs
      obtain ⟨p, h1, h2, h3⟩ := ins_ex n (fun e => gI σ 104 0 (s e)) (gI σ 104 0 n)
      obtain ⟨v1, v2⟩ := ins_ok (n := n) (p := p) (B := s) (H := fun e => gI σ 104 0 e) (x := gI σ 104 0 n) h1 s1.1 s1.2 h2 h3
      have hH : insH n (gI σ 104 0 n) (fun e => gI σ 104 0 e) = fun e => gI σ 104 0 e := by
        funext y
        unfold insH
        by_cases q : y = n
        · rw [if_pos q, q]
        · rw [if_neg q]
      rw [hH] at v2
      obtain ⟨y1, y2⟩ := shO_p τ1 n (n - p) (by omega)
      have e71 : ∀ e, e < evN σ → gI τ1 1371 0 e = gI σ 104 0 e := fun e he => by rw [hx.i (c := 1371) (by decide), ha.i (c := 1371) (by decide)]; exact (c6 e he).2.1
      have hw : wh (fun z => fX12_layOrder_l12 (n : Int) z.1 z.2) (((n : Int), τ1)) = some ((p : Int), shO τ1 n (n - p)) := by
        have hw := wh_seq (f := fun z => fX12_layOrder_l12 (n : Int) z.1 z.2) (r := ((p : Int), shO τ1 n (n - p))) (n - p) (fun k => ((n : Int) - (k : Int), shO τ1 n k)) ?_ ?_
        · rw [show ((n : Int), τ1) = ((n : Int) - ((0 : Nat) : Int), shO τ1 n 0) from by rw [show ((n : Int) - ((0 : Nat) : Int)) = (n : Int) by omega]; rfl]
          exact hw
        · intro k hk
          obtain ⟨w1, w2⟩ := shO_p τ1 n k (by omega)
          have u2 := s1.1 (n - k - 1) (by omega)
          have h4 : gI σ 104 0 n < gI σ 104 0 (s (n - k - 1)) := h2 (n - k - 1) (by omega) (by omega)
          have e1 : ((n : Int) - (k : Int) - 1).toNat = n - k - 1 := by omega
          have e2 : ((n : Int) - (k : Int)).toNat = n - k := by omega
          have e3 : gI (shO τ1 n k) 1376 0 (n - k - 1) = (s (n - k - 1) : Int) := by rw [w2, if_neg (by omega)]; exact s2 _ (by omega)
          show fX12_layOrder_l12 (n : Int) ((n : Int) - (k : Int)) (shO τ1 n k) = some (.inl ((n : Int) - ((k + 1 : Nat) : Int), sI (shO τ1 n k) 1376 0 (n - k) (gI (shO τ1 n k) 1376 0 (n - k - 1))))
          unfold fX12_layOrder_l12
          rw [if_neg (by omega), ck_i (by omega) (by omega), ck_x (by omega) (by omega), e1, e3, ck_x (by omega) (by omega), ck_x (by omega) (by omega), Int.toNat_natCast, Int.toNat_natCast, w1.i (c := 1371) (by decide), w1.i (c := 1371) (by decide), e71 _ (by omega), e71 _ (by omega), if_neg (by omega), ck_i (by omega) (by omega), ck_x (by omega) (by omega), ck_x (by omega) (by omega), ck_i (by omega) (by omega), e2, show (n : Int) - (k : Int) + -1 = (n : Int) - ((k + 1 : Nat) : Int) by omega]
        · have e0 : (n : Int) - ((n - p : Nat) : Int) = (p : Int) := by omega
          show fX12_layOrder_l12 (n : Int) ((n : Int) - ((n - p : Nat) : Int)) (shO τ1 n (n - p)) = _
          rw [e0]
          unfold fX12_layOrder_l12
          by_cases d : p = 0
          · rw [if_pos (by omega)]
          · have u2 := s1.1 (p - 1) (by omega)
            have e1 : ((p : Int) - 1).toNat = p - 1 := by omega
            have e3 : gI (shO τ1 n (n - p)) 1376 0 (p - 1) = (s (p - 1) : Int) := by rw [y2, if_neg (by omega)]; exact s2 _ (by omega)
            have h4 : gI σ 104 0 (s (p - 1)) ≤ gI σ 104 0 n := by rcases h3 with h | h; exact absurd h d; exact h
            rw [if_neg (by omega), ck_i (by omega) (by omega), ck_x (by omega) (by omega), e1, e3, ck_x (by omega) (by omega), ck_x (by omega) (by omega), Int.toNat_natCast, Int.toNat_natCast, y1.i (c := 1371) (by decide), y1.i (c := 1371) (by decide), e71 _ (by omega), e71 _ (by omega), if_pos h4]
      obtain ⟨τ', k1, k2⟩ := ih (n + 1) (by omega) (sI (shO τ1 n (n - p)) 1376 0 p (n : Int)) ((hx.trans y1).sI (by decide)) ⟨insB n p s, ⟨v1, v2⟩, fun k hk => by
        rw [gI_sI, y2]
        unfold insB
        by_cases d : k = p
        · rw [if_pos ⟨rfl, rfl, d⟩, if_pos d]
        · rw [if_neg (fun z => d z.2.2), if_neg d]
          by_cases d2 : p < k
          · rw [if_pos (by omega), if_pos d2]; exact s2 _ (by omega)
          · rw [if_neg (by omega), if_neg d2]; exact s2 _ (by omega)⟩
      refine ⟨τ', wh_inl ?_ k1, k2⟩
      show fX12_layOrder_l2 (n : Int) τ1 = some (.inl (((n + 1 : Nat) : Int), sI (shO τ1 n (n - p)) 1376 0 p (n : Int)))
      unfold fX12_layOrder_l2 fX12_layOrder_j12 fX12_layOrder_j58
      rw [hx.i (c := 1369) (by decide), ha.i (c := 1369) (by decide), c2, if_neg (by omega), hw, bnk_some, ck_x (by omega) (by omega), ck_i (by omega) (by omega), Int.toNat_natCast]; rfl
  obtain ⟨τ', k1, k2, s, s1, s2⟩ := key (evN σ) 0 (by omega) τ Ex.rf ⟨fun _ => 0, ⟨fun i hi => by omega, fun i j _ hj => by omega⟩, fun k hk => by omega⟩
  refine ⟨τ', ?_, k2, fun k hk => by rw [s2 k hk, SRT_one c3 s1 hC.srt k hk]⟩
  unfold fX12_layOrder fX12_layOrder_j2 fX12_layOrder_j71
  exact bnk_of k1 rfl
/-- who can be there in time, by events -/
def rchE (σ : St) (p h : Int) (e : Nat) : Bool := decide (tvD σ 1 p.toNat h (gI σ 103 0 e).toNat ≤ gI σ 104 0 e)
def tmB (σ : St) (i j : Nat) : Bool := if i < 8 then (decide (i < evN σ) && rchE σ (gI σ 103 0 i) (gI σ 104 0 i) j) else (decide (¬ gI σ 100 0 (i - 8) = -9) && rchE σ (gI σ 100 0 (i - 8)) (gI σ 101 0 (i - 8)) j)
theorem time1_m {σ τ : St} {i j : Nat} (hR : RR σ) (ha : Ag σ τ) (hi : i < 12) (hj : j < evN σ) : ∃ τ', fX12_layTimes_l10 (i : Int) (j : Int) τ = some (.inl (((j + 1 : Nat) : Int), sI τ' 1377 0 (8 * i + j) (b2i (tmB σ i j = true)))) ∧ Ex [1309] τ τ' := by
  have hC := hR.2.2.2.2.2.2.2.2.2.1
  obtain ⟨c1, c2, c3, c4, c5, c6⟩ := hC.ev
  obtain ⟨e1, e2, e3, e4, e5, e6⟩ := c6 j hj
  have t : (8 * (i : Int) + (j : Int)).toNat = 8 * i + j := by omega
  have j181 : ∀ (b : Int) (τ' : St), (b = 0 ∨ b = 1) → fX12_layTimes_j181 (i : Int) (j : Int) (8 * (i : Int) + (j : Int)) b τ' = some (.inl (((j + 1 : Nat) : Int), sI τ' 1377 0 (8 * i + j) b)) := by
    intro b τ' hb
    unfold fX12_layTimes_j181
    rw [ck_x (by omega) (by omega), ck_b hb, ck_i (by omega) (by omega), t]; rfl
  -- where the start is
  have ask : ∀ p h : Int, (0 ≤ p ∧ p ≤ 7) → (0 ≤ h ∧ h ≤ 9999) → ∃ τ', fX12_layTimes_j135 (i : Int) (j : Int) 1 p h τ = some (.inl (((j + 1 : Nat) : Int), sI τ' 1377 0 (8 * i + j) (b2i (rchE σ p h j = true)))) ∧ Ex [1309] τ τ' := by
    intro p h hp hh
    obtain ⟨p', rfl⟩ := Int.eq_ofNat_of_zero_le hp.1
    obtain ⟨q, hq⟩ := Int.eq_ofNat_of_zero_le e4.1
    obtain ⟨τ1, t1, t2⟩ := tr_m (ha.rr hR).2.1 (l := 1) (Or.inr rfl) (p := p') (d := q) (h := h) (by omega) (by omega) (by omega)
    have etv : tvD τ 1 p' h q = tvD σ 1 p' h q := by
      obtain ⟨S, d, e⟩ := ha
      rw [tvD_ex e (dj_use (dj_sub d (sub_all (by decide))))]
    rw [etv] at t1
    refine ⟨τ1, ?_, t2⟩
    unfold fX12_layTimes_j135 fX12_layTimes_j180
    rw [ck_i (by omega) (by omega), ck_i (by omega) (by omega), if_neg (by decide), ck_x (by omega) (by omega), Int.toNat_natCast, ha.i (c := 1370) (by decide), e1, hq, t1, bnd_some, ck_x (by omega) (by omega), t2.i (c := 1371) (by decide), ha.i (c := 1371) (by decide), e2]
    unfold rchE
    rw [hq, Int.toNat_natCast, Int.toNat_natCast]
    by_cases c : tvD σ 1 p' h q ≤ gI σ 104 0 j
    · rw [if_neg (by omega), j181 1 _ (Or.inr rfl), b2i_pos (by simp [c])]
    · rw [if_pos (by omega), j181 0 _ (Or.inl rfl), b2i_neg (by simp [c])]
  have no : ∀ x : Int, fX12_layTimes_j135 (i : Int) (j : Int) 0 0 x τ = some (.inl (((j + 1 : Nat) : Int), sI τ 1377 0 (8 * i + j) 0)) := by
    intro x
    unfold fX12_layTimes_j135 fX12_layTimes_j180
    rw [ck_i (by omega) (by omega), ck_i (by omega) (by omega), if_pos rfl, j181 0 _ (Or.inl rfl)]
  have l10 : fX12_layTimes_l10 (i : Int) (j : Int) τ = fX12_layTimes_j29 (i : Int) (j : Int) (if i < 8 then 0 else 1) τ := by
    unfold fX12_layTimes_l10
    rw [ha.i (c := 1369) (by decide), c2, if_neg (by omega)]
    by_cases c : i < 8
    · rw [if_pos (by omega), if_pos c]
    · rw [if_neg (by omega), if_neg c]
  rw [l10]
  unfold tmB
  by_cases c : i < 8
  · rw [if_pos c, if_pos c]
    unfold fX12_layTimes_j29 fX12_layTimes_j69 fX12_layTimes_j102
    rw [if_pos rfl, ha.i (c := 1369) (by decide), c2]
    by_cases d : i < evN σ
    · obtain ⟨f1, f2, f3, f4, f5, f6⟩ := c6 i d
      obtain ⟨τ', k1, k2⟩ := ask (gI σ 103 0 i) (gI σ 104 0 i) f4 f5
      refine ⟨τ', ?_, k2⟩
      rw [if_neg (by omega), if_neg (by decide), if_pos rfl, ck_x (by omega) (by omega), if_neg (by decide), if_pos rfl, ck_x (by omega) (by omega), Int.toNat_natCast, ha.i (c := 1370) (by decide), ha.i (c := 1371) (by decide), f1, f2, k1]
      simp [d]
    · refine ⟨τ, ?_, Ex.rf⟩
      rw [if_pos (by omega), if_pos rfl, if_pos rfl, no, b2i_neg (by simp [d])]
  · rw [if_neg c, if_neg c]
    obtain ⟨m1, m2, m3, m4⟩ := hC.1 (i - 8) (by omega)
    have t8 : ((i : Int) - 8).toNat = i - 8 := by omega
    unfold fX12_layTimes_j29 fX12_layTimes_j69 fX12_layTimes_j102
    rw [if_neg (by decide), ck_i (by omega) (by omega), ck_x (by omega) (by omega), t8, ha.i (c := 1367) (by decide), m1]
    by_cases d : gI σ 100 0 (i - 8) = -9
    · refine ⟨τ, ?_, Ex.rf⟩
      rw [if_pos d, if_pos rfl, if_pos rfl, no, b2i_neg (by simp [d])]
    · obtain ⟨τ', k1, k2⟩ := ask (gI σ 100 0 (i - 8)) (gI σ 101 0 (i - 8)) (by omega) m4
      refine ⟨τ', ?_, k2⟩
      rw [if_neg d, if_neg (by decide), if_neg (by decide), ck_i (by omega) (by omega), ck_x (by omega) (by omega), if_neg (by decide), if_neg (by decide), ck_i (by omega) (by omega), ck_x (by omega) (by omega), ha.i (c := 1368) (by decide), m2, k1]
      simp [d]
theorem times_m {σ τ : St} (hR : RR σ) (ha : Ag σ τ) : ∃ τ', fX12_layTimes τ = some ((), τ') ∧ Ex [1309, 1377] τ τ' ∧ ∀ i j, i < 12 → j < evN σ → gI τ' 1377 0 (8 * i + j) = b2i (tmB σ i j = true) := by
  have hC := hR.2.2.2.2.2.2.2.2.2.1
  obtain ⟨c1, c2, c3, c4, c5, c6⟩ := hC.ev
  have inner : ∀ i, i < 12 → ∀ m j, j + m = evN σ → ∀ τ1, Ex [1309, 1377] τ τ1 → (∀ i' j', i' < i → j' < evN σ → gI τ1 1377 0 (8 * i' + j') = b2i (tmB σ i' j' = true)) → (∀ j', j' < j → gI τ1 1377 0 (8 * i + j') = b2i (tmB σ i j' = true)) → ∃ τ', wh (fun s => fX12_layTimes_l10 (i : Int) s.1 s.2) (((j : Int), τ1)) = some τ' ∧ Ex [1309, 1377] τ τ' ∧ ∀ i' j', i' < i + 1 → j' < evN σ → gI τ' 1377 0 (8 * i' + j') = b2i (tmB σ i' j' = true) := by
    intro i hi m
    induction m with
    | zero =>
      intro j hj τ1 hx h1 h2
      refine ⟨τ1, wh_inr ?_, hx, fun i' j' z1 z2 => ?_⟩
      · show fX12_layTimes_l10 (i : Int) (j : Int) τ1 = _
        unfold fX12_layTimes_l10
        rw [hx.i (c := 1369) (by decide), ha.i (c := 1369) (by decide), c2, if_pos (by omega)]
      · by_cases q : i' = i
        · rw [q]; exact h2 j' (by omega)
        · exact h1 i' j' (by omega) z2
    | succ m ih =>
      intro j hj τ1 hx h1 h2
      obtain ⟨τ2, t1, t2⟩ := time1_m (i := i) (j := j) hR (ha.trans (Ag.of hx (by decide))) hi (by omega)
      obtain ⟨τ', k1, k2⟩ := ih (j + 1) (by omega) (sI τ2 1377 0 (8 * i + j) (b2i (tmB σ i j = true))) ((hx.trans (t2.mono (by decide))).sI (by decide)) (fun i' j' z1 z2 => by rw [ii (by omega), t2.i (c := 1377) (by decide)]; exact h1 i' j' z1 z2) (fun j' z => by
        by_cases q : j' = j
        · rw [q, gs]
        · rw [ii (by omega), t2.i (c := 1377) (by decide)]; exact h2 j' (by omega))
      exact ⟨τ', wh_inl t1 k1, k2⟩
  have outer : ∀ m i, i + m = 12 → ∀ τ1, Ex [1309, 1377] τ τ1 → (∀ i' j', i' < i → j' < evN σ → gI τ1 1377 0 (8 * i' + j') = b2i (tmB σ i' j' = true)) → ∃ τ', wh (fun s => fX12_layTimes_l2 s.1 s.2) (((i : Int), τ1)) = some τ' ∧ Ex [1309, 1377] τ τ' ∧ ∀ i' j', i' < 12 → j' < evN σ → gI τ' 1377 0 (8 * i' + j') = b2i (tmB σ i' j' = true) := by
    intro m
    induction m with
    | zero =>
      intro i hi τ1 hx h1
      refine ⟨τ1, wh_inr ?_, hx, fun i' j' z1 z2 => h1 i' j' (by omega) z2⟩
      show fX12_layTimes_l2 (i : Int) τ1 = _
      unfold fX12_layTimes_l2
      rw [if_pos (by omega)]
    | succ m ih =>
      intro i hi τ1 hx h1
      obtain ⟨τ2, t1, t2, t3⟩ := inner i (by omega) (evN σ) 0 (by omega) τ1 hx h1 (fun j' z => by omega)
      obtain ⟨τ', k1, k2⟩ := ih (i + 1) (by omega) τ2 t2 t3
      refine ⟨τ', wh_inl ?_ k1, k2⟩
      show fX12_layTimes_l2 (i : Int) τ1 = some (.inl (((i + 1 : Nat) : Int), τ2))
      unfold fX12_layTimes_l2 fX12_layTimes_j10 fX12_layTimes_j188
      rw [if_neg (by omega)]
      refine bnk_of t1 ?_
      rw [ck_i (by omega) (by omega)]; rfl
  obtain ⟨τ', k1, k2, k3⟩ := outer 12 0 (by omega) τ Ex.rf (fun i' j' z => by omega)
  refine ⟨τ', ?_, k2, k3⟩
  unfold fX12_layTimes fX12_layTimes_j2 fX12_layTimes_j194
  exact bnk_of k1 rfl
