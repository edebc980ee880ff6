/-! judge: both sides -/
theorem wM1 {a k : Nat} (ha : a < 2147483648) (hk : k < 31) : fX11_withMember (a : Int) (k : Int) 1 = some ((a ||| 2 ^ k : Nat) : Int) := by
  have h2 : 2 ^ k ≤ 2 ^ 30 := Nat.pow_le_pow_right (by omega) (by omega)
  unfold fX11_withMember
  rw [if_neg (by decide), show ishl 1 (k : Int) = ((2 ^ k : Nat) : Int) from ishl_one ⟨k, hk⟩, ior_nat ha (by omega)]
theorem ssum_bd {F : Nat → Int} {a n : Nat} {M : Int} (hM : 0 ≤ M) (hF : ∀ i, i < n → 0 ≤ F i ∧ F i ≤ M) (k : Nat) (hk : k ≤ n) : 0 ≤ sumN (fun i => if a.testBit i = true then F i else 0) k ∧ sumN (fun i => if a.testBit i = true then F i else 0) k ≤ M * k := by
  have := sumN_bd2 (g := fun i => if a.testBit i = true then F i else 0) (lo := 0) (hi := M) k (fun i hi => by
    show 0 ≤ (if a.testBit i = true then F i else 0) ∧ (if a.testBit i = true then F i else 0) ≤ M
    have := hF i (by omega)
    split <;> omega)
  omega
theorem sumO_c {τ : St} {a n c : Nat} {F : Nat → Int} (hn : gI τ 504 0 0 = (n : Int)) (h8 : n ≤ 8) (ha : a < 256) (hF : ∀ i, i < n → gI τ c 0 i = F i ∧ 0 ≤ F i ∧ F i ≤ 5400) : fX4_sumOver (a : Int) c 8 τ = some (ssum F a n) := by
  unfold fX4_sumOver fX4_sumOver_j5 fX4_sumOver_j36
  refine bnk_of (wh_sum (fun i => if a.testBit i = true then F i else 0) n (fun i hi => ?_) ?_) rfl
  · have hb := ssum_bd (a := a) (M := 5400) (by decide) (fun i hi => (hF i hi).2) i (by omega)
    obtain ⟨f1, f2, f3⟩ := hF i hi
    generalize sumN (fun i => if a.testBit i = true then F i else 0) i = A at hb
    show fX4_sumOver_l5 (a : Int) c 8 τ A (i : Int) = _
    unfold fX4_sumOver_l5 fX4_sumOver_j30
    rw [hn, if_neg (by omega), hasM_eq (by omega) (by omega), bnkI, Int.toNat_natCast, f1]
    by_cases q : a.testBit i = true
    · rw [if_pos q, if_pos q, ck_x (by omega) (by omega), ck_i (by omega) (by omega), ck_i (by omega) (by omega)]
    · rw [if_neg q, if_neg q, ck_i (by omega) (by omega), Int.add_zero]
  · show fX4_sumOver_l5 (a : Int) c 8 τ _ _ = _
    unfold fX4_sumOver_l5
    rw [hn, if_pos (by omega)]
theorem nib_ex (x : Int) : ∃ c, c ≤ 16 ∧ (∀ e, e < c → 1 ≤ nib x e) ∧ (c = 16 ∨ nib x c = 0) := by
  have key : ∀ n, (∀ e, e < n → 1 ≤ nib x e) ∨ ∃ c, c < n ∧ (∀ e, e < c → 1 ≤ nib x e) ∧ nib x c = 0 := by
    intro n
    induction n with
    | zero => exact Or.inl (fun e he => absurd he (Nat.not_lt_zero e))
    | succ n ih =>
      rcases ih with h | ⟨c, h1, h2, h3⟩
      · by_cases q : nib x n = 0
        · exact Or.inr ⟨n, by omega, h, q⟩
        · refine Or.inl (fun e he => ?_)
          by_cases q2 : e = n
          · rw [q2]; have := nib_bd x n; omega
          · exact h e (by omega)
      · exact Or.inr ⟨c, by omega, h2, h3⟩
  rcases key 16 with h | ⟨c, h1, h2, h3⟩
  · exact ⟨16, Nat.le_refl _, h, Or.inl rfl⟩
  · exact ⟨c, by omega, h2, Or.inr h3⟩
def nst (x : Int) (e : Nat) : Nat := (nib x e - 1).toNat
def apV (σ : St) (k : Nat) : Int := gI σ 1357 0 k
theorem feetV_bd {σ : St} {i : Nat} (hR : RR σ) (hi : i < gN σ 8) : 0 ≤ feetV σ i ∧ feetV σ i ≤ 5400 := by
  have hy := hR.2.2.2.2.1.2.2.2.1 i hi
  have := feet_bd hR.2.2.1 hy (n := szS σ i) (Nat.le_refl _)
  have := hy.sz
  unfold feetV
  omega
/-- the class's reading of a row -/
theorem lack_run {σ τ : St} {x : Int} (hR : RR σ) (ha : Ag σ τ) (h4 : gI τ 504 0 0 = (gN σ 8 : Int)) {k : Nat} (hk : k ≤ 16) (hp : ∀ e, e < k → 1 ≤ nib x e) (hg : ∀ e, e < k → nst x e < gN σ 8 ∧ ¬ (jset (gN σ 8) (nst x) e).testBit (nst x e) = true) {r : (Int × Int) ⊕ (Unit ⊕ (Int × Int))} (he : fX4_lack_l11 x τ ((jset (gN σ 8) (nst x) k : Nat) : Int) (if jlst (gN σ 8) (nst x) k = -9 then -1 else jlst (gN σ 8) (nst x) k) (jcl (gN σ 8) (nst x) (apV σ) k) (k : Int) = some (.inr r)) : wh (fun s => fX4_lack_l11 x τ s.1 s.2.1 s.2.2.1 s.2.2.2) ((0, -1, 0, 0)) = some r := by
  have hn := hR.2.2.2.2.1.2.2.1
  obtain ⟨y1, y2, y3, y4, y5, y6⟩ := hR.2.2.2.2.2.2.2.2.1
  have hw := wh_seq (f := fun s => fX4_lack_l11 x τ s.1 s.2.1 s.2.2.1 s.2.2.2) (r := r) k (fun e => (((jset (gN σ 8) (nst x) e : Nat) : Int), (if jlst (gN σ 8) (nst x) e = -9 then (-1 : Int) else jlst (gN σ 8) (nst x) e), jcl (gN σ 8) (nst x) (apV σ) e, (e : Int))) ?_ he
  · exact hw
  · intro e hek
    obtain ⟨g1, g2⟩ := hg e hek
    have hs : nib x e - 1 = (nst x e : Int) := by have := hp e hek; unfold nst; omega
    have hjl := jset_lt (n := gN σ 8) (s := nst x) e
    have h256 : 2 ^ gN σ 8 ≤ 2 ^ 8 := Nat.pow_le_pow_right (by omega) hn
    have hlb := jlst_bd (n := gN σ 8) (s := nst x) e
    have fin : ∀ b : Int, fX4_lack_j91 x ((jset (gN σ 8) (nst x) e : Nat) : Int) (e : Int) (nst x e : Int) b τ = some (.inl (((jset (gN σ 8) (nst x) (e + 1) : Nat) : Int), (nst x e : Int), b, ((e + 1 : Nat) : Int))) := by
      intro b
      unfold fX4_lack_j91
      rw [wM1 (by omega) (by omega), bnk_some, ck_i (by omega) (by omega)]
      show _ = some (Sum.inl ((((if nst x e < gN σ 8 then jset (gN σ 8) (nst x) e ||| 2 ^ nst x e else jset (gN σ 8) (nst x) e : Nat) : Int)), (nst x e : Int), b, ((e + 1 : Nat) : Int)))
      rw [if_pos g1]; rfl
    show fX4_lack_l11 x τ ((jset (gN σ 8) (nst x) e : Nat) : Int) (if jlst (gN σ 8) (nst x) e = -9 then (-1 : Int) else jlst (gN σ 8) (nst x) e) (jcl (gN σ 8) (nst x) (apV σ) e) (e : Int) = some (.inl (((jset (gN σ 8) (nst x) (e + 1) : Nat) : Int), (if (if nst x e < gN σ 8 then (nst x e : Int) else jlst (gN σ 8) (nst x) e) = -9 then (-1 : Int) else (if nst x e < gN σ 8 then (nst x e : Int) else jlst (gN σ 8) (nst x) e)), (if jcl (gN σ 8) (nst x) (apV σ) e = 0 then (if jlst (gN σ 8) (nst x) e = -9 then 0 else if apV σ (8 * (jlst (gN σ 8) (nst x) e).toNat + nst x e) = 0 then 0 else 1) else 1), ((e + 1 : Nat) : Int)))
    rw [if_pos g1, if_neg (show ¬ (nst x e : Int) = -9 by omega)]
    unfold fX4_lack_l11 fX4_lack_j86 fX4_lack_j90
    rw [if_neg (by omega), ck_i (by omega) (by omega), nib_u (by omega), l2i_nib, hs, ck_i (by omega) (by omega), if_pos (by omega), h4, if_neg (by omega), hasM_eq (by omega) (by omega), bnkI, if_neg g2, fin, fin]
    by_cases c1 : jcl (gN σ 8) (nst x) (apV σ) e = 0
    · rw [if_pos c1, if_pos c1]
      by_cases c2 : jlst (gN σ 8) (nst x) e = -9
      · rw [if_pos c2, if_pos (by decide), if_pos c2]
      · rw [if_neg c2, if_neg (by omega), if_neg c2, ck_x (by omega) (by omega), Int.toNat_natCast, ha.i (c := 502) (by decide)]
        obtain ⟨L, hL⟩ := Int.eq_ofNat_of_zero_le (show 0 ≤ jlst (gN σ 8) (nst x) e by omega)
        rw [hL] at hlb ⊢
        obtain ⟨z1, z2⟩ := (y5 (nst x e) (by omega)).has (k := L) (by omega) (by omega)
        rw [z1, bnk_some, Int.toNat_natCast]
        unfold apV
        rw [y6 (nst x e) L (by omega) (by omega)]
        split <;> rfl
    · rw [if_neg c1, if_neg c1]
/-- what a row lacks -/
def lackV (σ : St) (l d : Int) (bv : Nat → Int) (c : Nat) (x : Int) : Int := jfv (allB (fun e => rdyB σ (nst x e)) c) (allB (fun e => mayB σ l d bv (nst x e)) c) (jcl (gN σ 8) (nst x) (apV σ) c)
def lackR (σ : St) (l d : Int) (bv : Nat → Int) (c : Nat) (x : Int) : Int := if lackV σ l d bv c x = 9 then (if gI σ 500 0 0 ≤ ssum (feetV σ) (jset (gN σ 8) (nst x) c) (gN σ 8) ∧ ssum (feetV σ) (jset (gN σ 8) (nst x) c) (gN σ 8) ≤ gI σ 501 0 0 then (if iand ((jset (gN σ 8) (nst x) c : Nat) : Int) ((setN (msB σ l d bv) (gN σ 8) : Nat) : Int) = ((setN (msB σ l d bv) (gN σ 8) : Nat) : Int) then 0 else 6) else 5) else lackV σ l d bv c x
theorem jsub {n c : Nat} {s : Nat → Nat} {P : Nat → Bool} (hn : n ≤ 8) (hg : ∀ e, e < c → s e < n) : iand ((jset n s c : Nat) : Int) (ixor ((setN P n : Nat) : Int) (-1)) = 0 ↔ allB (fun e => P (s e)) c = true := by
  have h1 := jset_lt (n := n) (s := s) c
  have h2 := setN_lt P n
  have h3 : 2 ^ n ≤ 2 ^ 8 := Nat.pow_le_pow_right (by omega) hn
  rw [sub0 (by omega) (by omega), allB_iff]
  constructor
  · intro h e he
    have h4 := h (s e) ((jset_bit c (s e)).mpr ⟨e, he, rfl, hg e he⟩)
    rw [setN_bit, Bool.and_eq_true] at h4
    exact h4.2
  · intro h i hi
    obtain ⟨e, e1, e2, e3⟩ := (jset_bit c i).mp hi
    rw [setN_bit, Bool.and_eq_true, decide_eq_true_iff, ← e2]
    exact ⟨by omega, h e e1⟩
theorem lack_good {σ τ : St} {l d : Int} {bv : Nat → Int} {x : Int} (hR : RR σ) (h : LsC σ l d bv τ (gN σ 8)) {c : Nat} (hc : c ≤ 16) (hp : ∀ e, e < c → 1 ≤ nib x e) (hz : c = 16 ∨ nib x c = 0) (hg : ∀ e, e < c → nst x e < gN σ 8 ∧ ¬ (jset (gN σ 8) (nst x) e).testBit (nst x e) = true) : fX4_lack x τ = some (lackR σ l d bv c x) := by
  obtain ⟨ha, h4, h5, h6, h7, h8⟩ := id h
  have hn := hR.2.2.2.2.1.2.2.1
  obtain ⟨y1, y2, y3, y4, y5, y6⟩ := hR.2.2.2.2.2.2.2.2.1
  have hjl := jset_lt (n := gN σ 8) (s := nst x) c
  have hml := setN_lt (msB σ l d bv) (gN σ 8)
  have h256 : 2 ^ gN σ 8 ≤ 2 ^ 8 := Nat.pow_le_pow_right (by omega) hn
  have hend : fX4_lack x τ = fX4_lack_j111 ((jset (gN σ 8) (nst x) c : Nat) : Int) (jcl (gN σ 8) (nst x) (apV σ) c) τ := by
    unfold fX4_lack fX4_lack_j11
    by_cases q : c = 16
    · have hw := lack_run (x := x) hR ha h4 hc hp hg (r := .inr (.inr (((jset (gN σ 8) (nst x) c : Nat) : Int), jcl (gN σ 8) (nst x) (apV σ) c))) (by
        unfold fX4_lack_l11
        rw [if_pos (by omega)])
      exact bnk_of hw rfl
    · have hq : nib x c = 0 := by rcases hz with z | z; exact absurd z q; exact z
      have hw := lack_run (x := x) hR ha h4 hc hp hg (r := .inl (((jset (gN σ 8) (nst x) c : Nat) : Int), jcl (gN σ 8) (nst x) (apV σ) c)) (by
        unfold fX4_lack_l11
        rw [if_neg (by omega), ck_i (by omega) (by omega), nib_u (by omega), l2i_nib, hq, ck_i (by omega) (by omega), if_neg (by decide)])
      exact bnk_of hw rfl
  rw [hend]
  have hso := sumO_c (τ := τ) (a := jset (gN σ 8) (nst x) c) (c := 508) (F := feetV σ) h4 hn (by omega) (fun i hi => ⟨(h8 i hi).1, feetV_bd hR hi⟩)
  have k1 := jsub (c := c) (s := nst x) (P := rdyB σ) hn (fun e he => (hg e he).1)
  have k2 := jsub (c := c) (s := nst x) (P := alB σ l d bv) hn (fun e he => (hg e he).1)
  have k3 : iand ((setN (msB σ l d bv) (gN σ 8) : Nat) : Int) (ixor ((jset (gN σ 8) (nst x) c : Nat) : Int) (-1)) = 0 ↔ iand ((jset (gN σ 8) (nst x) c : Nat) : Int) ((setN (msB σ l d bv) (gN σ 8) : Nat) : Int) = ((setN (msB σ l d bv) (gN σ 8) : Nat) : Int) := by
    rw [sub0 (by omega) (by omega), sup0 (by omega) (by omega)]
  have hmay : allB (fun e => rdyB σ (nst x e)) c = true → (allB (fun e => mayB σ l d bv (nst x e)) c = true ↔ allB (fun e => alB σ l d bv (nst x e)) c = true) := by
    intro h1
    rw [allB_iff] at h1 ⊢
    rw [allB_iff]
    constructor
    · intro h2 e he
      have := h2 e he
      unfold mayB at this
      rw [Bool.and_eq_true] at this
      exact this.2
    · intro h2 e he
      unfold mayB
      rw [Bool.and_eq_true]
      exact ⟨h1 e he, h2 e he⟩
  unfold fX4_lack_j111 fX4_hasLength lackR lackV
  rw [h5, h6, h7, hso, bnk_some, within_eq, bnk_some, bnkI, ha.i (c := 500) (by decide), ha.i (c := 501) (by decide)]
  unfold jfv
  by_cases c1 : allB (fun e => rdyB σ (nst x e)) c = true
  · rw [if_pos (k1.mpr c1), if_pos c1]
    by_cases c2 : allB (fun e => mayB σ l d bv (nst x e)) c = true
    · rw [if_pos (k2.mpr ((hmay c1).mp c2)), if_pos c2]
      by_cases c3 : jcl (gN σ 8) (nst x) (apV σ) c = 0
      · rw [if_pos c3, if_pos c3, if_pos rfl]
        by_cases c4 : gI σ 500 0 0 ≤ ssum (feetV σ) (jset (gN σ 8) (nst x) c) (gN σ 8) ∧ ssum (feetV σ) (jset (gN σ 8) (nst x) c) (gN σ 8) ≤ gI σ 501 0 0
        · rw [if_pos c4, if_pos c4]
          by_cases c5 : iand ((jset (gN σ 8) (nst x) c : Nat) : Int) ((setN (msB σ l d bv) (gN σ 8) : Nat) : Int) = ((setN (msB σ l d bv) (gN σ 8) : Nat) : Int)
          · rw [if_pos (k3.mpr c5), if_pos c5]
          · rw [if_neg (fun z => c5 (k3.mp z)), if_neg c5]
        · rw [if_neg c4, if_neg c4]
      · rw [if_neg c3, if_neg c3, if_neg (by decide)]
    · rw [if_neg (fun z => c2 ((hmay c1).mpr (k2.mp z))), if_neg c2, if_neg (by decide)]
  · rw [if_neg (fun z => c1 (k1.mp z)), if_neg c1, if_neg (by decide)]
theorem lack_bad {σ τ : St} {x : Int} (hR : RR σ) (ha : Ag σ τ) (h4 : gI τ 504 0 0 = (gN σ 8 : Int)) {k : Nat} (hk : k < 16) (hp : ∀ e, e < k + 1 → 1 ≤ nib x e) (hg : ∀ e, e < k → nst x e < gN σ 8 ∧ ¬ (jset (gN σ 8) (nst x) e).testBit (nst x e) = true) (hb : ¬ (nst x k < gN σ 8 ∧ ¬ (jset (gN σ 8) (nst x) k).testBit (nst x k) = true)) : fX4_lack x τ = some 1 := by
  have hn := hR.2.2.2.2.1.2.2.1
  have hjl := jset_lt (n := gN σ 8) (s := nst x) k
  have h256 : 2 ^ gN σ 8 ≤ 2 ^ 8 := Nat.pow_le_pow_right (by omega) hn
  have hs : nib x k - 1 = (nst x k : Int) := by have := hp k (by omega); unfold nst; omega
  have h15 := nib_bd x k
  unfold fX4_lack fX4_lack_j11
  have hw := lack_run (x := x) hR ha h4 (Nat.le_of_lt hk) (fun e he => hp e (by omega)) hg (r := .inr (.inl ())) (by
    unfold fX4_lack_l11
    rw [if_neg (by omega), ck_i (by omega) (by omega), nib_u (by omega), l2i_nib, hs, ck_i (by omega) (by omega), if_pos (by omega), h4]
    by_cases c : nst x k < gN σ 8
    · have c2 : (jset (gN σ 8) (nst x) k).testBit (nst x k) = true := by
        by_cases q : (jset (gN σ 8) (nst x) k).testBit (nst x k) = true
        · exact q
        · exact absurd ⟨c, q⟩ hb
      rw [if_neg (by omega), hasM_eq (by omega) (by omega), bnkI, if_pos c2]
    · rw [if_pos (by omega)])
  exact bnk_of hw rfl
/-- the model's reading of a row -/
theorem judge_run {σ τ : St} {l d : Int} {bv : Nat → Int} {x : Int} (hR : RR σ) (h : LsM σ l d bv τ (gN σ 8)) {c : Nat} (hc : c ≤ 16) (hp : ∀ e, e < c → 1 ≤ nib x e) (hz : c = 16 ∨ nib x c = 0) : wh (fun s => fX12_judge_l39 x τ s.1 s.2.1 s.2.2.1 s.2.2.2.1 s.2.2.2.2) ((9, 0, 0, -9, 0)) = some (jf (gN σ 8) (nst x) (rdyB σ) (mayB σ l d bv) (apV σ) c, ((jset (gN σ 8) (nst x) c : Nat) : Int), jlen (gN σ 8) (nst x) (feetV σ) c) := by
  obtain ⟨ha, h2, h3⟩ := id h
  have hn := hR.2.2.2.2.1.2.2.1
  have hw := wh_seq (f := fun s => fX12_judge_l39 x τ s.1 s.2.1 s.2.2.1 s.2.2.2.1 s.2.2.2.2) (r := (jf (gN σ 8) (nst x) (rdyB σ) (mayB σ l d bv) (apV σ) c, ((jset (gN σ 8) (nst x) c : Nat) : Int), jlen (gN σ 8) (nst x) (feetV σ) c)) c (fun e => (jf (gN σ 8) (nst x) (rdyB σ) (mayB σ l d bv) (apV σ) e, ((jset (gN σ 8) (nst x) e : Nat) : Int), jlen (gN σ 8) (nst x) (feetV σ) e, jlst (gN σ 8) (nst x) e, (e : Int))) ?_ ?_
  · exact hw
  · intro e he
    have hs : nib x e - 1 = (nst x e : Int) := by have := hp e he; unfold nst; omega
    have h15 := nib_bd x e
    have hpe := hp e he
    have hjl := jset_lt (n := gN σ 8) (s := nst x) e
    have h256 : 2 ^ gN σ 8 ≤ 2 ^ 8 := Nat.pow_le_pow_right (by omega) hn
    have hlb := jlst_bd (n := gN σ 8) (s := nst x) e
    have hll := jlen_bd (n := gN σ 8) (s := nst x) (F := feetV σ) (fun i hi => feetV_bd hR hi) e
    have his : fX12_isStory (nst x e : Int) τ = some (b2i (nst x e < gN σ 8)) := by
      rw [m_isStory_eq _ _ (by rw [ha.i (c := 1326) (by decide), hR.2.2.2.2.1.1]; exact ⟨by omega, by omega⟩), ha.i (c := 1326) (by decide), hR.2.2.2.2.1.1]
      exact congrArg some (b2i_c ⟨fun z => by omega, fun z => by omega⟩)
    -- behind the lack
    have tail : ∀ f : Int, fX12_judge_j145 x ((jset (gN σ 8) (nst x) e : Nat) : Int) (jlen (gN σ 8) (nst x) (feetV σ) e) (jlst (gN σ 8) (nst x) e) (e : Int) (nst x e : Int) f τ = some (.inl ((if nst x e < gN σ 8 ∧ jlst (gN σ 8) (nst x) e ≠ -9 ∧ apV σ (8 * (jlst (gN σ 8) (nst x) e).toNat + nst x e) ≠ 0 ∧ ¬ f ≤ 4 then 4 else f), ((jset (gN σ 8) (nst x) (e + 1) : Nat) : Int), jlen (gN σ 8) (nst x) (feetV σ) (e + 1), jlst (gN σ 8) (nst x) (e + 1), ((e + 1 : Nat) : Int))) := by
      intro f
      have nx : ∀ g : Int, nst x e < gN σ 8 → fX12_judge_j191 x ((jset (gN σ 8) (nst x) e : Nat) : Int) (jlen (gN σ 8) (nst x) (feetV σ) e) (e : Int) (nst x e : Int) g τ = some (.inl (g, ((jset (gN σ 8) (nst x) (e + 1) : Nat) : Int), jlen (gN σ 8) (nst x) (feetV σ) (e + 1), jlst (gN σ 8) (nst x) (e + 1), ((e + 1 : Nat) : Int))) := by
        intro g c1
        have hfe := feetV_bd hR c1
        have h2p : 2 ^ nst x e ≤ 2 ^ 8 := Nat.pow_le_pow_right (by omega) (by omega)
        unfold fX12_judge_j191 fX12_judge_j218
        rw [ck_x (by omega) (by omega), Int.toNat_natCast, (h3 _ c1).2.1, ck_i (by omega) (by omega), ck_i (by omega) (by omega), show ishl 1 (nst x e : Int) = ((2 ^ nst x e : Nat) : Int) from ishl_one ⟨nst x e, by omega⟩, ior_nat (by omega) (by omega)]
        show _ = some (Sum.inl (g, ((if nst x e < gN σ 8 then jset (gN σ 8) (nst x) e ||| 2 ^ nst x e else jset (gN σ 8) (nst x) e : Nat) : Int), (if nst x e < gN σ 8 then jlen (gN σ 8) (nst x) (feetV σ) e + feetV σ (nst x e) else jlen (gN σ 8) (nst x) (feetV σ) e), (if nst x e < gN σ 8 then (nst x e : Int) else jlst (gN σ 8) (nst x) e), ((e + 1 : Nat) : Int)))
        rw [if_pos c1, if_pos c1, if_pos c1]; rfl
      unfold fX12_judge_j145 fX12_judge_j189
      rw [his, bnkI]
      by_cases c1 : nst x e < gN σ 8
      · rw [if_pos c1, nx f c1, nx 4 c1]
        by_cases c2 : jlst (gN σ 8) (nst x) e = -9
        · rw [if_pos c2, if_neg (fun z => z.2.1 c2)]
        · have t : (8 * jlst (gN σ 8) (nst x) e + (nst x e : Int)).toNat = 8 * (jlst (gN σ 8) (nst x) e).toNat + nst x e := by omega
          rw [if_neg c2, ck_i (by omega) (by omega), ck_i (by omega) (by omega), ck_x (by omega) (by omega), t, ha.i (c := 1357) (by decide)]
          unfold apV
          by_cases c3 : gI σ 1357 0 (8 * (jlst (gN σ 8) (nst x) e).toNat + nst x e) = 0
          · rw [if_pos c3, if_neg (fun z => z.2.2.1 c3)]
          · rw [if_neg c3]
            by_cases c4 : f ≤ 4
            · rw [if_pos c4, if_neg (fun z => z.2.2.2 c4)]
            · rw [if_neg c4, if_pos ⟨c1, c2, c3, c4⟩]
      · rw [if_neg c1, if_neg (fun z => c1 z.1)]
        unfold fX12_judge_j218
        rw [ck_i (by omega) (by omega)]
        show _ = some (Sum.inl (f, ((if nst x e < gN σ 8 then jset (gN σ 8) (nst x) e ||| 2 ^ nst x e else jset (gN σ 8) (nst x) e : Nat) : Int), (if nst x e < gN σ 8 then jlen (gN σ 8) (nst x) (feetV σ) e + feetV σ (nst x e) else jlen (gN σ 8) (nst x) (feetV σ) e), (if nst x e < gN σ 8 then (nst x e : Int) else jlst (gN σ 8) (nst x) e), ((e + 1 : Nat) : Int)))
        rw [if_neg c1, if_neg c1, if_neg c1]; rfl
    have tail2 : ∀ g : Int, fX12_judge_j129 x (jf (gN σ 8) (nst x) (rdyB σ) (mayB σ l d bv) (apV σ) e) ((jset (gN σ 8) (nst x) e : Nat) : Int) (jlen (gN σ 8) (nst x) (feetV σ) e) (jlst (gN σ 8) (nst x) e) (e : Int) (nst x e : Int) g τ = some (.inl ((if nst x e < gN σ 8 ∧ jlst (gN σ 8) (nst x) e ≠ -9 ∧ apV σ (8 * (jlst (gN σ 8) (nst x) e).toNat + nst x e) ≠ 0 ∧ ¬ jmn (jf (gN σ 8) (nst x) (rdyB σ) (mayB σ l d bv) (apV σ) e) g ≤ 4 then 4 else jmn (jf (gN σ 8) (nst x) (rdyB σ) (mayB σ l d bv) (apV σ) e) g), ((jset (gN σ 8) (nst x) (e + 1) : Nat) : Int), jlen (gN σ 8) (nst x) (feetV σ) (e + 1), jlst (gN σ 8) (nst x) (e + 1), ((e + 1 : Nat) : Int))) := by
      intro g
      unfold fX12_judge_j129
      rw [tail, tail]
      unfold jmn
      by_cases c1 : jf (gN σ 8) (nst x) (rdyB σ) (mayB σ l d bv) (apV σ) e ≤ g
      · rw [if_pos c1, if_pos c1]
      · rw [if_neg c1, if_neg c1]
    show fX12_judge_l39 x τ (jf (gN σ 8) (nst x) (rdyB σ) (mayB σ l d bv) (apV σ) e) ((jset (gN σ 8) (nst x) e : Nat) : Int) (jlen (gN σ 8) (nst x) (feetV σ) e) (jlst (gN σ 8) (nst x) e) (e : Int) = some (.inl ((if nst x e < gN σ 8 ∧ jlst (gN σ 8) (nst x) e ≠ -9 ∧ apV σ (8 * (jlst (gN σ 8) (nst x) e).toNat + nst x e) ≠ 0 ∧ ¬ jmn (jf (gN σ 8) (nst x) (rdyB σ) (mayB σ l d bv) (apV σ) e) (jlk (gN σ 8) (nst x) (rdyB σ) (mayB σ l d bv) e) ≤ 4 then 4 else jmn (jf (gN σ 8) (nst x) (rdyB σ) (mayB σ l d bv) (apV σ) e) (jlk (gN σ 8) (nst x) (rdyB σ) (mayB σ l d bv) e)), ((jset (gN σ 8) (nst x) (e + 1) : Nat) : Int), jlen (gN σ 8) (nst x) (feetV σ) (e + 1), jlst (gN σ 8) (nst x) (e + 1), ((e + 1 : Nat) : Int)))
    rw [← tail2]
    unfold fX12_judge_l39 fX12_judge_j96
    rw [if_neg (by omega), ck_i (by omega) (by omega), show jand (jshr x (4 * (e : Int))) 15 = nib x e from rfl, if_neg (fun z => by have := lcm_eq0.mp z; omega), l2i_nib, hs, ck_i (by omega) (by omega), ck_i (by omega) (by omega), his, bnkI]
    unfold jlk
    by_cases c1 : nst x e < gN σ 8
    · have hrd := rdy_m (ha.rr hR).1 (ha.rr hR).2.2.1 ((ha.rr hR).2.2.2.2.1.2.2.2.1 (nst x e) (by rw [ha.n]; exact c1)) (by omega)
      rw [rdyB_ag ha] at hrd
      rw [if_pos c1, if_neg (show ¬ ¬ nst x e < gN σ 8 from fun z => z c1), iandshr (by omega) (by omega)]
      by_cases c2 : (jset (gN σ 8) (nst x) e).testBit (nst x e) = true
      · rw [if_pos (b2i_pos c2), if_pos c2]
      · rw [if_neg (by rw [b2i_neg c2]; decide), if_neg c2, hrd, bnkI, ck_x (by omega) (by omega), Int.toNat_natCast, (h3 _ c1).1]
        by_cases c3 : rdyB σ (nst x e) = true
        · rw [if_pos c3, if_pos c3]
          by_cases c4 : mayB σ l d bv (nst x e) = true
          · rw [if_neg (by rw [b2i_pos c4]; decide), if_pos c4]
          · rw [if_pos (b2i_neg c4), if_neg c4]
        · rw [if_neg c3, if_neg c3]
    · rw [if_neg c1, if_pos c1]
  · show fX12_judge_l39 x τ _ _ _ _ (c : Int) = _
    unfold fX12_judge_l39
    by_cases q : c = 16
    · rw [if_pos (by omega)]
    · have hq : nib x c = 0 := by rcases hz with z | z; exact absurd z q; exact z
      rw [if_neg (by omega), ck_i (by omega) (by omega), show jand (jshr x (4 * (c : Int))) 15 = nib x c from rfl, if_pos (lcm_eq0.mpr hq)]
theorem refuse_c (l d : Int) : fX11_refuseLandDay l d = some (if 0 ≤ l ∧ l ≤ 4 then (if 0 ≤ d ∧ d ≤ 416 then 0 else -2) else -1) := by
  unfold fX11_refuseLandDay
  rw [c_isLand_eq, bnkI, c_isDay_eq, bnkI]
  split
  · split <;> rfl
  · rfl
theorem mayR_m (l d : Int) (σ : St) : fX12_mayReel l d σ = some (if 0 ≤ l ∧ l ≤ 4 then (if 0 ≤ d ∧ d ≤ 416 then 0 else -2) else -1) := by
  unfold fX12_mayReel
  rw [m_isLand_eq, bnkI, m_isDay_eq, bnkI]
  split
  · split <;> rfl
  · rfl
theorem op_38 : OP38 RR := by
  intro l d x hal had hax σ hSF hR
  by_cases p1 : 0 ≤ l ∧ l ≤ 4
  · by_cases p2 : 0 ≤ d ∧ d ≤ 416
    · obtain ⟨bv, hb⟩ := bv_ex (l := l) hR p2
      have hn := hR.2.2.2.2.1.2.2.1
      obtain ⟨y1, y2, y3, y4, y5, y6⟩ := hR.2.2.2.2.2.2.2.2.1
      obtain ⟨τ1, c1, c2, c3⟩ := list_c hR p1 hb Ag.rf
      have g1 : Ag σ τ1 := c3.1
      obtain ⟨τ2, m1, m2, m3⟩ := may_m hR p1 hb g1.m
      have g2 : Ag σ τ2 := g1.trans (Ag.of m2 (by decide))
      obtain ⟨c, hc, hp, hz⟩ := nib_ex x
      have hml := setN_lt (msB σ l d bv) (gN σ 8)
      have h256 : 2 ^ gN σ 8 ≤ 2 ^ 8 := Nat.pow_le_pow_right (by omega) hn
      have hjr := judge_run hR m3 hc hp hz
      have fin : ∀ r, fX4_lack x τ1 = some r → fX12_judge_j224 (jf (gN σ 8) (nst x) (rdyB σ) (mayB σ l d bv) (apV σ) c) ((jset (gN σ 8) (nst x) c : Nat) : Int) (jlen (gN σ 8) (nst x) (feetV σ) c) τ2 = some (r, τ2) → wpO (bnd (fX11_judge l d x σ) (fun r1 σ1 => bnd (fX12_judge l d x σ1) (fun r2 σ2 => ckp (r1 = r2 ∧ RR σ2) (some ())))) (fun _ : Unit => True) := by
        intro r q1 q2
        refine opW (r := r) (σ1 := τ1) (σ2 := τ2) ?_ ?_ (g2.rr hR)
        · unfold fX11_judge
          rw [refuse_c, if_pos p1, if_pos p2, bnk_some, if_pos rfl, c1, bnd_some, q1, bnk_some]
        · unfold fX12_judge fX12_judge_j39
          rw [mayR_m, if_pos p1, if_pos p2, bnk_some, if_pos (by decide), m1, bnd_some, hjr, bnk_some]
          exact q2
      by_cases hg : ∀ e, e < c → nst x e < gN σ 8 ∧ ¬ (jset (gN σ 8) (nst x) e).testBit (nst x e) = true
      · refine fin (lackR σ l d bv c x) (lack_good hR c3 hc hp hz hg) ?_
        have e1 := jf_good (rd := rdyB σ) (ma := mayB σ l d bv) (ap := apV σ) (fun i hi => by unfold mayB at hi; rw [Bool.and_eq_true] at hi; exact hi.1) c hg
        have e2 := jlen_sum (F := feetV σ) c hg
        have hcb := jcl_b (n := gN σ 8) (s := nst x) (ap := apV σ) c
        rw [e1, e2]
        unfold fX12_judge_j224 fX12_judge_j253 fX12_judge_j255 fX12_judge_j283 fX12_judge_j285 lackR lackV
        rw [in_eq, bnkI, g2.i (c := 1355) (by decide), g2.i (c := 1356) (by decide), y1, y2, m3.2.1]
        unfold jfv
        by_cases a1 : allB (fun e => rdyB σ (nst x e)) c = true
        · rw [if_pos a1]
          by_cases a2 : allB (fun e => mayB σ l d bv (nst x e)) c = true
          · rw [if_pos a2]
            by_cases a3 : jcl (gN σ 8) (nst x) (apV σ) c = 0
            · rw [if_pos a3, if_neg (by decide), if_pos rfl]
              by_cases a4 : gI σ 500 0 0 ≤ ssum (feetV σ) (jset (gN σ 8) (nst x) c) (gN σ 8) ∧ ssum (feetV σ) (jset (gN σ 8) (nst x) c) (gN σ 8) ≤ gI σ 501 0 0
              · rw [if_pos a4, if_pos a4, if_neg (by decide), if_pos rfl]
                by_cases a5 : iand ((jset (gN σ 8) (nst x) c : Nat) : Int) ((setN (msB σ l d bv) (gN σ 8) : Nat) : Int) = ((setN (msB σ l d bv) (gN σ 8) : Nat) : Int)
                · rw [if_pos a5, if_pos a5]
                · rw [if_neg a5, if_neg a5]; rfl
              · rw [if_neg a4, if_neg a4]; rfl
            · rw [if_neg a3]; rfl
          · rw [if_neg a2]; rfl
        · rw [if_neg a1]; rfl
      · obtain ⟨e0, e1, e2, e3⟩ : ∃ e0, e0 < c ∧ ¬ (nst x e0 < gN σ 8 ∧ ¬ (jset (gN σ 8) (nst x) e0).testBit (nst x e0) = true) ∧ ∀ e, e < e0 → nst x e < gN σ 8 ∧ ¬ (jset (gN σ 8) (nst x) e).testBit (nst x e) = true := by
          have hex : ∃ e, e < c ∧ ¬ (nst x e < gN σ 8 ∧ ¬ (jset (gN σ 8) (nst x) e).testBit (nst x e) = true) := by
            apply Classical.byContradiction
            intro z
            apply hg
            intro e he
            apply Classical.byContradiction
            intro w
            exact z ⟨e, he, w⟩
          obtain ⟨e, he1, he2⟩ := hex
          obtain ⟨r, r1, r2, r3⟩ := least_ex (fun e => ¬ (nst x e < gN σ 8 ∧ ¬ (jset (gN σ 8) (nst x) e).testBit (nst x e) = true)) e he2
          exact ⟨r, by omega, r2, fun e' he' => Classical.byContradiction (fun w => r3 e' he' w)⟩
        refine fin 1 (lack_bad hR g1 c3.2.1 (by omega) (fun e he => hp e (by omega)) e3 e2) ?_
        have hlk : jlk (gN σ 8) (nst x) (rdyB σ) (mayB σ l d bv) e0 = 1 := by
          unfold jlk
          by_cases q : nst x e0 < gN σ 8
          · have q2 : (jset (gN σ 8) (nst x) e0).testBit (nst x e0) = true := by
              by_cases w : (jset (gN σ 8) (nst x) e0).testBit (nst x e0) = true
              · exact w
              · exact absurd ⟨q, w⟩ e2
            rw [if_neg (fun z => z q), if_pos q2]
          · rw [if_pos q]
        have h1 := jf_one (ap := apV σ) hlk (c - (e0 + 1))
        rw [show e0 + 1 + (c - (e0 + 1)) = c by omega] at h1
        rw [h1]
        rfl
    · refine opW (r := -2) (σ1 := σ) (σ2 := σ) ?_ ?_ hR
      · unfold fX11_judge
        rw [refuse_c, if_pos p1, if_neg p2, bnk_some, if_neg (by decide)]
      · unfold fX12_judge
        rw [mayR_m, if_pos p1, if_neg p2, bnk_some, if_neg (by decide)]
  · refine opW (r := -1) (σ1 := σ) (σ2 := σ) ?_ ?_ hR
    · unfold fX11_judge
      rw [refuse_c, if_neg p1, bnk_some, if_neg (by decide)]
    · unfold fX12_judge
      rw [mayR_m, if_neg p1, bnk_some, if_neg (by decide)]
