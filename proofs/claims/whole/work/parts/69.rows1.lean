/-! rows of stories: their order -/
def vm (d : Nat → Nat) : Nat → Nat
  | 0 => 0
  | m + 1 => 9 * vm d m + d m
def dg (r : Nat → Nat) (k j : Nat) : Nat := if j < k then 7 - r j else 8
theorem dg_le (r : Nat → Nat) (k j : Nat) : dg r k j ≤ 8 := by
  unfold dg
  split <;> omega
theorem vm_lt {d e : Nat → Nat} (hd : ∀ j, d j ≤ 8) {m : Nat} (h : vm d m < vm e m) (i : Nat) : vm d (m + i) < vm e (m + i) := by
  induction i with
  | zero => exact h
  | succ i ih =>
    show 9 * vm d (m + i) + d (m + i) < 9 * vm e (m + i) + e (m + i)
    have := hd (m + i)
    omega
theorem vm_inj {d e : Nat → Nat} (hd : ∀ j, d j ≤ 8) (he : ∀ j, e j ≤ 8) : ∀ m, vm d m = vm e m → ∀ j, j < m → d j = e j := by
  intro m
  induction m with
  | zero => intro _ j hj; omega
  | succ m ih =>
    intro h j hj
    have h2 : 9 * vm d m + d m = 9 * vm e m + e m := h
    have := hd m
    have := he m
    by_cases q : j = m
    · rw [q]; omega
    · exact ih (by omega) j (by omega)
theorem vm_c {d e : Nat → Nat} : ∀ m, (∀ j, j < m → d j = e j) → vm d m = vm e m := by
  intro m
  induction m with
  | zero => intro _; rfl
  | succ m ih =>
    intro h
    show 9 * vm d m + d m = 9 * vm e m + e m
    rw [ih (fun j hj => h j (by omega)), h m (by omega)]
theorem jset_c {n : Nat} {s s2 : Nat → Nat} : ∀ k, (∀ e, e < k → s e = s2 e) → jset n s k = jset n s2 k := by
  intro k
  induction k with
  | zero => intro _; rfl
  | succ k ih =>
    intro h
    show (if s k < n then jset n s k ||| 2 ^ s k else jset n s k) = (if s2 k < n then jset n s2 k ||| 2 ^ s2 k else jset n s2 k)
    rw [ih (fun e he => h e (by omega)), h k (by omega)]
theorem jlen_c {n : Nat} {s s2 : Nat → Nat} {F : Nat → Int} : ∀ k, (∀ e, e < k → s e = s2 e) → jlen n s F k = jlen n s2 F k := by
  intro k
  induction k with
  | zero => intro _; rfl
  | succ k ih =>
    intro h
    show (if s k < n then jlen n s F k + F (s k) else jlen n s F k) = (if s2 k < n then jlen n s2 F k + F (s2 k) else jlen n s2 F k)
    rw [ih (fun e he => h e (by omega)), h k (by omega)]
theorem jlen_mono {n : Nat} {s : Nat → Nat} {F : Nat → Int} (hF : ∀ i, i < n → 0 ≤ F i) (k i : Nat) : jlen n s F k ≤ jlen n s F (k + i) := by
  induction i with
  | zero => exact Int.le_refl _
  | succ i ih =>
    show _ ≤ (if s (k + i) < n then jlen n s F (k + i) + F (s (k + i)) else jlen n s F (k + i))
    split
    · next q => have := hF _ q; omega
    · exact ih
/-- a row: distinct stories that may be shown, none beside one apart from it -/
def OKr (n : Nat) (u : Nat → Bool) (ap : Nat → Int) (r : Nat → Nat) (k : Nat) : Prop := (∀ e, e < k → r e < n ∧ ¬ (jset n r e).testBit (r e) = true) ∧ (∀ e, e < k → u (r e) = true) ∧ ∀ e, e + 1 < k → ap (8 * r e + r (e + 1)) = 0
def VLr (n : Nat) (u : Nat → Bool) (ap : Nat → Int) (F : Nat → Int) (lo hi : Int) (ms : Nat) (r : Nat → Nat) (k : Nat) : Prop := OKr n u ap r k ∧ 1 ≤ k ∧ lo ≤ jlen n r F k ∧ jlen n r F k ≤ hi ∧ iand ((jset n r k : Nat) : Int) (ms : Int) = (ms : Int)
def KK (r : Nat → Nat) (k : Nat) : Nat := vm (dg r k) 9
def BST (n : Nat) (u : Nat → Bool) (ap : Nat → Int) (F W : Nat → Int) (lo hi : Int) (ms : Nat) (bw : Int) (br : Nat → Nat) (bk : Nat) (P : (Nat → Nat) → Nat → Prop) : Prop :=
  (bw = -9 ∧ bk = 0 ∧ ∀ r k, VLr n u ap F lo hi ms r k → ¬ P r k) ∨ (VLr n u ap F lo hi ms br bk ∧ bw = jlen n br W bk ∧ P br bk ∧ ∀ r k, VLr n u ap F lo hi ms r k → P r k → jlen n r W k < bw ∨ (jlen n r W k = bw ∧ KK r k ≤ KK br bk))
theorem OKr.c {n : Nat} {u : Nat → Bool} {ap : Nat → Int} {r r2 : Nat → Nat} {k : Nat} (h : OKr n u ap r k) (hc : ∀ e, e < k → r e = r2 e) : OKr n u ap r2 k := by
  obtain ⟨h1, h2, h3⟩ := h
  refine ⟨fun e he => ?_, fun e he => by rw [← hc e he]; exact h2 e he, fun e he => by rw [← hc e (by omega), ← hc (e + 1) he]; exact h3 e he⟩
  rw [← hc e he, ← jset_c e (fun e' he' => hc e' (by omega))]
  exact h1 e he
theorem VLr.c {n : Nat} {u : Nat → Bool} {ap : Nat → Int} {F : Nat → Int} {lo hi : Int} {ms : Nat} {r r2 : Nat → Nat} {k : Nat} (h : VLr n u ap F lo hi ms r k) (hc : ∀ e, e < k → r e = r2 e) : VLr n u ap F lo hi ms r2 k := by
  obtain ⟨h1, h2, h3, h4, h5⟩ := h
  refine ⟨h1.c hc, h2, ?_, ?_, ?_⟩
  · rw [← jlen_c k hc]; exact h3
  · rw [← jlen_c k hc]; exact h4
  · rw [← jset_c k hc]; exact h5
theorem OKr.pre {n : Nat} {u : Nat → Bool} {ap : Nat → Int} {r : Nat → Nat} {k m : Nat} (h : OKr n u ap r k) (hm : m ≤ k) : OKr n u ap r m := ⟨fun e he => h.1 e (by omega), fun e he => h.2.1 e (by omega), fun e he => h.2.2 e (by omega)⟩
theorem KK_c {r r2 : Nat → Nat} {k : Nat} (hc : ∀ e, e < k → r e = r2 e) : KK r k = KK r2 k := by
  unfold KK
  apply vm_c
  intro j _
  unfold dg
  by_cases q : j < k
  · rw [if_pos q, if_pos q, hc j q]
  · rw [if_neg q, if_neg q]
/-- how many are in a set -/
def pc8 (a : Nat) : Nat := (a % 2) + (a / 2 % 2) + (a / 4 % 2) + (a / 8 % 2) + (a / 16 % 2) + (a / 32 % 2) + (a / 64 % 2) + (a / 128 % 2)
theorem pc8_or : ∀ a : Fin 256, ∀ s : Fin 8, (a : Nat).testBit s = false → pc8 ((a : Nat) ||| 2 ^ (s : Nat)) = pc8 a + 1 := by decide +kernel
theorem pc8_le (a : Nat) : pc8 a ≤ 8 := by
  unfold pc8
  omega
theorem pc_row {n : Nat} {r : Nat → Nat} (hn : n ≤ 8) : ∀ k, (∀ e, e < k → r e < n ∧ ¬ (jset n r e).testBit (r e) = true) → pc8 (jset n r k) = k := by
  intro k
  induction k with
  | zero => intro _; show pc8 0 = 0; decide
  | succ k ih =>
    intro h
    have h1 := ih (fun e he => h e (by omega))
    obtain ⟨h2, h3⟩ := h k (by omega)
    have h4 := jset_lt (n := n) (s := r) k
    have h5 : 2 ^ n ≤ 2 ^ 8 := Nat.pow_le_pow_right (by omega) hn
    show pc8 (if r k < n then jset n r k ||| 2 ^ r k else jset n r k) = k + 1
    rw [if_pos h2]
    have h6 := pc8_or ⟨jset n r k, by omega⟩ ⟨r k, by omega⟩ (by simpa using h3)
    rw [← h1]
    rw [h1] at h6 ⊢
    exact h6
theorem OKr.k8 {n : Nat} {u : Nat → Bool} {ap : Nat → Int} {r : Nat → Nat} {k : Nat} (hn : n ≤ 8) (h : OKr n u ap r k) : k ≤ 8 := by
  have h1 := pc_row hn k h.1
  have := pc8_le (jset n r k)
  omega
/-- a row ahead of a place in the order of all rows -/
def PRr (p : Nat → Nat) (m t : Nat) (r : Nat → Nat) (k : Nat) : Prop := 9 * vm (dg p m) m + (8 - t) ≤ vm (dg r k) (m + 1)
def FOL (n : Nat) (u : Nat → Bool) (ap : Nat → Int) (F : Nat → Int) (hi : Int) (p : Nat → Nat) (m t : Nat) : Prop := u t = true ∧ ¬ (jset n p m).testBit t = true ∧ (m = 0 ∨ ap (8 * p (m - 1) + t) = 0) ∧ jlen n p F m + F t ≤ hi
/-- a row that begins with p, and goes on with t -/
theorem dig_ext {n : Nat} {p r : Nat → Nat} {m k t : Nat} (hn : n ≤ 8) (hp : ∀ e, e < m → p e < n) (hr : ∀ e, e < k → r e < n) (ht : t < n) (h : vm (dg r k) (m + 1) = 9 * vm (dg p m) m + (7 - t)) : m < k ∧ (∀ e, e < m → r e = p e) ∧ r m = t := by
  have h1 : 9 * vm (dg r k) m + dg r k m = 9 * vm (dg p m) m + (7 - t) := h
  have h2 := dg_le r k m
  have h3 : vm (dg r k) m = vm (dg p m) m := by omega
  have h4 : dg r k m = 7 - t := by omega
  have hm : m < k := by
    unfold dg at h4
    by_cases q : m < k
    · exact q
    · rw [if_neg q] at h4; omega
  refine ⟨hm, fun e he => ?_, ?_⟩
  · have h5 := vm_inj (dg_le r k) (dg_le p m) m h3 e he
    unfold dg at h5
    rw [if_pos (show e < k by omega), if_pos he] at h5
    have := hp e he
    have := hr e (by omega)
    omega
  · unfold dg at h4
    rw [if_pos hm] at h4
    have := hr m hm
    omega
theorem step1 {n : Nat} {u : Nat → Bool} {ap : Nat → Int} {F : Nat → Int} {lo hi : Int} {ms : Nat} {p r : Nat → Nat} {m t k : Nat} (hn : n ≤ 8) (hF : ∀ i, i < n → 0 ≤ F i) (hp : OKr n u ap p m) (ht : t < n) (hf : ¬ FOL n u ap F hi p m t) (hv : VLr n u ap F lo hi ms r k) : PRr p m (t + 1) r k ↔ PRr p m t r k := by
  unfold PRr
  constructor
  · intro h
    apply Classical.byContradiction
    intro c
    obtain ⟨h1, h2, h3⟩ := dig_ext (t := t) hn (fun e he => (hp.1 e he).1) (fun e he => (hv.1.1 e he).1) ht (by omega)
    apply hf
    obtain ⟨⟨v1, v2, v3⟩, w1, w2, w3, w4⟩ := hv
    refine ⟨?_, ?_, ?_, ?_⟩
    · have := v2 m h1; rw [h3] at this; exact this
    · have := (v1 m h1).2
      rw [h3, jset_c m (fun e he => h2 e he)] at this
      exact this
    · by_cases q : m = 0
      · exact Or.inl q
      · have := v3 (m - 1) (by omega)
        rw [h2 (m - 1) (by omega), show m - 1 + 1 = m by omega, h3] at this
        exact Or.inr this
    · have e1 : jlen n r F (m + 1) = jlen n p F m + F t := by
        show (if r m < n then jlen n r F m + F (r m) else jlen n r F m) = _
        rw [if_pos (v1 m h1).1, h3, jlen_c m (fun e he => h2 e he)]
      have e2 := jlen_mono (s := r) hF (m + 1) (k - (m + 1))
      rw [show m + 1 + (k - (m + 1)) = k by omega] at e2
      omega
  · intro h; omega
theorem vm_ext {p p2 : Nat → Nat} {m t : Nat} (hc : ∀ e, e < m → p2 e = p e) (ht : p2 m = t) : vm (dg p2 (m + 1)) (m + 1) = 9 * vm (dg p m) m + (7 - t) := by
  show 9 * vm (dg p2 (m + 1)) m + dg p2 (m + 1) m = _
  have e1 : vm (dg p2 (m + 1)) m = vm (dg p m) m := vm_c m (fun j hj => by
    unfold dg
    rw [if_pos (by omega), if_pos hj, hc j hj])
  have e2 : dg p2 (m + 1) m = 7 - t := by
    unfold dg
    rw [if_pos (by omega), ht]
  rw [e1, e2]
theorem step2 {n : Nat} {p p2 r : Nat → Nat} {m t k : Nat} (hn : n ≤ 8) (hp : ∀ e, e < m → p e < n) (hr : ∀ e, e < k → r e < n) (ht : t < n) (hc : ∀ e, e < m → p2 e = p e) (ht2 : p2 m = t) : PRr p2 (m + 1) 0 r k ↔ PRr p m t r k ∨ (k = m + 1 ∧ ∀ e, e < m + 1 → r e = p2 e) := by
  unfold PRr
  have e0 := vm_ext hc ht2
  have e1 : vm (dg r k) (m + 1 + 1) = 9 * vm (dg r k) (m + 1) + dg r k (m + 1) := rfl
  have h8 := dg_le r k (m + 1)
  rw [e0, e1]
  constructor
  · intro h
    by_cases c : 9 * vm (dg p m) m + (8 - t) ≤ vm (dg r k) (m + 1)
    · exact Or.inl c
    · obtain ⟨h1, h2, h3⟩ := dig_ext (t := t) hn hp hr ht (by omega)
      right
      have h4 : dg r k (m + 1) = 8 := by omega
      have h5 : k = m + 1 := by
        unfold dg at h4
        by_cases q : m + 1 < k
        · rw [if_pos q] at h4; omega
        · omega
      refine ⟨h5, fun e he => ?_⟩
      by_cases q : e = m
      · rw [q, h3, ht2]
      · rw [h2 e (by omega), hc e (by omega)]
  · rintro (h | ⟨h1, h2⟩)
    · omega
    · have e2 : vm (dg r k) (m + 1) = 9 * vm (dg p m) m + (7 - t) := by
        rw [← e0, h1]
        apply vm_c
        intro j hj
        unfold dg
        rw [if_pos hj, if_pos hj, h2 j hj]
      have e3 : dg r k (m + 1) = 8 := by
        unfold dg
        rw [if_neg (by omega)]
      omega
theorem step3 {n : Nat} {p r : Nat → Nat} {m k : Nat} (hn : n ≤ 8) (hp : ∀ e, e < m + 1 → p e < n) (hr : ∀ e, e < k → r e < n) : PRr p m (p m + 1) r k ↔ PRr p (m + 1) n r k := by
  unfold PRr
  have e0 := vm_ext (p := p) (p2 := p) (m := m) (t := p m) (fun e he => rfl) rfl
  have e1 : vm (dg r k) (m + 1 + 1) = 9 * vm (dg r k) (m + 1) + dg r k (m + 1) := rfl
  have h8 := dg_le r k (m + 1)
  have hpm := hp m (by omega)
  have h9 : 8 - n ≤ dg r k (m + 1) := by
    unfold dg
    split
    · next q => have := hr _ q; omega
    · omega
  rw [e0, e1]
  omega
theorem prA {n : Nat} {p r : Nat → Nat} {k : Nat} (hn : n ≤ 8) (hk : 1 ≤ k) (hr : ∀ e, e < k → r e < n) : PRr p 0 n r k := by
  unfold PRr
  show 9 * 0 + (8 - n) ≤ 9 * 0 + dg r k 0
  have := hr 0 hk
  unfold dg
  rw [if_pos (show 0 < k by omega)]
  omega
theorem prN {p r : Nat → Nat} {k : Nat} (hk : 1 ≤ k) : ¬ PRr p 0 0 r k := by
  unfold PRr
  show ¬ 9 * 0 + (8 - 0) ≤ 9 * 0 + dg r k 0
  unfold dg
  rw [if_pos (show 0 < k by omega)]
  omega
/-- a row ahead of p and t is greater than the row p, t -/
theorem pr_gt {p p2 r : Nat → Nat} {m t k : Nat} (hm : m ≤ 8) (ht8 : t ≤ 7) (hc : ∀ e, e < m → p2 e = p e) (ht : p2 m = t) (h : PRr p m t r k) : KK p2 (m + 1) < KK r k := by
  have e0 := vm_ext hc ht
  unfold PRr at h
  have h1 : vm (dg p2 (m + 1)) (m + 1) < vm (dg r k) (m + 1) := by omega
  have h2 := vm_lt (dg_le p2 (m + 1)) h1 (8 - m)
  rw [show m + 1 + (8 - m) = 9 by omega] at h2
  exact h2
theorem BST_iff {n : Nat} {u : Nat → Bool} {ap : Nat → Int} {F W : Nat → Int} {lo hi : Int} {ms : Nat} {bw : Int} {br : Nat → Nat} {bk : Nat} {P Q : (Nat → Nat) → Nat → Prop} (h : BST n u ap F W lo hi ms bw br bk P) (hpq : ∀ r k, VLr n u ap F lo hi ms r k → (Q r k ↔ P r k)) : BST n u ap F W lo hi ms bw br bk Q := by
  rcases h with ⟨h1, h2, h3⟩ | ⟨h1, h2, h3, h4⟩
  · exact Or.inl ⟨h1, h2, fun r k hv hq => h3 r k hv ((hpq r k hv).mp hq)⟩
  · exact Or.inr ⟨h1, h2, (hpq br bk h1).mpr h3, fun r k hv hq => h4 r k hv ((hpq r k hv).mp hq)⟩
theorem BST_add {n : Nat} {u : Nat → Bool} {ap : Nat → Int} {F W : Nat → Int} {lo hi : Int} {ms : Nat} {bw : Int} {br : Nat → Nat} {bk : Nat} {P Q : (Nat → Nat) → Nat → Prop} {p2 : Nat → Nat} {m2 : Nat} (h : BST n u ap F W lo hi ms bw br bk P) (hW : ∀ i, i < n → 0 ≤ W i) (hpq : ∀ r k, VLr n u ap F lo hi ms r k → (Q r k ↔ P r k ∨ (k = m2 ∧ ∀ e, e < m2 → r e = p2 e))) (hgt : ∀ r k, P r k → KK p2 m2 < KK r k) : (VLr n u ap F lo hi ms p2 m2 ∧ bw < jlen n p2 W m2 → BST n u ap F W lo hi ms (jlen n p2 W m2) p2 m2 Q) ∧ (¬ (VLr n u ap F lo hi ms p2 m2 ∧ bw < jlen n p2 W m2) → BST n u ap F W lo hi ms bw br bk Q) := by
  have hself : ∀ r k, (k = m2 ∧ ∀ e, e < m2 → r e = p2 e) → jlen n r W k = jlen n p2 W m2 ∧ KK r k = KK p2 m2 := by
    rintro r k ⟨h1, h2⟩
    subst h1
    exact ⟨jlen_c k h2, KK_c h2⟩
  constructor
  · rintro ⟨hv, hw⟩
    refine Or.inr ⟨hv, rfl, (hpq p2 m2 hv).mpr (Or.inr ⟨rfl, fun e _ => rfl⟩), fun r k hr hq => ?_⟩
    rcases (hpq r k hr).mp hq with z | z
    · rcases h with ⟨h1, h2, h3⟩ | ⟨h1, h2, h3, h4⟩
      · exact absurd z (h3 r k hr)
      · rcases h4 r k hr z with y | y
        · exact Or.inl (by omega)
        · exact Or.inl (by omega)
    · obtain ⟨y1, y2⟩ := hself r k z
      exact Or.inr ⟨y1, by omega⟩
  · intro hn
    rcases h with ⟨h1, h2, h3⟩ | ⟨h1, h2, h3, h4⟩
    · refine Or.inl ⟨h1, h2, fun r k hr hq => ?_⟩
      rcases (hpq r k hr).mp hq with z | z
      · exact h3 r k hr z
      · apply hn
        have hv : VLr n u ap F lo hi ms p2 m2 := by
          have hz := z.1
          subst hz
          exact hr.c z.2
        have h0 : 0 ≤ jlen n p2 W m2 := by
          have := jlen_mono (n := n) (s := p2) (F := W) hW 0 m2
          rw [Nat.zero_add] at this
          exact this
        exact ⟨hv, by omega⟩
    · refine Or.inr ⟨h1, h2, (hpq br bk h1).mpr (Or.inl h3), fun r k hr hq => ?_⟩
      rcases (hpq r k hr).mp hq with z | z
      · exact h4 r k hr z
      · obtain ⟨y1, y2⟩ := hself r k z
        have hv : VLr n u ap F lo hi ms p2 m2 := by
          have hz := z.1
          subst hz
          exact hr.c z.2
        have h5 := hgt br bk h3
        have h6 : ¬ bw < jlen n p2 W m2 := fun w => hn ⟨hv, w⟩
        by_cases w : jlen n r W k < bw
        · exact Or.inl w
        · exact Or.inr ⟨by omega, by omega⟩
/-- there is one best -/
theorem BST_one {n : Nat} {u : Nat → Bool} {ap : Nat → Int} {F W : Nat → Int} {lo hi : Int} {ms : Nat} {bw cw : Int} {br cr : Nat → Nat} {bk ck_ : Nat} (hn : n ≤ 8) (hW : ∀ i, i < n → 0 ≤ W i) (h : BST n u ap F W lo hi ms bw br bk (fun _ _ => True)) (h2 : BST n u ap F W lo hi ms cw cr ck_ (fun _ _ => True)) : bw = cw ∧ bk = ck_ ∧ ∀ j, j < bk → br j = cr j := by
  have hpos : ∀ r k, 0 ≤ jlen n r W k := fun r k => by
    have := jlen_mono (n := n) (s := r) (F := W) hW 0 k
    rw [Nat.zero_add] at this
    exact this
  rcases h with ⟨h1, h3, h4⟩ | ⟨h1, h3, h4, h5⟩
  · rcases h2 with ⟨g1, g3, g4⟩ | ⟨g1, g3, g4, g5⟩
    · exact ⟨by omega, by omega, fun j hj => by omega⟩
    · exact absurd trivial (h4 cr ck_ g1)
  · rcases h2 with ⟨g1, g3, g4⟩ | ⟨g1, g3, g4, g5⟩
    · exact absurd trivial (g4 br bk h1)
    · have a1 := h5 cr ck_ g1 trivial
      have a2 := g5 br bk h1 trivial
      have hK : KK br bk = KK cr ck_ := by omega
      have k1 := h1.1.k8 hn
      have k2 := g1.1.k8 hn
      have hd := vm_inj (dg_le br bk) (dg_le cr ck_) 9 hK
      have hbk : bk = ck_ := by
        apply Classical.byContradiction
        intro c
        by_cases q : bk < ck_
        · have := hd bk (by omega)
          unfold dg at this
          rw [if_neg (by omega), if_pos q] at this
          omega
        · have := hd ck_ (by omega)
          unfold dg at this
          rw [if_pos (by omega), if_neg (by omega)] at this
          omega
      refine ⟨by omega, hbk, fun j hj => ?_⟩
      have h6 := hd j (by omega)
      unfold dg at h6
      rw [if_pos hj, if_pos (by omega)] at h6
      have := (h1.1.1 j hj).1
      have := (g1.1.1 j (by omega)).1
      omega
