/-! loops, one step at a time; sums and first ones -/
theorem wh_inr {S R : Type} {f : S → Option (S ⊕ R)} {s : S} {r : R} (h : f s = some (.inr r)) : wh f s = some r := by
  apply wh_of (n := 1)
  unfold whN
  rw [h]
theorem wh_inl {S R : Type} {f : S → Option (S ⊕ R)} {s s2 : S} {r : R} (h : f s = some (.inl s2)) (h2 : wh f s2 = some r) : wh f s = some r := by
  obtain ⟨n, hn⟩ := wh_to h2
  apply wh_of (n := n + 1)
  unfold whN
  rw [h]
  exact hn
theorem wh_seq {S R : Type} {f : S → Option (S ⊕ R)} {r : R} (n : Nat) (T : Nat → S) (hs : ∀ i, i < n → f (T i) = some (.inl (T (i + 1)))) (he : f (T n) = some (.inr r)) : wh f (T 0) = some r := by
  have key : ∀ k i, i + k = n → wh f (T i) = some r := by
    intro k
    induction k with
    | zero => intro i hi; have : i = n := by omega
              subst this; exact wh_inr he
    | succ k ih => intro i hi; exact wh_inl (hs i (by omega)) (ih (i + 1) (by omega))
  exact key n 0 (by omega)
def sumN (g : Nat → Int) : Nat → Int
  | 0 => 0
  | n + 1 => sumN g n + g n
theorem sumN_bd {g : Nat → Int} {lo hi : Int} (h : ∀ i, lo ≤ g i ∧ g i ≤ hi) (n : Nat) : lo * n ≤ sumN g n ∧ sumN g n ≤ hi * n := by
  induction n with
  | zero => exact ⟨by unfold sumN; omega, by unfold sumN; omega⟩
  | succ n ih =>
    have := h n
    unfold sumN
    rw [Int.natCast_succ, Int.mul_add, Int.mul_add]
    omega
theorem sumN_bd2 {g : Nat → Int} {lo hi : Int} (n : Nat) (h : ∀ i, i < n → lo ≤ g i ∧ g i ≤ hi) : lo * n ≤ sumN g n ∧ sumN g n ≤ hi * n := by
  induction n with
  | zero => exact ⟨by unfold sumN; omega, by unfold sumN; omega⟩
  | succ n ih =>
    have := h n (by omega)
    have := ih (fun i hi => h i (by omega))
    unfold sumN
    rw [Int.natCast_succ, Int.mul_add, Int.mul_add]
    omega
theorem sumN_c {g g2 : Nat → Int} (n : Nat) (h : ∀ i, i < n → g i = g2 i) : sumN g n = sumN g2 n := by
  induction n with
  | zero => rfl
  | succ n ih =>
    unfold sumN
    rw [ih (fun i hi => h i (by omega)), h n (by omega)]
/-- a loop that counts -/
theorem wh_sum {f : Int × Int → Option ((Int × Int) ⊕ Int)} (g : Nat → Int) (n : Nat) (hs : ∀ i, i < n → f (sumN g i, (i : Int)) = some (.inl (sumN g i + g i, (i : Int) + 1))) (he : f (sumN g n, (n : Int)) = some (.inr (sumN g n))) : wh f (0, 0) = some (sumN g n) := by
  have := wh_seq (f := f) (r := sumN g n) n (fun i => (sumN g i, (i : Int))) (fun i hi => by rw [hs i hi]; rfl) he
  exact this
def fstF (P : Nat → Bool) : Nat → Nat → Int
  | _, 0 => -9
  | i, k + 1 => if P i = true then (i : Int) else fstF P (i + 1) k
theorem fstF_bd (P : Nat → Bool) (i k : Nat) : fstF P i k = -9 ∨ ((i : Int) ≤ fstF P i k ∧ fstF P i k < (i : Int) + k) := by
  induction k generalizing i with
  | zero => exact Or.inl rfl
  | succ k ih =>
    unfold fstF
    split
    · exact Or.inr ⟨by omega, by omega⟩
    · have := ih (i + 1)
      omega
theorem fstF_c {P Q : Nat → Bool} {i k : Nat} (h : ∀ j, i ≤ j → j < i + k → P j = Q j) : fstF P i k = fstF Q i k := by
  induction k generalizing i with
  | zero => rfl
  | succ k ih =>
    unfold fstF
    rw [h i (by omega) (by omega), ih (fun j h1 h2 => h j (by omega) (by omega))]
theorem wh_fst {f : Int → Option (Int ⊕ (Int ⊕ Unit))} (P : Nat → Bool) (n : Nat) (hs : ∀ i, i < n → f (i : Int) = if P i = true then some (.inr (.inl (i : Int))) else some (.inl ((i : Int) + 1))) (he : f (n : Int) = some (.inr (.inr ()))) : bnk (wh f 0) (fun e => Sum.elim (fun a => some a) (fun _ => some (-9)) e) = some (fstF P 0 n) := by
  have key : ∀ k i, i + k = n → bnk (wh f (i : Int)) (fun e => Sum.elim (fun a => some a) (fun _ => some (-9)) e) = some (fstF P i k) := by
    intro k
    induction k with
    | zero => intro i hi; have : i = n := by omega
              subst this; rw [wh_inr he]; rfl
    | succ k ih =>
      intro i hi
      have h0 := hs i (by omega)
      unfold fstF
      by_cases c : P i = true
      · rw [if_pos c] at h0
        rw [if_pos c, wh_inr h0]; rfl
      · rw [if_neg c] at h0
        rw [if_neg c]
        have h1 := ih (i + 1) (by omega)
        cases hw : wh f ((i + 1 : Nat) : Int) with
        | none => rw [hw] at h1; cases h1
        | some e =>
          rw [hw] at h1
          have : wh f (i : Int) = some e := wh_inl h0 hw
          rw [this]; exact h1
  exact key n 0 (by omega)
theorem wh_fst2 {α : Type} {f : α × Int → Option ((α × Int) ⊕ (Int ⊕ Unit))} (T : Nat → α) (P : Nat → Bool) (n : Nat) (hs : ∀ i, i < n → f (T i, (i : Int)) = if P i = true then some (.inr (.inl (i : Int))) else some (.inl (T (i + 1), (i : Int) + 1))) (he : f (T n, (n : Int)) = some (.inr (.inr ()))) : bnk (wh f (T 0, 0)) (fun e => Sum.elim (fun a => some a) (fun _ => some (-9)) e) = some (fstF P 0 n) := by
  have key : ∀ k i, i + k = n → bnk (wh f (T i, (i : Int))) (fun e => Sum.elim (fun a => some a) (fun _ => some (-9)) e) = some (fstF P i k) := by
    intro k
    induction k with
    | zero => intro i hi; have : i = n := by omega
              subst this; rw [wh_inr he]; rfl
    | succ k ih =>
      intro i hi
      have h0 := hs i (by omega)
      unfold fstF
      by_cases c : P i = true
      · rw [if_pos c] at h0
        rw [if_pos c, wh_inr h0]; rfl
      · rw [if_neg c] at h0
        rw [if_neg c]
        have h1 := ih (i + 1) (by omega)
        cases hw : wh f (T (i + 1), ((i + 1 : Nat) : Int)) with
        | none => rw [hw] at h1; cases h1
        | some e =>
          rw [hw] at h1
          have : wh f (T i, (i : Int)) = some e := wh_inl h0 hw
          rw [this]; exact h1
  exact key n 0 (by omega)
theorem iandshr {a k : Nat} (ha : a < 2147483648) (hk : k < 32) : iand (ishr (a : Int) (k : Int)) 1 = b2i (a.testBit k = true) := by
  have h0 : a / 2 ^ k ≤ a := Nat.div_le_self _ _
  rw [ishr_nat ha hk]
  have h1 : iand ((a / 2 ^ k : Nat) : Int) 1 = ((a / 2 ^ k &&& 1 : Nat) : Int) := iand_nat (b := 1) (by omega) (by omega)
  rw [h1, Nat.and_one_is_mod]
  have h2 : a.testBit k = decide (a / 2 ^ k % 2 = 1) := Nat.testBit_eq_decide_div_mod_eq
  rw [h2]
  by_cases c : a / 2 ^ k % 2 = 1
  · rw [c, b2i_pos (by simp)]; rfl
  · have : a / 2 ^ k % 2 = 0 := by omega
    rw [this, b2i_neg (by simp)]; rfl
theorem iandshrI {x k : Int} (hx : 0 ≤ x ∧ x < 2147483648) (hk : 0 ≤ k ∧ k < 32) : iand (ishr x k) 1 = b2i (x.toNat.testBit k.toNat = true) := by
  obtain ⟨a, rfl⟩ := Int.eq_ofNat_of_zero_le hx.1
  obtain ⟨b, rfl⟩ := Int.eq_ofNat_of_zero_le hk.1
  exact iandshr (by omega) (by omega)
theorem hasMI {x k : Int} (hx : 0 ≤ x ∧ x < 2147483648) (hk : 0 ≤ k ∧ k < 32) : fX11_hasMember x k = some (b2i (x.toNat.testBit k.toNat = true)) := by
  obtain ⟨a, rfl⟩ := Int.eq_ofNat_of_zero_le hx.1
  obtain ⟨b, rfl⟩ := Int.eq_ofNat_of_zero_le hk.1
  exact hasM_eq (by omega) (by omega)
theorem b2i_1 {P : Prop} [Decidable P] : b2i P = 1 ↔ P := by
  unfold b2i
  by_cases h : P
  · rw [if_pos h]; exact ⟨fun _ => h, fun _ => rfl⟩
  · rw [if_neg h]; exact ⟨fun q => by omega, fun q => absurd q h⟩
/-- whether a mark can be -/
def seas (a b d : Int) : Bool := if b < a then decide (a ≤ d ∨ d ≤ b) else decide (a ≤ d ∧ d ≤ b)
def canB (σ : St) (k : Nat) (p h : Int) : Bool := seas (gI σ 201 0 k) (gI σ 202 0 k) (irem (idiv h 24) 365) && (gI σ 200 0 k).toNat.testBit p.toNat
theorem canB_c {σ : St} {k : Nat} {p h : Int} (hF : RF σ) (hk : k < 8) (hp : 0 ≤ p ∧ p ≤ 7) : fX1_canBe (k : Int) p h σ = some (b2i (canB σ k p h = true)) := by
  obtain ⟨f1, f2, f3, f4, f5, f6⟩ := hF k hk
  have e : ∀ s : Int, fX1_canBe_j64 (k : Int) p s σ = some (b2i (s ≠ 0 ∧ (gI σ 200 0 k).toNat.testBit p.toNat = true)) := by
    intro s
    unfold fX1_canBe_j64
    by_cases c : s = 0
    · rw [if_pos c, b2i_neg (by simp [c])]
    · rw [if_neg c, ck_x (by omega) (by omega), Int.toNat_natCast, hasMI (by omega) (by omega), bnkI]
      by_cases c2 : (gI σ 200 0 k).toNat.testBit p.toNat = true
      · rw [if_pos c2, b2i_pos ⟨c, c2⟩]
      · rw [if_neg c2, b2i_neg (fun z => c2 z.2)]
  have hk2 : (0 : Int) ≤ (k : Int) := by omega
  have hk3 : (k : Int) < 8 := by omega
  unfold fX1_canBe fX11_dayOf fX1_canBe_j59
  simp only [bnk_some, ck_x hk2 hk3, Int.toNat_natCast, within_eq, e]
  unfold canB seas
  generalize irem (idiv h 24) 365 = d
  by_cases c1 : gI σ 202 0 k < gI σ 201 0 k
  · simp only [if_pos c1]
    by_cases c2 : gI σ 201 0 k ≤ d
    · simp [c2]
    · by_cases c3 : gI σ 202 0 k < d
      · simp [c2, c3]
        rw [b2i_neg (by simp), b2i_neg (by intro z; omega)]
      · simp [c2, c3]
        exact b2i_c ⟨fun z => ⟨by omega, z⟩, fun z => z.2⟩
  · simp only [if_neg c1]
    simp [b2i_0]
theorem canB_m {σ : St} {k : Nat} {p h : Int} (hF : RF σ) (hk : k < 8) (hp : 0 ≤ p ∧ p ≤ 7) : fX12_canBe (k : Int) p h σ = some (b2i (canB σ k p h = true)) := by
  obtain ⟨f1, f2, f3, f4, f5, f6⟩ := hF k hk
  have e : ∀ s : Int, fX12_canBe_j75 (k : Int) p s σ = some (b2i (s ≠ 0 ∧ (gI σ 200 0 k).toNat.testBit p.toNat = true)) := by
    intro s
    unfold fX12_canBe_j75
    by_cases c : s = 0
    · rw [if_pos c, b2i_neg (by simp [c])]
    · rw [if_neg c, ck_x (by omega) (by omega), Int.toNat_natCast, f1, iandshrI (by omega) (by omega)]
      by_cases c2 : (gI σ 200 0 k).toNat.testBit p.toNat = true
      · rw [b2i_pos c2, b2i_pos ⟨c, c2⟩]; rfl
      · rw [b2i_neg c2, b2i_neg (fun z => c2 z.2)]; rfl
  have hk2 : (0 : Int) ≤ (k : Int) := by omega
  have hk3 : (k : Int) < 8 := by omega
  unfold fX12_canBe fX12_canBe_j70
  simp only [bnk_some, ck_x hk2 hk3, Int.toNat_natCast, in_eq, e, f2, f3]
  unfold canB seas
  generalize irem (idiv h 24) 365 = d
  by_cases c1 : gI σ 202 0 k < gI σ 201 0 k
  · simp only [if_pos c1]
    by_cases c2 : gI σ 201 0 k ≤ d
    · simp [c2]
    · by_cases c3 : gI σ 202 0 k < d
      · simp [c2, c3]
        rw [b2i_neg (by simp), b2i_neg (by intro z; omega)]
      · simp [c2, c3]
        exact b2i_c ⟨fun z => ⟨by omega, z⟩, fun z => z.2⟩
  · simp only [if_neg c1]
    simp [b2i_0]
/-- the first lie of a shot -/
def lieV (σ : St) (m p h : Int) : Int := fstF (fun k => m.toNat.testBit k && !canB σ k p h) 0 8
theorem lie_c {σ : St} {m p h : Int} (hF : RF σ) (hm : 0 ≤ m ∧ m ≤ 255) (hp : 0 ≤ p ∧ p ≤ 7) : fX1_firstLie m p h σ = some (lieV σ m p h) := by
  unfold fX1_firstLie fX1_firstLie_j3 fX1_firstLie_j30 fX1_firstLie_j39 lieV
  refine wh_fst _ 8 (fun i hi => ?_) ?_
  · unfold fX1_firstLie_l3 fX1_firstLie_j33
    rw [if_neg (by omega), hasMI (by omega) (by omega), bnkI, Int.toNat_natCast]
    by_cases c : m.toNat.testBit i = true
    · rw [if_pos c, canB_c hF hi hp, bnkI]
      by_cases c2 : canB σ i p h = true
      · rw [if_pos c2, ck_i (by omega) (by omega)]; simp [c2]
      · rw [if_neg c2]; simp [c, c2]
    · rw [if_neg c, ck_i (by omega) (by omega)]; simp [c]
  · rfl
theorem lie_m {σ : St} {x p h : Int} (hF : RF σ) (hs : RS1 σ x.toNat) (hx : 0 ≤ x ∧ x < 40) (hp : 0 ≤ p ∧ p ≤ 7) : fX12_lieOf x p h σ = some (lieV σ (gI σ 805 x.toNat 0) p h) := by
  obtain ⟨q1, q2, q3, q4, q5, q6, q7, q8, q9, r1, r2, r3, r4, r5, r6, r7, x1, x2, x3, x4⟩ := hs
  unfold fX12_lieOf fX12_lieOf_j3 fX12_lieOf_j36 fX12_lieOf_j45 lieV
  refine wh_fst _ 8 (fun i hi => ?_) ?_
  · unfold fX12_lieOf_l3 fX12_lieOf_j39
    rw [if_neg (by omega), ck_x hx.1 hx.2, q7, iandshrI (by omega) (by omega), Int.toNat_natCast]
    by_cases c : (gI σ 805 x.toNat 0).toNat.testBit i = true
    · rw [if_pos (b2i_pos c), canB_m hF hi hp, bnkI]
      by_cases c2 : canB σ i p h = true
      · rw [if_pos c2, ck_i (by omega) (by omega)]; simp [c2]
      · rw [if_neg c2]; simp [c, c2]
    · rw [if_neg (by rw [b2i_neg c]; decide), ck_i (by omega) (by omega)]; simp [c]
  · rfl
theorem op_13 : OP13 RR := by
  intro a1 a2 a3 ha1 ha2 ha3 σ hSF hR
  obtain ⟨hT, hW, hS, hF, hY, hA, hL, hG, hE, hC, hH, hQ⟩ := id hR
  by_cases p : 0 ≤ a1 ∧ a1 < (gN σ 7 : Int)
  · obtain ⟨e1, e2, e3, e4, hs⟩ := shP hS p
    have hm : 0 ≤ gI σ 805 a1.toNat 0 ∧ gI σ 805 a1.toNat 0 ≤ 255 := by
      obtain ⟨q1, q2, q3, q4, q5, q6, q7, q8, q9, r1, r2, r3, r4, r5, r6, r7, x1, x2, x3, x4⟩ := hs
      exact r5
    by_cases p2 : 0 ≤ a2 ∧ a2 ≤ 7
    · by_cases p3 : 0 ≤ a3 ∧ a3 ≤ 9999
      · refine opR (r := lieV σ (gI σ 805 a1.toNat 0) a2 a3) ?_ ?_ hR
        · unfold fX11_lie
          rw [e1, bnk_some, mop_s, ck_n e3, c_isPlace_eq, bnkI, if_pos p2, c_isHour_eq, bnkI, if_pos p3, lie_c hF hm p2]; rfl
        · unfold fX12_lie
          rw [e2, bnk_some, if_neg (by decide), m_isPlace_eq, bnkI, if_pos p2, m_isHour_eq, bnkI, if_pos p3, lie_m hF hs e4 p2]; rfl
      · refine opR (r := -2) ?_ ?_ hR
        · unfold fX11_lie
          rw [e1, bnk_some, mop_s, ck_n e3, c_isPlace_eq, bnkI, if_pos p2, c_isHour_eq, bnkI, if_neg p3]
        · unfold fX12_lie
          rw [e2, bnk_some, if_neg (by decide), m_isPlace_eq, bnkI, if_pos p2, m_isHour_eq, bnkI, if_neg p3]
    · refine opR (r := -1) ?_ ?_ hR
      · unfold fX11_lie
        rw [e1, bnk_some, mop_s, ck_n e3, c_isPlace_eq, bnkI, if_neg p2]
      · unfold fX12_lie
        rw [e2, bnk_some, if_neg (by decide), m_isPlace_eq, bnkI, if_neg p2]
  · obtain ⟨e1, e2⟩ := shN hS p
    refine opR (r := -1) ?_ ?_ hR
    · unfold fX11_lie; rw [e1]; rfl
    · unfold fX12_lie; rw [e2]; rfl
