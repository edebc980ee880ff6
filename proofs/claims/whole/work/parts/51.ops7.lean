/-! division -/
theorem idiv_nat {a b : Nat} (ha : a < 2147483648) (hb : b < 2147483648) : idiv (a : Int) (b : Int) = ((a / b : Nat) : Int) := by
  unfold idiv
  have h : a / b ≤ a := Nat.div_le_self a b
  rw [Int32.toInt_div, i32_toInt ⟨by omega, by omega⟩, i32_toInt ⟨by omega, by omega⟩, ← Int.ofNat_tdiv]
  generalize a / b = q at h
  exact Int.bmod_eq_of_le (by show -((4294967296 : Int) / 2) ≤ (q : Int); omega) (by show (q : Int) < ((4294967296 : Int) + 1) / 2; omega)
theorem irem_nat {a b : Nat} (ha : a < 2147483648) (hb : b < 2147483648) : irem (a : Int) (b : Int) = ((a % b : Nat) : Int) := by
  unfold irem
  have h0 : Int32.ofInt (a : Int) / Int32.ofInt (b : Int) = Int32.ofInt ((a / b : Nat) : Int) := by
    rw [← i32_of (Int32.ofInt (a : Int) / Int32.ofInt (b : Int))]
    exact congrArg Int32.ofInt (idiv_nat ha hb)
  have h1 : ((a / b : Nat) : Int) * (b : Int) = ((a / b * b : Nat) : Int) := by rw [Int.natCast_mul]
  have h2 : a / b * b ≤ a := Nat.div_mul_le_self a b
  have h3 : a % b = a - a / b * b := by rw [Nat.mod_eq_sub_mul_div, Nat.mul_comm]
  rw [h0, ← Int32.ofInt_mul, ← Int32.ofInt_sub, h1, i32_toInt ⟨by omega, by omega⟩, h3]
  omega
theorem idivI {a b : Int} (ha : 0 ≤ a ∧ a < 2147483648) (hb : 0 ≤ b ∧ b < 2147483648) : idiv a b = a / b := by
  obtain ⟨x, rfl⟩ := Int.eq_ofNat_of_zero_le ha.1
  obtain ⟨y, rfl⟩ := Int.eq_ofNat_of_zero_le hb.1
  rw [idiv_nat (by omega) (by omega)]; rfl
theorem iremI {a b : Int} (ha : 0 ≤ a ∧ a < 2147483648) (hb : 0 ≤ b ∧ b < 2147483648) : irem a b = a % b := by
  obtain ⟨x, rfl⟩ := Int.eq_ofNat_of_zero_le ha.1
  obtain ⟨y, rfl⟩ := Int.eq_ofNat_of_zero_le hb.1
  rw [irem_nat (by omega) (by omega)]; rfl
theorem day_bd {a : Int} (ha : 0 ≤ a ∧ a ≤ 9999) : 0 ≤ idiv a 24 ∧ idiv a 24 ≤ 416 := by
  rw [idivI (by omega) (by omega)]
  omega
theorem wh_fstG {f : Int → Option (Int ⊕ (Int ⊕ Unit))} (P : Nat → Bool) (i0 k0 : Nat) (hs : ∀ i, i0 ≤ i → i < i0 + k0 → f (i : Int) = if P i = true then some (.inr (.inl (i : Int))) else some (.inl ((i : Int) + 1))) (he : f ((i0 + k0 : Nat) : Int) = some (.inr (.inr ()))) : bnk (wh f (i0 : Int)) (fun e => Sum.elim (fun a => some a) (fun _ => some (-9)) e) = some (fstF P i0 k0) := by
  have key : ∀ k i, i0 ≤ i → i + k = i0 + k0 → bnk (wh f (i : Int)) (fun e => Sum.elim (fun a => some a) (fun _ => some (-9)) e) = some (fstF P i k) := by
    intro k
    induction k with
    | zero => intro i h0 hi; have : i = i0 + k0 := by omega
              subst this; rw [wh_inr he]; rfl
    | succ k ih =>
      intro i hl hi
      have h0 := hs i hl (by omega)
      unfold fstF
      by_cases c : P i = true
      · rw [if_pos c] at h0
        rw [if_pos c, wh_inr h0]; rfl
      · rw [if_neg c] at h0
        rw [if_neg c]
        have h1 := ih (i + 1) (by omega) (by omega)
        cases hw : wh f ((i + 1 : Nat) : Int) with
        | none => rw [hw] at h1; cases h1
        | some e =>
          rw [hw] at h1
          have : wh f (i : Int) = some e := wh_inl h0 hw
          rw [this]; exact h1
  exact key k0 i0 (Nat.le_refl _) rfl
/-- the shots of a story -/
def rwS (σ : St) (i e : Nat) : Nat := (gI σ 1332 0 (6 * i + e)).toNat
def szS (σ : St) (i : Nat) : Nat := (gI σ 905 i 0).toNat
theorem RY1.row {σ : St} {i e : Nat} (h : RY1 σ i) (he : e < szS σ i) : gP σ 904 i e = some (rwS σ i e) ∧ gI σ 1332 0 (6 * i + e) = (rwS σ i e : Int) ∧ rwS σ i e < gN σ 7 := by
  obtain ⟨q1, q2, q3, q4, q5, q6, q7, q8, r1, r2, r3, r4, r5, r6, r7, r8⟩ := h
  unfold szS at he
  obtain ⟨s, z1, z2, z3⟩ := r8 e (by omega)
  unfold rwS
  rw [z2, Int.toNat_natCast]
  exact ⟨z1, rfl, z3⟩
theorem RY1.sz {σ : St} {i : Nat} (h : RY1 σ i) : gI σ 905 i 0 = (szS σ i : Int) ∧ gI σ 1331 0 i = (szS σ i : Int) ∧ szS σ i ≤ 6 := by
  obtain ⟨q1, q2, q3, q4, q5, q6, q7, q8, r1, r2, r3, r4, r5, r6, r7, r8⟩ := h
  unfold szS
  omega
def feetV (σ : St) (i : Nat) : Int := sumN (fun e => gI σ 803 (rwS σ i e) 0) (szS σ i)
theorem RS.f803 {σ : St} (hS : RS σ) {s : Nat} (hs : s < gN σ 7) : (1 ≤ gI σ 803 s 0 ∧ gI σ 803 s 0 ≤ 900) ∧ gI σ 1313 0 s = gI σ 803 s 0 ∧ (0 ≤ gI σ 802 s 0 ∧ gI σ 802 s 0 ≤ 9999) ∧ gI σ 1312 0 s = gI σ 802 s 0 ∧ (0 ≤ gI σ 806 s 0 ∧ gI σ 806 s 0 ≤ 2) ∧ gI σ 1316 0 s = gI σ 806 s 0 ∧ (0 ≤ gI σ 805 s 0 ∧ gI σ 805 s 0 ≤ 255) ∧ s < 40 := by
  obtain ⟨s1, s2, s3, s4⟩ := hS
  obtain ⟨q1, q2, q3, q4, q5, q6, q7, q8, q9, r1, r2, r3, r4, r5, r6, r7, x1, x2, x3, x4⟩ := s4 s hs
  exact ⟨r3, q5, r2, q4, r6, q8, r5, by omega⟩
theorem feet_bd {σ : St} {i : Nat} (hS : RS σ) (hi : RY1 σ i) {n : Nat} (hn : n ≤ szS σ i) : 0 ≤ sumN (fun e => gI σ 803 (rwS σ i e) 0) n ∧ sumN (fun e => gI σ 803 (rwS σ i e) 0) n ≤ 900 * n := by
  have := sumN_bd2 (g := fun e => gI σ 803 (rwS σ i e) 0) (lo := 0) (hi := 900) n (fun e he => by
    have h1 := (hi.row (e := e) (by omega)).2.2
    have h2 := hS.f803 h1
    show 0 ≤ gI σ 803 (rwS σ i e) 0 ∧ gI σ 803 (rwS σ i e) 0 ≤ 900
    omega)
  omega
theorem feet_c {σ : St} {i : Nat} (hS : RS σ) (hi : RY1 σ i) : fX8_allFeet i σ = some (feetV σ i) := by
  obtain ⟨z1, z2, z3⟩ := hi.sz
  unfold fX8_allFeet fX8_allFeet_j4 fX8_allFeet_j30
  refine bnk_of (wh_sum (fun e => gI σ 803 (rwS σ i e) 0) (szS σ i) (fun e he => ?_) ?_) rfl
  · obtain ⟨h1, h2, h3⟩ := hi.row he
    have h4 := hS.f803 h3
    have hb := feet_bd hS hi (n := e) (by omega)
    generalize sumN (fun e => gI σ 803 (rwS σ i e) 0) e = A at hb
    show fX8_allFeet_l4 i σ A (e : Int) = _
    unfold fX8_allFeet_l4
    rw [z1, if_neg (by omega), ck_x (by omega) (by omega), lt_def, Int.toNat_natCast, h1, mop_s, ck_n h3, ck_i (by omega) (by omega), ck_i (by omega) (by omega)]
  · show fX8_allFeet_l4 i σ _ _ = _
    unfold fX8_allFeet_l4
    rw [z1, if_pos (by omega)]
theorem feet_m {σ : St} {i : Nat} (hS : RS σ) (hi : RY1 σ i) (h8 : i < 8) : fX12_feetOf (i : Int) σ = some (feetV σ i) := by
  obtain ⟨z1, z2, z3⟩ := hi.sz
  unfold fX12_feetOf fX12_feetOf_j4 fX12_feetOf_j39
  refine bnk_of (wh_sum (fun e => gI σ 803 (rwS σ i e) 0) (szS σ i) (fun e he => ?_) ?_) rfl
  · obtain ⟨h1, h2, h3⟩ := hi.row he
    obtain ⟨b1, b2, b3, b4, b5, b6, b7, b8⟩ := hS.f803 h3
    have hb := feet_bd hS hi (n := e) (by omega)
    generalize sumN (fun e => gI σ 803 (rwS σ i e) 0) e = A at hb
    show fX12_feetOf_l4 (i : Int) σ A (e : Int) = _
    unfold fX12_feetOf_l4
    have t : (6 * (i : Int) + (e : Int)).toNat = 6 * i + e := by omega
    rw [ck_x (by omega) (by omega), Int.toNat_natCast, z2, if_neg (by omega), ck_i (by omega) (by omega), ck_i (by omega) (by omega), ck_x (by omega) (by omega), t, h2, ck_x (by omega) (by omega), Int.toNat_natCast, b2, ck_i (by omega) (by omega), ck_i (by omega) (by omega)]
  · show fX12_feetOf_l4 (i : Int) σ _ _ = _
    unfold fX12_feetOf_l4
    rw [ck_x (by omega) (by omega), Int.toNat_natCast, z2, if_pos (by omega)]
/-- old, false, lent ones -/
def oldB (σ : St) (i e : Nat) : Bool := decide (¬ idiv (gI σ 902 i 0) 24 - idiv (gI σ 802 (rwS σ i e) 0) 24 ≤ gI σ 1207 0 0)
def falB (σ : St) (i e : Nat) : Bool := decide (¬ lieV σ (gI σ 805 (rwS σ i e) 0) (gI σ 901 i 0) (gI σ 902 i 0) = -9)
def lenB (σ : St) (i e : Nat) : Bool := decide (gI σ 806 (rwS σ i e) 0 = 2)
def cntB (P : Nat → Bool) (n : Nat) : Int := sumN (fun e => b2i (P e = true)) n
theorem cntB_bd (P : Nat → Bool) (n : Nat) : 0 ≤ cntB P n ∧ cntB P n ≤ n := sumN_01 (fun i => b2i_01) n
theorem wh_cntB {f : Int × Int → Option ((Int × Int) ⊕ Int)} (P : Nat → Bool) (n : Nat) (hs : ∀ i, i < n → ∀ A, 0 ≤ A ∧ A ≤ (i : Int) → f (A, (i : Int)) = some (.inl (A + b2i (P i = true), (i : Int) + 1))) (he : ∀ A, f (A, (n : Int)) = some (.inr A)) : wh f (0, 0) = some (cntB P n) :=
  wh_sum (fun e => b2i (P e = true)) n (fun i hi => hs i hi _ (cntB_bd P i)) (he _)
theorem old_c {σ : St} {i : Nat} (hS : RS σ) (hi : RY1 σ i) : fX8_oldOnes i (gI σ 1207 0 0) σ = some (cntB (oldB σ i) (szS σ i)) := by
  obtain ⟨z1, z2, z3⟩ := hi.sz
  have hh : 0 ≤ gI σ 902 i 0 ∧ gI σ 902 i 0 ≤ 9999 := by
    obtain ⟨q1, q2, q3, q4, q5, q6, q7, q8, r1, r2, r3, r4, r5, r6, r7, r8⟩ := hi
    exact r3
  have d1 := day_bd hh
  unfold fX8_oldOnes fX8_oldOnes_j4 fX8_oldOnes_j45
  refine bnk_of (wh_cntB (oldB σ i) (szS σ i) (fun e he A hA => ?_) (fun A => ?_)) rfl
  · obtain ⟨h1, h2, h3⟩ := hi.row he
    obtain ⟨b1, b2, b3, b4, b5, b6, b7, b8⟩ := hS.f803 h3
    have d2 := day_bd b3
    show fX8_oldOnes_l4 i _ σ A (e : Int) = _
    unfold fX8_oldOnes_l4 fX8_oldOnes_j39 fX11_dayOf
    rw [z1, if_neg (by omega), bnk_some, ck_x (by omega) (by omega), lt_def, Int.toNat_natCast, h1, mop_s, ck_n h3, bnk_some, ck_i (by omega) (by omega)]
    unfold oldB
    by_cases c : idiv (gI σ 902 i 0) 24 - idiv (gI σ 802 (rwS σ i e) 0) 24 ≤ gI σ 1207 0 0
    · rw [if_pos c, ck_i (by omega) (by omega), b2i_neg (by simp [c]), Int.add_zero]
    · rw [if_neg c, ck_i (by omega) (by omega), ck_i (by omega) (by omega), b2i_pos (by simp [c])]
  · show fX8_oldOnes_l4 i _ σ _ _ = _
    unfold fX8_oldOnes_l4
    rw [z1, if_pos (by omega)]
theorem fal_c {σ : St} {i : Nat} (hF : RF σ) (hS : RS σ) (hi : RY1 σ i) : fX8_falseOnes i σ = some (cntB (falB σ i) (szS σ i)) := by
  obtain ⟨z1, z2, z3⟩ := hi.sz
  have hp : 0 ≤ gI σ 901 i 0 ∧ gI σ 901 i 0 ≤ 7 := by
    obtain ⟨q1, q2, q3, q4, q5, q6, q7, q8, r1, r2, r3, r4, r5, r6, r7, r8⟩ := hi
    exact r2
  unfold fX8_falseOnes fX8_falseOnes_j4 fX8_falseOnes_j47
  refine bnk_of (wh_cntB (falB σ i) (szS σ i) (fun e he A hA => ?_) (fun A => ?_)) rfl
  · obtain ⟨h1, h2, h3⟩ := hi.row he
    obtain ⟨b1, b2, b3, b4, b5, b6, b7, b8⟩ := hS.f803 h3
    show fX8_falseOnes_l4 i σ A (e : Int) = _
    unfold fX8_falseOnes_l4 fX8_falseOnes_j41
    rw [z1, if_neg (by omega), ck_x (by omega) (by omega), lt_def, Int.toNat_natCast, h1, mop_s, ck_n h3, lie_c hF b7 hp, bnk_some]
    unfold falB
    by_cases c : lieV σ (gI σ 805 (rwS σ i e) 0) (gI σ 901 i 0) (gI σ 902 i 0) = -9
    · rw [if_pos c, ck_i (by omega) (by omega), b2i_neg (by simp [c]), Int.add_zero]
    · rw [if_neg c, ck_i (by omega) (by omega), ck_i (by omega) (by omega), b2i_pos (by simp [c])]
  · show fX8_falseOnes_l4 i σ _ _ = _
    unfold fX8_falseOnes_l4
    rw [z1, if_pos (by omega)]
theorem len_c {σ : St} {i : Nat} (hS : RS σ) (hi : RY1 σ i) : fX8_lentOnes i σ = some (cntB (lenB σ i) (szS σ i)) := by
  obtain ⟨z1, z2, z3⟩ := hi.sz
  unfold fX8_lentOnes fX8_lentOnes_j4 fX8_lentOnes_j34
  refine bnk_of (wh_cntB (lenB σ i) (szS σ i) (fun e he A hA => ?_) (fun A => ?_)) rfl
  · obtain ⟨h1, h2, h3⟩ := hi.row he
    show fX8_lentOnes_l4 i σ A (e : Int) = _
    unfold fX8_lentOnes_l4 fX8_lentOnes_j28
    rw [z1, if_neg (by omega), ck_x (by omega) (by omega), lt_def, Int.toNat_natCast, h1, mop_s, ck_n h3]
    unfold lenB
    by_cases c : gI σ 806 (rwS σ i e) 0 = 2
    · rw [if_pos c, ck_i (by omega) (by omega), ck_i (by omega) (by omega), b2i_pos (by simp [c])]
    · rw [if_neg c, ck_i (by omega) (by omega), b2i_neg (by simp [c]), Int.add_zero]
  · show fX8_lentOnes_l4 i σ _ _ = _
    unfold fX8_lentOnes_l4
    rw [z1, if_pos (by omega)]
def manB (σ : St) (i : Nat) (k : Int) (e : Nat) : Bool := if k = 0 then oldB σ i e else if k = 1 then falB σ i e else lenB σ i e
theorem man_m {σ : St} {i : Nat} {k : Int} (hA : RA σ) (hF : RF σ) (hS : RS σ) (hi : RY1 σ i) (h8 : i < 8) : fX12_manyOf (i : Int) k σ = some (cntB (manB σ i k) (szS σ i)) := by
  obtain ⟨z1, z2, z3⟩ := hi.sz
  obtain ⟨q1, q2, q3, q4, q5, q6, q7, q8, r1, r2, r3, r4, r5, r6, r7, r8⟩ := id hi
  have d1 := day_bd r3
  unfold fX12_manyOf fX12_manyOf_j5 fX12_manyOf_j142
  refine bnk_of (wh_cntB (manB σ i k) (szS σ i) (fun e he A hAA => ?_) (fun A => ?_)) rfl
  · obtain ⟨h1, h2, h3⟩ := hi.row he
    obtain ⟨b1, b2, b3, b4, b5, b6, b7, b8⟩ := hS.f803 h3
    have d2 := day_bd b3
    show fX12_manyOf_l5 (i : Int) k σ A (e : Int) = _
    have t : (6 * (i : Int) + (e : Int)).toNat = 6 * i + e := by omega
    have e1 : ∀ s : Int, fX12_manyOf_j121 (i : Int) k A (e : Int) s σ = some (.inl (A + (if s = 0 then 0 else 1), (e : Int) + 1)) := by
      intro s
      unfold fX12_manyOf_j121 fX12_manyOf_j134
      by_cases c : s = 0
      · rw [if_pos c, if_pos c, ck_i (by omega) (by omega), ck_i (by omega) (by omega)]
      · rw [if_neg c, if_neg c, ck_i (by omega) (by omega), ck_i (by omega) (by omega)]
    unfold fX12_manyOf_l5 manB
    rw [ck_x (by omega) (by omega), Int.toNat_natCast, z2, if_neg (by omega), ck_i (by omega) (by omega), ck_i (by omega) (by omega), ck_x (by omega) (by omega), t, h2, Int.toNat_natCast, q3, q4, b4, b6, hA.1, e1, e1]
    by_cases c0 : k = 0
    · rw [if_pos c0, if_pos c0, ck_x (by omega) (by omega), ck_x (by omega) (by omega), ck_i (by omega) (by omega)]
      unfold oldB
      by_cases c : idiv (gI σ 902 i 0) 24 - idiv (gI σ 802 (rwS σ i e) 0) 24 ≤ gI σ 1207 0 0
      · rw [if_pos c, b2i_neg (by simp [c])]; rfl
      · rw [if_neg c, b2i_pos (by simp [c])]; rfl
    · rw [if_neg c0, if_neg c0]
      by_cases c1 : k = 1
      · rw [if_pos c1, if_pos c1, ck_x (by omega) (by omega), ck_x (by omega) (by omega), lie_m hF (by rw [Int.toNat_natCast]; exact hS.2.2.2 _ h3) (by omega) r2, bnk_some, Int.toNat_natCast]
        unfold falB
        by_cases c : lieV σ (gI σ 805 (rwS σ i e) 0) (gI σ 901 i 0) (gI σ 902 i 0) = -9
        · rw [if_pos c, b2i_neg (by simp [c])]; rfl
        · rw [if_neg c, b2i_pos (by simp [c])]; rfl
      · rw [if_neg c1, if_neg c1, ck_x (by omega) (by omega)]
        unfold lenB
        by_cases c : gI σ 806 (rwS σ i e) 0 = 2
        · rw [if_pos c, b2i_pos (by simp [c])]; rfl
        · rw [if_neg c, b2i_neg (by simp [c])]; rfl
  · show fX12_manyOf_l5 (i : Int) k σ _ _ = _
    unfold fX12_manyOf_l5
    rw [ck_x (by omega) (by omega), Int.toNat_natCast, z2, if_pos (by omega)]
/-- ready, in order -/
def allB (P : Nat → Bool) : Nat → Bool
  | 0 => true
  | n + 1 => allB P n && P n
theorem allB_iff {P : Nat → Bool} {n : Nat} : allB P n = true ↔ ∀ i, i < n → P i = true := by
  induction n with
  | zero => exact ⟨fun _ i hi => absurd hi (Nat.not_lt_zero _), fun _ => rfl⟩
  | succ n ih =>
    unfold allB
    rw [Bool.and_eq_true, ih]
    constructor
    · rintro ⟨h1, h2⟩ i hi
      by_cases q : i = n
      · rw [q]; exact h2
      · exact h1 i (by omega)
    · intro h; exact ⟨fun i hi => h i (by omega), h n (by omega)⟩
theorem wh_all {f : Int → Option (Int ⊕ (Unit ⊕ Unit))} (P : Nat → Bool) (n : Nat) (hs : ∀ i, i < n → f (i : Int) = if P i = true then some (.inl ((i : Int) + 1)) else some (.inr (.inl ()))) (he : f (n : Int) = some (.inr (.inr ()))) : wh f 0 = some (if allB P n = true then .inr () else .inl ()) := by
  have key : ∀ k i, i + k = n → (∀ j, j < i → P j = true) → wh f (i : Int) = some (if allB P n = true then .inr () else .inl ()) := by
    intro k
    induction k with
    | zero => intro i hi hp; have : i = n := by omega
              subst this; rw [wh_inr he, if_pos (allB_iff.mpr hp)]
    | succ k ih =>
      intro i hi hp
      have h0 := hs i (by omega)
      by_cases c : P i = true
      · rw [if_pos c] at h0
        exact wh_inl h0 (ih (i + 1) (by omega) (fun j hj => by
          by_cases q : j = i
          · rw [q]; exact c
          · exact hp j (by omega)))
      · rw [if_neg c] at h0
        rw [wh_inr h0, if_neg (fun z => c (allB_iff.mp z i (by omega)))]
  exact key n 0 (by omega) (fun j hj => absurd hj (Nat.not_lt_zero _))
def inB (σ : St) (i e : Nat) : Bool := decide (wv σ (rwS σ i e) (gI σ 1200 0 0) = 3)
def rdyB (σ : St) (i : Nat) : Bool := decide (0 < szS σ i) && allB (inB σ i) (szS σ i)
theorem rdy_c {σ : St} {i : Nat} (hi : RY1 σ i) : fX8_isReady i (gI σ 1200 0 0) σ = some (b2i (rdyB σ i = true)) := by
  obtain ⟨z1, z2, z3⟩ := hi.sz
  unfold fX8_isReady fX8_isReady_j2 fX8_isReady_j24 fX8_isReady_j32
  have hw := wh_all (f := fun s => fX8_isReady_l2 i (gI σ 1200 0 0) σ s) (inB σ i) (szS σ i) (fun e he => ?_) ?_
  · rw [hw]
    unfold rdyB
    by_cases c : allB (inB σ i) (szS σ i) = true
    · rw [if_pos c, bnk_some, z1]
      show (if (szS σ i : Int) ≤ 0 then some 0 else some 1) = _
      by_cases c2 : 0 < szS σ i
      · rw [if_neg (by omega), b2i_pos (by simp [c, c2])]
      · rw [if_pos (by omega), b2i_neg (by simp [c2])]
    · rw [if_neg c, bnk_some, b2i_neg (by simp [c])]; rfl
  · obtain ⟨h1, h2, h3⟩ := hi.row he
    unfold fX8_isReady_l2 inB
    rw [z1, if_neg (by omega), ck_x (by omega) (by omega), lt_def, Int.toNat_natCast, h1, mop_s, ck_n h3, wv_c, bnk_some]
    by_cases c : wv σ (rwS σ i e) (gI σ 1200 0 0) = 3
    · rw [if_pos c, ck_i (by omega) (by omega), if_pos (by simp [c])]
    · rw [if_neg c, if_neg (by simp [c])]
  · unfold fX8_isReady_l2
    rw [z1, if_pos (by omega)]
theorem rdy_m {σ : St} {i : Nat} (hT : RT σ) (hS : RS σ) (hi : RY1 σ i) (h8 : i < 8) : fX12_isReady (i : Int) σ = some (b2i (rdyB σ i = true)) := by
  obtain ⟨z1, z2, z3⟩ := hi.sz
  obtain ⟨t1, t2, t3⟩ := hT
  have e0 : fX12_isReady (i : Int) σ = fX12_isReady_j14 (i : Int) (b2i (0 < szS σ i)) σ := by
    unfold fX12_isReady
    rw [ck_x (by omega) (by omega), Int.toNat_natCast, z2]
    by_cases c : 0 < szS σ i
    · rw [if_neg (by omega), b2i_pos c]
    · rw [if_pos (by omega), b2i_neg c]
  rw [e0]
  unfold fX12_isReady_j14 fX12_isReady_j17 fX12_isReady_j66
  have := wh_seq (f := fun s => fX12_isReady_l17 (i : Int) σ s.1 s.2) (r := b2i (rdyB σ i = true)) (szS σ i) (fun e => (b2i (0 < szS σ i ∧ allB (inB σ i) e = true), (e : Int))) (fun e he => ?_) ?_
  · have e1 : b2i (0 < szS σ i ∧ allB (inB σ i) 0 = true) = b2i (0 < szS σ i) := b2i_c ⟨fun z => z.1, fun z => ⟨z, rfl⟩⟩
    simp only [e1] at this
    have t4 : wh (fun s => fX12_isReady_l17 (i : Int) σ s.1 s.2) (b2i (0 < szS σ i), 0) = some (b2i (rdyB σ i = true)) := this
    rw [t4, bnk_some, ck_b b2i_b]
  · obtain ⟨h1, h2, h3⟩ := hi.row he
    obtain ⟨b1, b2, b3, b4, b5, b6, b7, b8⟩ := hS.f803 h3
    have t : (6 * (i : Int) + (e : Int)).toNat = 6 * i + e := by omega
    show fX12_isReady_l17 (i : Int) σ (b2i (0 < szS σ i ∧ allB (inB σ i) e = true)) (e : Int) = some (.inl (b2i (0 < szS σ i ∧ (allB (inB σ i) e && inB σ i e) = true), (e : Int) + 1))
    have hin : inB σ i e = true ↔ wv σ (rwS σ i e) (gI σ 1200 0 0) = 3 := by unfold inB; rw [decide_eq_true_iff]
    unfold fX12_isReady_l17 fX12_isReady_j58 fX12_isReady_j59
    rw [ck_x (by omega) (by omega), Int.toNat_natCast, z2, if_neg (by omega), ck_i (by omega) (by omega), ck_i (by omega) (by omega), ck_i (by omega) (by omega), ck_x (by omega) (by omega), t, h2, t1, wv_m t3 (by rw [Int.toNat_natCast]; exact hS.2.2.2 _ h3) (by omega) t3, bnk_some, Int.toNat_natCast, b2i_ite]
    by_cases c : 0 < szS σ i ∧ allB (inB σ i) e = true
    · rw [if_pos c]
      by_cases c2 : wv σ (rwS σ i e) (gI σ 1200 0 0) = 3
      · rw [if_pos c2, b2i_pos ⟨c.1, by rw [Bool.and_eq_true]; exact ⟨c.2, hin.mpr c2⟩⟩, ck_i (by omega) (by omega)]
      · rw [if_neg c2, b2i_neg (fun z => c2 (hin.mp ((Bool.and_eq_true _ _).mp z.2).2))]
    · rw [if_neg c, b2i_neg (fun z => c ⟨z.1, ((Bool.and_eq_true _ _).mp z.2).1⟩)]
  · show fX12_isReady_l17 (i : Int) σ _ _ = _
    unfold fX12_isReady_l17 rdyB
    rw [ck_x (by omega) (by omega), Int.toNat_natCast, z2, if_pos (by omega)]
    rw [b2i_c (Q := (decide (0 < szS σ i) && allB (inB σ i) (szS σ i)) = true) (by simp)]
def disB (σ : St) (i e : Nat) : Bool := decide (gI σ 802 (rwS σ i e) 0 < gI σ 802 (rwS σ i (e - 1)) 0 ∨ ¬ idiv (gI σ 802 (rwS σ i e) 0) 24 = idiv (gI σ 802 (rwS σ i (e - 1)) 0) 24)
theorem dis_c {σ : St} {i : Nat} (hS : RS σ) (hi : RY1 σ i) : fX8_disorder i σ = some (fstF (disB σ i) 1 (szS σ i - 1)) := by
  obtain ⟨z1, z2, z3⟩ := hi.sz
  unfold fX8_disorder fX8_disorder_j2 fX8_disorder_j48 fX8_disorder_j56
  refine wh_fstG (disB σ i) 1 (szS σ i - 1) (fun e h0 he => ?_) ?_
  · obtain ⟨h1, h2, h3⟩ := hi.row (e := e) (by omega)
    obtain ⟨g1, g2, g3⟩ := hi.row (e := e - 1) (by omega)
    have t : ((e : Int) - 1).toNat = e - 1 := by omega
    unfold fX8_disorder_l2 disB fX11_dayOf
    rw [z1, if_neg (by omega), ck_i (by omega) (by omega), ck_x (by omega) (by omega), lt_def, t, g1, mop_s, ck_n g3, ck_x (by omega) (by omega), lt_def, Int.toNat_natCast, h1, mop_s, ck_n h3]
    by_cases c : gI σ 802 (rwS σ i e) 0 < gI σ 802 (rwS σ i (e - 1)) 0
    · rw [if_pos c, if_pos (by simp [c])]
    · rw [if_neg c, bnk_some, bnk_some]
      by_cases c2 : idiv (gI σ 802 (rwS σ i e) 0) 24 = idiv (gI σ 802 (rwS σ i (e - 1)) 0) 24
      · rw [if_pos c2, ck_i (by omega) (by omega), if_neg (by simp [c, c2])]
      · rw [if_neg c2, if_pos (by simp [c2])]
  · unfold fX8_disorder_l2
    rw [z1, if_pos (by omega)]
theorem dis_m {σ : St} {i : Nat} (hS : RS σ) (hi : RY1 σ i) (h8 : i < 8) : fX12_disorderOf (i : Int) σ = some (fstF (disB σ i) 1 (szS σ i - 1)) := by
  obtain ⟨z1, z2, z3⟩ := hi.sz
  unfold fX12_disorderOf fX12_disorderOf_j2 fX12_disorderOf_j67 fX12_disorderOf_j75
  refine wh_fstG (disB σ i) 1 (szS σ i - 1) (fun e h0 he => ?_) ?_
  · obtain ⟨h1, h2, h3⟩ := hi.row (e := e) (by omega)
    obtain ⟨g1, g2, g3⟩ := hi.row (e := e - 1) (by omega)
    obtain ⟨b1, b2, b3, b4, b5, b6, b7, b8⟩ := hS.f803 h3
    obtain ⟨c1, c2, c3, c4, c5, c6, c7, c8⟩ := hS.f803 g3
    have t : (6 * (i : Int) + (e : Int)).toNat = 6 * i + e := by omega
    have u : (6 * (i : Int) + (e : Int) - 1).toNat = 6 * i + (e - 1) := by omega
    unfold fX12_disorderOf_l2 disB
    rw [ck_x (by omega) (by omega), Int.toNat_natCast, z2, if_neg (by omega), ck_i (by omega) (by omega), ck_i (by omega) (by omega), ck_i (by omega) (by omega), ck_x (by omega) (by omega), u, g2, ck_x (by omega) (by omega), ck_i (by omega) (by omega), ck_i (by omega) (by omega), ck_x (by omega) (by omega), t, h2, ck_x (by omega) (by omega), Int.toNat_natCast, Int.toNat_natCast, b4, c4]
    by_cases c : gI σ 802 (rwS σ i e) 0 < gI σ 802 (rwS σ i (e - 1)) 0
    · rw [if_pos c, if_pos (by simp [c])]
    · rw [if_neg c]
      by_cases c2 : idiv (gI σ 802 (rwS σ i e) 0) 24 = idiv (gI σ 802 (rwS σ i (e - 1)) 0) 24
      · rw [if_pos c2, ck_i (by omega) (by omega), if_neg (by simp [c, c2])]
      · rw [if_neg c2, if_pos (by simp [c2])]
  · unfold fX12_disorderOf_l2
    rw [ck_x (by omega) (by omega), Int.toNat_natCast, z2, if_pos (by omega)]
theorem op_20 : OP20 RR := by
  intro a1 a2 ha1 ha2 σ hSF hR
  obtain ⟨hT, hW, hS, hF, hY, hA, hL, hG, hE, hC, hH, hQ⟩ := id hR
  by_cases p : 0 ≤ a1 ∧ a1 < (gN σ 8 : Int)
  · obtain ⟨e1, e2, e3, e4, hi⟩ := stP hY p
    obtain ⟨i, rfl⟩ := Int.eq_ofNat_of_zero_le p.1
    rw [Int.toNat_natCast] at e1 e3 hi
    obtain ⟨z1, z2, z3⟩ := hi.sz
    have h8 : i < 8 := by omega
    unfold fX11_of fX12_of
    rw [e1, e2, bnk_some, bnk_some, mop_s, ck_n e3, if_neg (show ¬ (1 : Int) = 0 by decide), ck_x e4.1 e4.2, feet_c hS hi, feet_m hS hi h8, dis_c hS hi, dis_m hS hi h8, old_c hS hi, fal_c hF hS hi, len_c hS hi, man_m hA hF hS hi h8, man_m hA hF hS hi h8, man_m hA hF hS hi h8, rdy_c hi, rdy_m hT hS hi h8, z1, Int.toNat_natCast, z2]
    simp only [bnk_some, asN_eq b2i_b]
    by_cases c0 : a2 = 0
    · simp only [if_pos c0]; exact opR rfl rfl hR
    · simp only [if_neg c0]
      by_cases c1 : a2 = 1
      · simp only [if_pos c1]; exact opR rfl rfl hR
      · simp only [if_neg c1]
        by_cases c2 : a2 = 2
        · simp only [if_pos c2]; exact opR rfl rfl hR
        · simp only [if_neg c2]
          by_cases c3 : a2 = 3
          · simp only [if_pos c3]; exact opR rfl rfl hR
          · simp only [if_neg c3]
            by_cases c4 : a2 = 4
            · simp only [if_pos c4]; exact opR rfl rfl hR
            · simp only [if_neg c4]
              by_cases c5 : a2 = 5
              · simp only [if_pos c5]; exact opR rfl rfl hR
              · simp only [if_neg c5]
                by_cases c6 : a2 = 6
                · simp only [if_pos c6]
                  rcases b2i_b (P := rdyB σ i = true) with z | z <;> rw [z] <;> exact opR rfl rfl hR
                · simp only [if_neg c6]; exact opR rfl rfl hR
  · obtain ⟨e1, e2⟩ := stN hY p
    refine opR (r := -1) ?_ ?_ hR
    · unfold fX11_of; rw [e1]; rfl
    · unfold fX12_of; rw [e2]; rfl
/-- what a story costs -/
def priG (σ : St) (i e : Nat) : Int := gI σ 803 (rwS σ i e) 0 * gI σ 1208 0 (gI σ 806 (rwS σ i e) 0).toNat
theorem pri_bd {σ : St} {i e : Nat} (hA : RA σ) (hS : RS σ) (hi : RY1 σ i) (he : e < szS σ i) : 0 ≤ priG σ i e ∧ priG σ i e ≤ 89100 := by
  obtain ⟨h1, h2, h3⟩ := hi.row he
  obtain ⟨b1, b2, b3, b4, b5, b6, b7, b8⟩ := hS.f803 h3
  obtain ⟨a1, a2, a3⟩ := hA.2.2 (gI σ 806 (rwS σ i e) 0).toNat (by omega)
  unfold priG
  constructor
  · exact Int.mul_nonneg (by omega) a2
  · exact Int.le_trans (Int.mul_le_mul b1.2 a3 a2 (by omega)) (by decide)
theorem pri_bd2 {σ : St} {i n : Nat} (hA : RA σ) (hS : RS σ) (hi : RY1 σ i) (hn : n ≤ szS σ i) : 0 ≤ sumN (priG σ i) n ∧ sumN (priG σ i) n ≤ 89100 * n := by
  have := sumN_bd2 (g := priG σ i) (lo := 0) (hi := 89100) n (fun e he => pri_bd hA hS hi (by omega))
  omega
theorem op_22 : OP22 RR := by
  intro a1 ha1 σ hSF hR
  obtain ⟨hT, hW, hS, hF, hY, hA, hL, hG, hE, hC, hH, hQ⟩ := id hR
  by_cases p : 0 ≤ a1 ∧ a1 < (gN σ 8 : Int)
  · obtain ⟨e1, e2, e3, e4, hi⟩ := stP hY p
    obtain ⟨i, rfl⟩ := Int.eq_ofNat_of_zero_le p.1
    rw [Int.toNat_natCast] at e1 e3 hi
    obtain ⟨z1, z2, z3⟩ := hi.sz
    have h8 : i < 8 := by omega
    refine opR (r := sumN (priG σ i) (szS σ i)) ?_ ?_ hR
    · unfold fX11_cost fX8_price fX8_price_j4 fX8_price_j42
      rw [e1, bnk_some, mop_s, ck_n e3]
      refine bnk_of (bnk_of (wh_sum (priG σ i) (szS σ i) (fun e he => ?_) ?_) rfl) rfl
      · obtain ⟨h1, h2, h3⟩ := hi.row he
        obtain ⟨b1, b2, b3, b4, b5, b6, b7, b8⟩ := hS.f803 h3
        have hb := pri_bd2 hA hS hi (n := e) (by omega)
        have hg := pri_bd hA hS hi he
        generalize sumN (priG σ i) e = A at hb
        show fX8_price_l4 i 1208 3 σ A (e : Int) = _
        unfold fX8_price_l4
        unfold priG at hg ⊢
        rw [z1, if_neg (by omega), ck_x (by omega) (by omega), lt_def, Int.toNat_natCast, h1, mop_s, ck_n h3, ck_x (by omega) (by omega), lt_def, mop_s, ck_n h3, ck_x (by omega) (by omega), ck_i (by omega) (by omega), ck_i (by omega) (by omega), ck_i (by omega) (by omega)]
      · show fX8_price_l4 i 1208 3 σ _ _ = _
        unfold fX8_price_l4
        rw [z1, if_pos (by omega)]
    · unfold fX12_cost fX12_cost_j14 fX12_cost_j66
      rw [e2, bnk_some, if_neg (by decide)]
      refine bnk_of (wh_sum (priG σ i) (szS σ i) (fun e he => ?_) ?_) rfl
      · obtain ⟨h1, h2, h3⟩ := hi.row he
        obtain ⟨b1, b2, b3, b4, b5, b6, b7, b8⟩ := hS.f803 h3
        obtain ⟨d1, d2, d3⟩ := hA.2.2 (gI σ 806 (rwS σ i e) 0).toNat (by omega)
        have hb := pri_bd2 hA hS hi (n := e) (by omega)
        have hg := pri_bd hA hS hi he
        generalize sumN (priG σ i) e = A at hb
        show fX12_cost_l14 (i : Int) σ A (e : Int) = _
        have t : (6 * (i : Int) + (e : Int)).toNat = 6 * i + e := by omega
        unfold fX12_cost_l14
        unfold priG at hg ⊢
        rw [ck_x (by omega) (by omega), Int.toNat_natCast, z2, if_neg (by omega), ck_i (by omega) (by omega), ck_i (by omega) (by omega), ck_x (by omega) (by omega), t, h2, ck_x (by omega) (by omega), ck_x (by omega) (by omega), Int.toNat_natCast, b6, ck_x (by omega) (by omega), b2, d1, ck_i (by omega) (by omega), ck_i (by omega) (by omega), ck_i (by omega) (by omega)]
      · show fX12_cost_l14 (i : Int) σ _ _ = _
        unfold fX12_cost_l14
        rw [ck_x (by omega) (by omega), Int.toNat_natCast, z2, if_pos (by omega)]
  · obtain ⟨e1, e2⟩ := stN hY p
    refine opR (r := -1) ?_ ?_ hR
    · unfold fX11_cost; rw [e1]; rfl
    · unfold fX12_cost; rw [e2]; rfl
