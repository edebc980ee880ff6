theorem lcm_lt0 {a b : Int} : lcm_ a b < 0 ↔ a < b := by
  unfold lcm_
  by_cases h : b < a
  · rw [if_pos h]; constructor <;> intro q <;> omega
  · rw [if_neg h]
    by_cases h2 : a = b
    · rw [if_pos h2]; constructor <;> intro q <;> omega
    · rw [if_neg h2]; constructor <;> intro q <;> omega
theorem lcm_gt0 {a b : Int} : 0 < lcm_ a b ↔ b < a := by
  unfold lcm_
  by_cases h : b < a
  · rw [if_pos h]; constructor <;> intro q <;> omega
  · rw [if_neg h]
    by_cases h2 : a = b
    · rw [if_pos h2]; constructor <;> intro q <;> omega
    · rw [if_neg h2]; constructor <;> intro q <;> omega
theorem within_eq (x a b : Int) : fX11_within x a b = some (b2i (a ≤ x ∧ x ≤ b)) := by
  unfold fX11_within
  by_cases h : x < a
  · rw [if_pos h, b2i_neg (by omega)]
  · rw [if_neg h]
    by_cases h2 : b < x
    · rw [if_pos h2, b2i_neg (by omega)]
    · rw [if_neg h2, b2i_pos (by omega)]
theorem in_eq (x a b : Int) : fX12_in x a b = some (b2i (a ≤ x ∧ x ≤ b)) := by
  unfold fX12_in
  by_cases h : x < a
  · rw [if_pos (lcm_lt0.mpr h), b2i_neg (by omega)]
  · rw [if_neg (fun q => h (lcm_lt0.mp q))]
    by_cases h2 : b < x
    · rw [if_pos (lcm_gt0.mpr h2), b2i_neg (by omega)]
    · rw [if_neg (fun q => h2 (lcm_gt0.mp q)), b2i_pos (by omega)]
theorem c_isHour_eq (x : Int) : fX11_isHour x = some (b2i (0 ≤ x ∧ x ≤ 9999)) := by
  unfold fX11_isHour
  rw [within_eq]; rfl
theorem c_isDay_eq (x : Int) : fX11_isDay x = some (b2i (0 ≤ x ∧ x ≤ 416)) := by
  unfold fX11_isDay
  rw [within_eq]; rfl
theorem c_isDayOfYear_eq (x : Int) : fX11_isDayOfYear x = some (b2i (0 ≤ x ∧ x ≤ 364)) := by
  unfold fX11_isDayOfYear
  rw [within_eq]; rfl
theorem c_isPlace_eq (x : Int) : fX11_isPlace x = some (b2i (0 ≤ x ∧ x ≤ 7)) := by
  unfold fX11_isPlace
  rw [within_eq]; rfl
theorem c_isLand_eq (x : Int) : fX11_isLand x = some (b2i (0 ≤ x ∧ x ≤ 4)) := by
  unfold fX11_isLand
  rw [within_eq]; rfl
theorem c_isSubject_eq (x : Int) : fX11_isSubject x = some (b2i (0 ≤ x ∧ x ≤ 15)) := by
  unfold fX11_isSubject
  rw [within_eq]; rfl
theorem c_isMarkSet_eq (x : Int) : fX11_isMarkSet x = some (b2i (0 ≤ x ∧ x ≤ 255)) := by
  unfold fX11_isMarkSet
  rw [within_eq]; rfl
theorem c_isKind_eq (x : Int) : fX11_isKind x = some (b2i (0 ≤ x ∧ x ≤ 2)) := by
  unfold fX11_isKind
  rw [within_eq]; rfl
theorem c_isWeek_eq (x : Int) : fX11_isWeek x = some (b2i (0 ≤ x ∧ x ≤ 8)) := by
  unfold fX11_isWeek
  rw [within_eq]; rfl
theorem m_isHour_eq (x : Int) : fX12_isHour x = some (b2i (0 ≤ x ∧ x ≤ 9999)) := by
  unfold fX12_isHour
  rw [in_eq]; rfl
theorem m_isDay_eq (x : Int) : fX12_isDay x = some (b2i (0 ≤ x ∧ x ≤ 416)) := by
  unfold fX12_isDay
  rw [in_eq]; rfl
theorem m_isPlace_eq (x : Int) : fX12_isPlace x = some (b2i (0 ≤ x ∧ x ≤ 7)) := by
  unfold fX12_isPlace
  rw [in_eq]; rfl
theorem m_isLand_eq (x : Int) : fX12_isLand x = some (b2i (0 ≤ x ∧ x ≤ 4)) := by
  unfold fX12_isLand
  rw [in_eq]; rfl
theorem m_isShot_eq (x : Int) (σ : St) (h : inr (gI σ 1310 0 0 - 1)) : fX12_isShot x σ = some (b2i (0 ≤ x ∧ x ≤ gI σ 1310 0 0 - 1)) := by
  unfold fX12_isShot
  rw [ck_pos h, in_eq]; rfl
theorem m_isStory_eq (x : Int) (σ : St) (h : inr (gI σ 1326 0 0 - 1)) : fX12_isStory x σ = some (b2i (0 ≤ x ∧ x ≤ gI σ 1326 0 0 - 1)) := by
  unfold fX12_isStory
  rw [ck_pos h, in_eq]; rfl
theorem m_isRule_eq (x : Int) (σ : St) (h : inr (gI σ 1337 0 0 - 1)) : fX12_isRule x σ = some (b2i (0 ≤ x ∧ x ≤ gI σ 1337 0 0 - 1)) := by
  unfold fX12_isRule
  rw [ck_pos h, in_eq]; rfl
theorem bnkI {α : Type} {P : Prop} [Decidable P] {A B : Option α} : bnk (some (b2i P)) (fun r => if r = 0 then A else B) = if P then B else A := by
  show (if b2i P = 0 then A else B) = _
  by_cases h : P
  · rw [if_pos h, if_neg (by rw [b2i_pos h]; decide)]
  · rw [if_neg h, if_pos (b2i_neg h)]
theorem bnkJ {α : Type} {P : Prop} [Decidable P] {A B : Option α} : bnk (some (b2i P)) (fun r => if r = 0 then A else B) = if P then B else A := bnkI
/-- both answer, and alike -/
theorem opW {α : Type} [DecidableEq α] {R : St → Prop} {f : Option (α × St)} {g : St → Option (α × St)} {r : α} {σ1 σ2 : St} (h1 : f = some (r, σ1)) (h2 : g σ1 = some (r, σ2)) (hR : R σ2) : wpO (bnd f (fun r1 σ1 => bnd (g σ1) (fun r2 σ2 => ckp (r1 = r2 ∧ R σ2) (some ())))) (fun _ : Unit => True) := by
  rw [h1, bnd_some, h2, bnd_some, ckp_pos ⟨rfl, hR⟩]
  exact ⟨(), rfl, trivial⟩
theorem opR {α : Type} {R : St → Prop} {f : Option α} {g : Option α} {r : α} {σ : St} (h1 : f = some r) (h2 : g = some r) (hR : R σ) : wpO (bnk f (fun r1 => bnk g (fun r2 => ckp (r1 = r2 ∧ R σ) (some ())))) (fun _ : Unit => True) := by
  rw [h1, bnk_some, h2, bnk_some, ckp_pos ⟨rfl, hR⟩]
  exact ⟨(), rfl, trivial⟩
theorem ii {c j e c2 j2 e2 : Nat} {σ : St} {v : Int} (h : ¬ (c2 = c ∧ j2 = j ∧ e2 = e)) : gI (sI σ c j e v) c2 j2 e2 = gI σ c2 j2 e2 := by rw [gI_sI, if_neg h]
