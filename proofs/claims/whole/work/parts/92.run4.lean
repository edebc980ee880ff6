/-! run and week -/
theorem jdiv_nat {a b : Nat} (ha : a < 9223372036854775808) (hb : b < 9223372036854775808) : jdiv (a : Int) (b : Int) = ((a / b : Nat) : Int) := by
  unfold jdiv
  have h : a / b ≤ a := Nat.div_le_self a b
  rw [Int64.toInt_div, i64_toInt ⟨by omega, by omega⟩, i64_toInt ⟨by omega, by omega⟩, ← Int.ofNat_tdiv]
  generalize a / b = q at h
  exact Int.bmod_eq_of_le (by show -((18446744073709551616 : Int) / 2) ≤ (q : Int); omega) (by show (q : Int) < ((18446744073709551616 : Int) + 1) / 2; omega)
theorem jrem_nat {a b : Nat} (ha : a < 9223372036854775808) (hb : b < 9223372036854775808) : jrem (a : Int) (b : Int) = ((a % b : Nat) : Int) := by
  unfold jrem
  have h0 : Int64.ofInt (a : Int) / Int64.ofInt (b : Int) = Int64.ofInt ((a / b : Nat) : Int) := by
    rw [← i64_of (Int64.ofInt (a : Int) / Int64.ofInt (b : Int))]
    exact congrArg Int64.ofInt (jdiv_nat ha hb)
  have h1 : ((a / b : Nat) : Int) * (b : Int) = ((a / b * b : Nat) : Int) := by rw [Int.natCast_mul]
  have h2 : a / b * b ≤ a := Nat.div_mul_le_self a b
  have h3 : a % b = a - a / b * b := by rw [Nat.mod_eq_sub_mul_div, Nat.mul_comm]
  rw [h0, ← Int64.ofInt_mul, ← Int64.ofInt_sub, h1, i64_toInt ⟨by omega, by omega⟩, h3]
  omega
theorem jdivI {a b : Int} (ha : 0 ≤ a ∧ a < 9223372036854775808) (hb : 0 ≤ b ∧ b < 9223372036854775808) : jdiv a b = a / b := by
  obtain ⟨x, rfl⟩ := Int.eq_ofNat_of_zero_le ha.1
  obtain ⟨y, rfl⟩ := Int.eq_ofNat_of_zero_le hb.1
  rw [jdiv_nat (by omega) (by omega)]; rfl
theorem jremI {a b : Int} (ha : 0 ≤ a ∧ a < 9223372036854775808) (hb : 0 ≤ b ∧ b < 9223372036854775808) : jrem a b = a % b := by
  obtain ⟨x, rfl⟩ := Int.eq_ofNat_of_zero_le ha.1
  obtain ⟨y, rfl⟩ := Int.eq_ofNat_of_zero_le hb.1
  rw [jrem_nat (by omega) (by omega)]; rfl
theorem l2iI {a : Int} (ha : -2147483648 ≤ a ∧ a < 2147483648) : l2i a = a := by
  unfold l2i
  rw [Int64.toInt_toInt32, i64_toInt ⟨by omega, by omega⟩]
  exact Int.bmod_eq_of_le (by show -((4294967296 : Int) / 2) ≤ a; omega) (by show a < ((4294967296 : Int) + 1) / 2; omega)
theorem KA_bd {σ : St} {a : Nat → Nat} (hH : RH σ) (hA : VA σ a) : 0 ≤ KA σ a ∧ KA σ a < 100000000 := by
  have d := dg_bd hH hA
  have d0 := d 0
  have d1 := d 1
  have d2 := d 2
  have d3 := d 3
  have d4 := d 4
  have d5 := d 5
  have d6 := d 6
  have d7 := d 7
  unfold KA
  omega
theorem TE_bd {σ : St} {a : Nat → Nat} (hH : RH σ) (hA : VA σ a) : 0 ≤ TE σ a ∧ TE σ a ≤ 79992 := by
  have h8 := hH.hl.2.2.1
  have := sumN_bd2 (g := fun h => if a h = 9 then 0 else eaH σ h (a h)) (lo := 0) (hi := 9999) (hlN σ) (fun h hh => by
    show 0 ≤ (if a h = 9 then 0 else eaH σ h (a h)) ∧ (if a h = 9 then 0 else eaH σ h (a h)) ≤ 9999
    have z := VA_le hH hA h hh
    by_cases c : a h = 9
    · rw [if_pos c]; omega
    · rw [if_neg c]
      exact ea_bd hH (by omega) hh)
  unfold TE
  omega
theorem KA_dig {σ : St} {a : Nat → Nat} (hH : RH σ) (hA : VA σ a) {T : Int} (hT : 0 ≤ T) {h : Nat} (hh : h < 8) : (100000000 * T + KA σ a) / tens (7 - h) % 10 = dgA σ a h := by
  have d := dg_bd hH hA
  have d0 := d 0
  have d1 := d 1
  have d2 := d 2
  have d3 := d 3
  have d4 := d 4
  have d5 := d 5
  have d6 := d 6
  have d7 := d 7
  unfold KA
  rcases (by omega : h = 0 ∨ h = 1 ∨ h = 2 ∨ h = 3 ∨ h = 4 ∨ h = 5 ∨ h = 6 ∨ h = 7) with q | q | q | q | q | q | q | q
  · rw [q, show tens (7 - 0) = 10000000 from rfl]; omega
  · rw [q, show tens (7 - 1) = 1000000 from rfl]; omega
  · rw [q, show tens (7 - 2) = 100000 from rfl]; omega
  · rw [q, show tens (7 - 3) = 10000 from rfl]; omega
  · rw [q, show tens (7 - 4) = 1000 from rfl]; omega
  · rw [q, show tens (7 - 5) = 100 from rfl]; omega
  · rw [q, show tens (7 - 6) = 10 from rfl]; omega
  · rw [q, show tens (7 - 7) = 1 from rfl]; omega
theorem KA_lex {σ : St} {a b : Nat → Nat} (hH : RH σ) (hA : VA σ a) (hB : VA σ b) (hle : KA σ b ≤ KA σ a) {k : Nat} (hk : k < hlN σ) (hag : ∀ h, h < k → b h = a h) : a k ≤ b k := by
  have h8 := hH.hl.2.2.1
  have d := dg_bd hH hA
  have e := dg_bd hH hB
  have g : ∀ h, h < k → dgA σ b h = dgA σ a h := fun h hh => by
    unfold dgA
    rw [hag h hh]
  have f : dgA σ b k ≤ dgA σ a k := by
    have d0 := d 0
    have d1 := d 1
    have d2 := d 2
    have d3 := d 3
    have d4 := d 4
    have d5 := d 5
    have d6 := d 6
    have d7 := d 7
    have e0 := e 0
    have e1 := e 1
    have e2 := e 2
    have e3 := e 3
    have e4 := e 4
    have e5 := e 5
    have e6 := e 6
    have e7 := e 7
    have g0 := g 0
    have g1 := g 1
    have g2 := g 2
    have g3 := g 3
    have g4 := g 4
    have g5 := g 5
    have g6 := g 6
    unfold KA at hle
    rcases (by omega : k = 0 ∨ k = 1 ∨ k = 2 ∨ k = 3 ∨ k = 4 ∨ k = 5 ∨ k = 6 ∨ k = 7) with q | q | q | q | q | q | q | q <;> (subst q; omega)
  unfold dgA at f
  rw [if_pos hk, if_pos hk] at f
  have := VA_le hH hA k hk
  have := VA_le hH hB k hk
  omega
