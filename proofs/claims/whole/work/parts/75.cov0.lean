/-! men and events: the pure side -/
def hb8 (a : Nat) : Nat := if a < 2 then 0 else if a < 4 then 1 else if a < 8 then 2 else if a < 16 then 3 else if a < 32 then 4 else if a < 64 then 5 else if a < 128 then 6 else 7
theorem hiC : ∀ a : Fin 256, fX0_highest ((a : Nat) : Int) = some ((hb8 (a : Nat) : Nat) : Int) := by decide +kernel
theorem hb8_bit : ∀ a : Fin 256, (a : Nat) ≠ 0 → (a : Nat).testBit (hb8 a) = true := by decide +kernel
theorem hb8_top : ∀ a : Fin 256, ∀ r : Fin 8, hb8 a < (r : Nat) → (a : Nat).testBit r = false := by decide +kernel
theorem hb8_lt : ∀ a : Fin 256, hb8 a < 8 := by decide +kernel
theorem sub_nx : ∀ S, S < 256 → ∀ o, o < 256 → o &&& S = o → 0 < o → ∀ i, i < o - 1 - ((o - 1) &&& S) → ¬ (((o - 1) &&& S) + 1 + i) &&& S = ((o - 1) &&& S) + 1 + i := by decide +kernel
theorem sub_walk {S o x : Nat} (hS : S < 256) (ho : o &&& S = o) (h0 : 0 < o) (hx : x &&& S = x) (hlt : x < o) : x ≤ (o - 1) &&& S := by
  have hoS : o ≤ S := by rw [← ho]; exact Nat.and_le_right
  apply Classical.byContradiction
  intro c
  have h1 := sub_nx S hS o (by omega) ho h0 (x - (((o - 1) &&& S) + 1)) (by omega)
  rw [show ((o - 1) &&& S) + 1 + (x - (((o - 1) &&& S) + 1)) = x by omega] at h1
  exact h1 hx
