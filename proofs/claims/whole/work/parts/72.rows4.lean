/-! the class's table of rows -/
def ahd (a0 : Int) (P : Nat → Bool) (g : Nat → Int) : Nat → Int
  | 0 => a0
  | i + 1 => if P i = true then imax (ahd a0 P g i) (g i) else ahd a0 P g i
theorem ahd_p (a0 : Int) (P : Nat → Bool) (g : Nat → Int) (n : Nat) : (ahd a0 P g n = a0 ∨ ∃ i, i < n ∧ P i = true ∧ g i = ahd a0 P g n) ∧ (∀ i, i < n → P i = true → g i ≤ ahd a0 P g n) ∧ a0 ≤ ahd a0 P g n := by
  induction n with
  | zero => exact ⟨Or.inl rfl, fun i hi => by omega, Int.le_refl _⟩
  | succ n ih =>
    obtain ⟨h1, h2, h3⟩ := ih
    unfold ahd imax
    by_cases c : P n = true
    · rw [if_pos c]
      by_cases c2 : ahd a0 P g n < g n
      · rw [if_pos c2]
        refine ⟨Or.inr ⟨n, by omega, c, rfl⟩, fun i hi hp => ?_, by omega⟩
        by_cases q : i = n
        · rw [q]; exact Int.le_refl _
        · have := h2 i (by omega) hp; omega
      · rw [if_neg c2]
        refine ⟨?_, fun i hi hp => ?_, h3⟩
        · rcases h1 with h | ⟨i, i1, i2, i3⟩
          · exact Or.inl h
          · exact Or.inr ⟨i, by omega, i2, i3⟩
        · by_cases q : i = n
          · rw [q]; omega
          · exact h2 i (by omega) hp
    · rw [if_neg c]
      refine ⟨?_, fun i hi hp => ?_, h3⟩
      · rcases h1 with h | ⟨i, i1, i2, i3⟩
        · exact Or.inl h
        · exact Or.inr ⟨i, by omega, i2, i3⟩
      · by_cases q : i = n
        · rw [q] at hp; exact absurd hp c
        · exact h2 i (by omega) hp
theorem vm_lt9 {d : Nat → Nat} (hd : ∀ j, d j ≤ 8) : ∀ m, vm d m < 9 ^ m := by
  intro m
  induction m with
  | zero => exact Nat.one_pos
  | succ m ih =>
    show 9 * vm d m + d m < 9 ^ (m + 1)
    have := hd m
    rw [Nat.pow_succ]
    omega
theorem DPS_bd {n : Nat} {u : Nat → Bool} {ap : Nat → Int} {S i : Nat} {g : Int} (hn : n ≤ 8) (h : DPS n u ap S i g) : -1 ≤ g ∧ g ≤ 43046720 := by
  rcases h with ⟨h1, -⟩ | ⟨r, k, h1, h2, h3, h4, h5, h6⟩
  · omega
  · have hk := h1.k8 hn
    have h7 := vm_lt9 (dg_le r k) k
    have h8 : vm (dg r k) k * 9 ^ (8 - k) < 9 ^ k * 9 ^ (8 - k) := Nat.mul_lt_mul_of_pos_right h7 (Nat.pow_pos (by decide))
    rw [← Nat.pow_add, show k + (8 - k) = 8 by omega] at h8
    have h9 : (9 : Nat) ^ 8 = 43046721 := by decide
    omega
theorem n9_bd : ∀ k : Fin 9, 1 ≤ nines (k : Nat) ∧ nines (k : Nat) ≤ 43046721 := by decide
theorem ahead_c {τ : St} {n S last rest w : Nat} {a0 : Int} (hn : n ≤ 8) (h4 : gI τ 504 0 0 = (n : Int)) (hl : last < 8) (hr : rest < 256) (hw : gI τ 502 0 last = (w : Int)) (hw8 : w < 2147483648) : wh (fun s => fX4_greatestRowTo_l21 (S : Int) (last : Int) (rest : Int) τ s.1 s.2) ((a0, 0)) = some (ahd a0 (fun i => rest.testBit i && !w.testBit i) (fun i => gI τ 510 0 (rest * 8 + i)) n) := by
  obtain ⟨v, v1, v2, v3⟩ := andn (a := rest) (b := w) (by omega) hw8
  have hw2 := wh_seq (f := fun s => fX4_greatestRowTo_l21 (S : Int) (last : Int) (rest : Int) τ s.1 s.2) (r := ahd a0 (fun i => rest.testBit i && !w.testBit i) (fun i => gI τ 510 0 (rest * 8 + i)) n) n (fun i => (ahd a0 (fun i => rest.testBit i && !w.testBit i) (fun i => gI τ 510 0 (rest * 8 + i)) i, (i : Int))) ?_ ?_
  · exact hw2
  · intro i hi
    have t : ((rest : Int) * 8 + (i : Int)).toNat = rest * 8 + i := by omega
    show fX4_greatestRowTo_l21 (S : Int) (last : Int) (rest : Int) τ (ahd a0 (fun i => rest.testBit i && !w.testBit i) (fun i => gI τ 510 0 (rest * 8 + i)) i) (i : Int) = some (.inl ((if (rest.testBit i && !w.testBit i) = true then imax (ahd a0 (fun i => rest.testBit i && !w.testBit i) (fun i => gI τ 510 0 (rest * 8 + i)) i) (gI τ 510 0 (rest * 8 + i)) else ahd a0 (fun i => rest.testBit i && !w.testBit i) (fun i => gI τ 510 0 (rest * 8 + i)) i), ((i + 1 : Nat) : Int)))
    unfold fX4_greatestRowTo_l21 fX4_greatestRowTo_j67
    rw [h4, if_neg (by omega), ck_x (by omega) (by omega), Int.toNat_natCast, hw, v1, hasM_eq (by omega) (by omega), bnkI, v3 i]
    by_cases c : (rest.testBit i && !w.testBit i) = true
    · rw [if_pos c, if_pos c, ck_i (by omega) (by omega), ck_i (by omega) (by omega), ck_x (by omega) (by omega), ck_i (by omega) (by omega), t]; rfl
    · rw [if_neg c, if_neg c, ck_i (by omega) (by omega)]; rfl
  · show fX4_greatestRowTo_l21 (S : Int) (last : Int) (rest : Int) τ _ (n : Int) = _
    unfold fX4_greatestRowTo_l21
    rw [h4, if_pos (Int.le_refl _)]
/-- what stands in the table -/
def TBL (n : Nat) (u : Nat → Bool) (ap : Nat → Int) (τ : St) (S : Nat) : Prop := ∀ S', S' < S → (∀ i, S'.testBit i = true → i < n ∧ u i = true) → ∀ i, i < n → S'.testBit i = true → DPS n u ap S' i (gI τ 510 0 (S' * 8 + i))
theorem rowTo_c {σ τ : St} {u : Nat → Bool} {S last : Nat} (hR : RR σ) (ha : Ag σ τ) (h4 : gI τ 504 0 0 = (gN σ 8 : Int)) (hS : S < 2 ^ gN σ 8) (hu : ∀ i, S.testBit i = true → i < gN σ 8 ∧ u i = true) (hT : TBL (gN σ 8) u (apV σ) τ S) (hl : S.testBit last = true) : ∃ g, fX4_greatestRowTo (S : Int) (last : Int) τ = some g ∧ DPS (gN σ 8) u (apV σ) S last g := by
  have hn := hR.2.2.2.2.1.2.2.1
  have h256 : 2 ^ gN σ 8 ≤ 2 ^ 8 := Nat.pow_le_pow_right (by omega) hn
  obtain ⟨y1, y2, y3, y4, y5, y6⟩ := hR.2.2.2.2.2.2.2.2.1
  obtain ⟨l1, l2⟩ := hu last hl
  obtain ⟨w, w1, w2, w3⟩ := y5 last (by omega)
  obtain ⟨rest, r1, r2, r3⟩ := withM_eq (a := S) (k := last) (n := gN σ 8) 0 hS l1 (by omega)
  have hrest : ∀ i, rest.testBit i = (S.testBit i && decide (i ≠ last)) := by
    intro i
    rw [r3 i]
    by_cases q : i = last
    · simp [q]
    · simp [q]
  have hap : ∀ i, i < gN σ 8 → ((rest.testBit i && !w.testBit i) = true ↔ rest.testBit i = true ∧ apV σ (8 * i + last) = 0) := by
    intro i hi
    have h1 := w3 i (by omega)
    unfold apV
    rw [y6 i last (by omega) (by omega)]
    rw [show gI σ 1357 0 (8 * last + i) = _ from h1]
    by_cases q : w.testBit i = true
    · simp [q]
    · simp [q]
  have hlt : rest < S := by
    have hp : S = rest ||| 2 ^ last := by
      apply Nat.eq_of_testBit_eq
      intro i
      rw [Nat.testBit_or, Nat.testBit_two_pow, hrest]
      by_cases q : i = last
      · rw [q, hl]; simp
      · have : ¬ last = i := fun z => q z.symm
        simp [q, this]
    have h1 : rest ≤ S := by rw [hp]; exact Nat.left_le_or
    have h2 : rest ≠ S := by
      intro z
      have := hrest last
      rw [z, hl] at this
      simp at this
    omega
  have hgood : ∀ i, i < gN σ 8 → rest.testBit i = true → apV σ (8 * i + last) = 0 → DPS (gN σ 8) u (apV σ) rest i (gI τ 510 0 (rest * 8 + i)) := by
    intro i hi q1 q2
    refine hT rest hlt (fun j hj => hu j ?_) i hi q1
    rw [hrest j, Bool.and_eq_true] at hj
    exact hj.1
  have fin : ∀ a0 : Int, ((rest = 0 ∧ a0 = 0) ∨ (rest ≠ 0 ∧ a0 = -1)) → ∃ g, fX4_greatestRowTo_j16 (S : Int) (last : Int) (rest : Int) a0 τ = some g ∧ DPS (gN σ 8) u (apV σ) S last g := by
    intro a0 h0
    obtain ⟨p1, p2, p3⟩ := ahd_p a0 (fun i => rest.testBit i && !w.testBit i) (fun i => gI τ 510 0 (rest * 8 + i)) (gN σ 8)
    have hw := ahead_c (τ := τ) (S := S) (last := last) (rest := rest) (w := w) (a0 := a0) hn h4 (by omega) (by omega) (by rw [ha.i (c := 502) (by decide)]; exact w1) (by omega)
    have hbd : -1 ≤ ahd a0 (fun i => rest.testBit i && !w.testBit i) (fun i => gI τ 510 0 (rest * 8 + i)) (gN σ 8) ∧ ahd a0 (fun i => rest.testBit i && !w.testBit i) (fun i => gI τ 510 0 (rest * 8 + i)) (gN σ 8) ≤ 43046720 := by
      rcases p1 with h | ⟨i, i1, i2, i3⟩
      · omega
      · obtain ⟨q1, q2⟩ := (hap i i1).mp i2
        have := DPS_bd hn (hgood i i1 q1 q2)
        omega
    have hd := DPS_step (S := S) (last := last) (rest := rest) (g := fun i => gI τ 510 0 (rest * 8 + i)) (ahead := ahd a0 (fun i => rest.testBit i && !w.testBit i) (fun i => gI τ 510 0 (rest * 8 + i)) (gN σ 8)) hn l1 l2 hl hS hrest hgood (by
      rcases h0 with ⟨z1, z2⟩ | ⟨z1, z2⟩
      · refine Or.inl ⟨z1, ?_⟩
        rcases p1 with h | ⟨i, i1, i2, i3⟩
        · omega
        · have := ((hap i i1).mp i2).1
          rw [z1, Nat.zero_testBit] at this
          cases this
      · refine Or.inr ⟨z1, ?_⟩
        rcases p1 with h | ⟨i, i1, i2, i3⟩
        · exact Or.inl (by omega)
        · exact Or.inr ⟨i, i1, ((hap i i1).mp i2).1, ((hap i i1).mp i2).2, i3⟩) (fun i hi q1 q2 => p2 i hi ((hap i hi).mpr ⟨q1, q2⟩))
    refine ⟨_, ?_, hd⟩
    unfold fX4_greatestRowTo_j16 fX4_greatestRowTo_j21 fX4_greatestRowTo_j73
    rw [hw, bnk_some]
    generalize ahd a0 (fun i => rest.testBit i && !w.testBit i) (fun i => gI τ 510 0 (rest * 8 + i)) (gN σ 8) = A at hbd
    have hpc := pc8_le S
    have hpr : 1 ≤ pc8 S := by
      apply Classical.byContradiction
      intro c
      have h0 : pc8 S = 0 := by omega
      have : S = 0 := by
        have : ∀ x : Fin 256, pc8 (x : Nat) = 0 → (x : Nat) = 0 := by decide +kernel
        exact this ⟨S, by omega⟩ h0
      rw [this, Nat.zero_testBit] at hl
      cases hl
    have hb9 := n9_bd ⟨8 - pc8 S, by omega⟩
    have t9 : (8 - ((pc8 S : Nat) : Int)).toNat = 8 - pc8 S := by omega
    have e9 : nines (8 - pc8 S) = 9 ^ (8 - pc8 S) := rfl
    have hb9' : 1 ≤ nines (8 - pc8 S) ∧ nines (8 - pc8 S) ≤ 43046721 := hb9
    have hmul : 0 ≤ (7 - (last : Int)) * nines (8 - pc8 S) ∧ (7 - (last : Int)) * nines (8 - pc8 S) ≤ 7 * 43046721 := by
      constructor
      · exact Int.mul_nonneg (by omega) (by omega)
      · exact Int.mul_le_mul (by omega) hb9'.2 (by omega) (by omega)
    rw [ck_i (by omega) (by omega), show fJ6_bitCount_0f7a4 (S : Int) = some ((pc8 S : Nat) : Int) from bitC ⟨S, by omega⟩, bnk_some, ck_i (by omega) (by omega), ck_x (by omega) (by omega), t9, ck_i (by omega) (by omega)]
    by_cases c : 0 ≤ A
    · rw [if_pos c, if_pos c, ck_i (by omega) (by omega), e9]
    · rw [if_neg c, if_neg c]
  unfold fX4_greatestRowTo
  rw [r1, bnk_some]
  by_cases c : rest = 0
  · rw [if_pos (by omega)]
    exact fin 0 (Or.inl ⟨c, rfl⟩)
  · rw [if_neg (by omega)]
    exact fin (-1) (Or.inr ⟨c, rfl⟩)
theorem TBL.ex {n : Nat} {u : Nat → Bool} {ap : Nat → Int} {τ τ2 : St} {S : Nat} (hn : n ≤ 8) (h : TBL n u ap τ S) (hx : ∀ e, e < S * 8 → gI τ2 510 0 e = gI τ 510 0 e) : TBL n u ap τ2 S := by
  intro S' h1 h2 i h3 h4
  rw [hx _ (by omega)]
  exact h S' h1 h2 i h3 h4
/-- the greatest row of one set, its table's line filled -/
theorem row_c {σ τ : St} {u : Nat → Bool} {S : Nat} (hR : RR σ) (ha : Ag σ τ) (h4 : gI τ 504 0 0 = (gN σ 8 : Int)) (hS : S < 2 ^ gN σ 8) (hu : ∀ i, S.testBit i = true → i < gN σ 8 ∧ u i = true) (hT : TBL (gN σ 8) u (apV σ) τ S) : ∃ x τ', fX4_greatestRow (S : Int) τ = some (x, τ') ∧ Ex [510] τ τ' ∧ TBL (gN σ 8) u (apV σ) τ' (S + 1) ∧ GSS (gN σ 8) u (apV σ) S x ∧ -1 ≤ x ∧ x ≤ 43046720 := by
  have hn := hR.2.2.2.2.1.2.2.1
  have h256 : 2 ^ gN σ 8 ≤ 2 ^ 8 := Nat.pow_le_pow_right (by omega) hn
  have key : ∀ m j, j + m = gN σ 8 → ∀ τ1 x, Ex [510] τ τ1 → (∀ e, e < S * 8 → gI τ1 510 0 e = gI τ 510 0 e) → (∀ i, i < j → S.testBit i = true → DPS (gN σ 8) u (apV σ) S i (gI τ1 510 0 (S * 8 + i))) → (x = -1 ∨ ∃ i, i < j ∧ S.testBit i = true ∧ gI τ1 510 0 (S * 8 + i) = x) → (∀ i, i < j → S.testBit i = true → gI τ1 510 0 (S * 8 + i) ≤ x) → (-1 ≤ x ∧ x ≤ 43046720) → ∃ x' τ', wh (fun s => fX4_greatestRow_l4 (S : Int) s.1 s.2.1 s.2.2) ((x, (j : Int), τ1)) = some (x', τ') ∧ Ex [510] τ τ' ∧ TBL (gN σ 8) u (apV σ) τ' (S + 1) ∧ GSS (gN σ 8) u (apV σ) S x' ∧ -1 ≤ x' ∧ x' ≤ 43046720 := by
    intro m
    induction m with
    | zero =>
      intro j hj τ1 x hx hc hd hx1 hx2 hxb
      have hj2 : j = gN σ 8 := by omega
      subst hj2
      refine ⟨x, τ1, wh_inr ?_, hx, ?_, GSS_of hn hd hx1 hx2, hxb⟩
      · show fX4_greatestRow_l4 (S : Int) x (gN σ 8 : Int) τ1 = _
        unfold fX4_greatestRow_l4
        rw [hx.i (c := 504) (by decide), h4, if_pos (Int.le_refl _)]
      · intro S' h1 h2 i h3 h5
        by_cases q : S' = S
        · rw [q] at h5 ⊢; exact hd i h3 h5
        · exact (hT.ex hn hc) S' (by omega) h2 i h3 h5
    | succ m ih =>
      intro j hj τ1 x hx hc hd hx1 hx2 hxb
      have h41 : gI τ1 504 0 0 = (gN σ 8 : Int) := by rw [hx.i (c := 504) (by decide)]; exact h4
      by_cases c : S.testBit j = true
      · obtain ⟨g, g1, g2⟩ := rowTo_c hR (ha.trans (Ag.of hx (by decide))) h41 hS hu (hT.ex hn hc) c
        have gb := DPS_bd hn g2
        have t : ((S : Int) * 8 + (j : Int)).toNat = S * 8 + j := by omega
        have e1 : fX4_greatestRow_l4 (S : Int) x (j : Int) τ1 = some (.inl (imax x g, ((j + 1 : Nat) : Int), sI τ1 510 0 (S * 8 + j) g)) := by
          unfold fX4_greatestRow_l4 fX4_greatestRow_j48
          rw [h41, if_neg (by omega), hasM_eq (by omega) (by omega), bnkI, if_pos c, g1, bnk_some, ck_i (by omega) (by omega), ck_i (by omega) (by omega), ck_x (by omega) (by omega), ck_i (by omega) (by omega), t]; rfl
        have cell : ∀ i, i < j → gI (sI τ1 510 0 (S * 8 + j) g) 510 0 (S * 8 + i) = gI τ1 510 0 (S * 8 + i) := fun i hi => ii (by omega)
        have cellj : gI (sI τ1 510 0 (S * 8 + j) g) 510 0 (S * 8 + j) = g := gs
        obtain ⟨x', τ', k1, k2⟩ := ih (j + 1) (by omega) (sI τ1 510 0 (S * 8 + j) g) (imax x g) (hx.sI (by decide)) (fun e he => by rw [ii (by omega)]; exact hc e he) (fun i hi hb => by
          by_cases q : i = j
          · rw [q, cellj]; exact g2
          · rw [cell i (by omega)]; exact hd i (by omega) hb) (by
          unfold imax
          split
          · exact Or.inr ⟨j, by omega, c, cellj⟩
          · rcases hx1 with h | ⟨i, i1, i2, i3⟩
            · exact Or.inl h
            · exact Or.inr ⟨i, by omega, i2, by rw [cell i i1]; exact i3⟩) (fun i hi hb => by
          unfold imax
          by_cases q : i = j
          · rw [q, cellj]; split <;> omega
          · rw [cell i (by omega)]
            have := hx2 i (by omega) hb
            split <;> omega) (by unfold imax; split <;> omega)
        exact ⟨x', τ', wh_inl e1 k1, k2⟩
      · have e1 : fX4_greatestRow_l4 (S : Int) x (j : Int) τ1 = some (.inl (x, ((j + 1 : Nat) : Int), τ1)) := by
          unfold fX4_greatestRow_l4 fX4_greatestRow_j48
          rw [h41, if_neg (by omega), hasM_eq (by omega) (by omega), bnkI, if_neg c, ck_i (by omega) (by omega)]; rfl
        obtain ⟨x', τ', k1, k2⟩ := ih (j + 1) (by omega) τ1 x hx hc (fun i hi hb => by
          by_cases q : i = j
          · rw [q] at hb; exact absurd hb c
          · exact hd i (by omega) hb) (by
          rcases hx1 with h | ⟨i, i1, i2, i3⟩
          · exact Or.inl h
          · exact Or.inr ⟨i, by omega, i2, i3⟩) (fun i hi hb => by
          by_cases q : i = j
          · rw [q] at hb; exact absurd hb c
          · exact hx2 i (by omega) hb) hxb
        exact ⟨x', τ', wh_inl e1 k1, k2⟩
  obtain ⟨x', τ', k1, k2⟩ := key (gN σ 8) 0 (by omega) τ (-1) Ex.rf (fun e he => rfl) (fun i hi => by omega) (Or.inl rfl) (fun i hi => by omega) (by omega)
  refine ⟨x', τ', ?_, k2⟩
  unfold fX4_greatestRow fX4_greatestRow_j4 fX4_greatestRow_j54
  exact bnk_of k1 rfl
/-- the best of all sets -/
def SCr : List Nat := [510, 511, 512]
def BR8 (br : Nat → Nat) (bk : Nat) : Int := if bk = 0 then -1 else ((vm (dg br bk) 8 : Nat) : Int)
theorem LsC.ex {σ τ τ2 : St} {l d : Int} {bv : Nat → Int} {k : Nat} (h : LsC σ l d bv τ k) (hx : Ex SCr τ τ2) : LsC σ l d bv τ2 k := by
  obtain ⟨h1, h2, h3, h4, h5, h6⟩ := h
  refine ⟨h1.trans (Ag.of hx (by decide)), by rw [hx.i (c := 504) (by decide)]; exact h2, by rw [hx.i (c := 505) (by decide)]; exact h3, by rw [hx.i (c := 506) (by decide)]; exact h4, by rw [hx.i (c := 507) (by decide)]; exact h5, fun i hi => ?_⟩
  rw [hx.i (c := 508) (by decide), hx.i (c := 509) (by decide)]
  exact h6 i hi
theorem search_c {σ τ : St} {l d : Int} {bv : Nat → Int} (hR : RR σ) (h : LsC σ l d bv τ (gN σ 8)) : ∃ (τ' : St) (br : Nat → Nat) (bk : Nat), fX4_search τ = some ((), τ') ∧ Ex SCr τ τ' ∧ gI τ' 512 0 0 = BR8 br bk ∧ BST (gN σ 8) (mayB σ l d bv) (apV σ) (feetV σ) (wthV σ) (gI σ 500 0 0) (gI σ 501 0 0) (setN (msB σ l d bv) (gN σ 8)) (gI τ' 511 0 0) br bk (fun _ _ => True) := by
  have hn := hR.2.2.2.2.1.2.2.1
  have h256 : 2 ^ gN σ 8 ≤ 2 ^ 8 := Nat.pow_le_pow_right (by omega) hn
  have hml := setN_lt (msB σ l d bv) (gN σ 8)
  have hul := setN_lt (mayB σ l d bv) (gN σ 8)
  have hrl := setN_lt (rdyB σ) (gN σ 8)
  have hal := setN_lt (alB σ l d bv) (gN σ 8)
  have hus : iand ((setN (rdyB σ) (gN σ 8) : Nat) : Int) ((setN (alB σ l d bv) (gN σ 8) : Nat) : Int) = ((setN (mayB σ l d bv) (gN σ 8) : Nat) : Int) := by
    rw [iand_nat (by omega) (by omega)]
    apply congrArg
    apply Nat.eq_of_testBit_eq
    intro i
    rw [Nat.testBit_and, setN_bit, setN_bit, setN_bit]
    unfold mayB
    cases decide (i < gN σ 8) <;> simp
  have hsh : ishl 1 (gN σ 8 : Int) = ((2 ^ gN σ 8 : Nat) : Int) := ishl_one ⟨gN σ 8, by omega⟩
  have key : ∀ m S, S + m = 2 ^ gN σ 8 → 1 ≤ S → ∀ τ1, LsC σ l d bv τ1 (gN σ 8) → TBL (gN σ 8) (mayB σ l d bv) (apV σ) τ1 S → (∃ (br : Nat → Nat) (bk : Nat), gI τ1 512 0 0 = BR8 br bk ∧ BST (gN σ 8) (mayB σ l d bv) (apV σ) (feetV σ) (wthV σ) (gI σ 500 0 0) (gI σ 501 0 0) (setN (msB σ l d bv) (gN σ 8)) (gI τ1 511 0 0) br bk (fun r k => jset (gN σ 8) r k < S)) → ∃ (τ' : St) (br : Nat → Nat) (bk : Nat), wh (fun s => fX4_search_l23 ((setN (mayB σ l d bv) (gN σ 8) : Nat) : Int) s.1 s.2) (((S : Int), τ1)) = some τ' ∧ Ex SCr τ1 τ' ∧ gI τ' 512 0 0 = BR8 br bk ∧ BST (gN σ 8) (mayB σ l d bv) (apV σ) (feetV σ) (wthV σ) (gI σ 500 0 0) (gI σ 501 0 0) (setN (msB σ l d bv) (gN σ 8)) (gI τ' 511 0 0) br bk (fun _ _ => True) := by
    intro m
    induction m with
    | zero =>
      intro S hS hS1 τ1 hL hT hB
      obtain ⟨br, bk, b1, b2⟩ := hB
      refine ⟨τ1, br, bk, wh_inr ?_, Ex.rf, b1, BST_iff b2 (fun r k hv => ⟨fun _ => ?_, fun _ => trivial⟩)⟩
      · show fX4_search_l23 _ (S : Int) τ1 = _
        unfold fX4_search_l23
        rw [hL.2.1, hsh, if_pos (by omega)]
      · have := jset_lt (n := gN σ 8) (s := r) k
        show jset (gN σ 8) r k < S
        omega
    | succ m ih =>
      intro S hS hS1 τ1 hL hT hB
      obtain ⟨br, bk, b1, b2⟩ := id hB
      have j98 : ∀ τ2, fX4_search_j98 ((setN (mayB σ l d bv) (gN σ 8) : Nat) : Int) (S : Int) τ2 = some (.inl (((S + 1 : Nat) : Int), τ2)) := by
        intro τ2
        unfold fX4_search_j98
        rw [ck_i (by omega) (by omega)]; rfl
      have step : ∀ τ2, Ex SCr τ1 τ2 → TBL (gN σ 8) (mayB σ l d bv) (apV σ) τ2 (S + 1) → (∃ (br : Nat → Nat) (bk : Nat), gI τ2 512 0 0 = BR8 br bk ∧ BST (gN σ 8) (mayB σ l d bv) (apV σ) (feetV σ) (wthV σ) (gI σ 500 0 0) (gI σ 501 0 0) (setN (msB σ l d bv) (gN σ 8)) (gI τ2 511 0 0) br bk (fun r k => jset (gN σ 8) r k < S + 1)) → fX4_search_l23 ((setN (mayB σ l d bv) (gN σ 8) : Nat) : Int) (S : Int) τ1 = some (.inl (((S + 1 : Nat) : Int), τ2)) → ∃ (τ' : St) (br : Nat → Nat) (bk : Nat), wh (fun s => fX4_search_l23 ((setN (mayB σ l d bv) (gN σ 8) : Nat) : Int) s.1 s.2) (((S : Int), τ1)) = some τ' ∧ Ex SCr τ1 τ' ∧ gI τ' 512 0 0 = BR8 br bk ∧ BST (gN σ 8) (mayB σ l d bv) (apV σ) (feetV σ) (wthV σ) (gI σ 500 0 0) (gI σ 501 0 0) (setN (msB σ l d bv) (gN σ 8)) (gI τ' 511 0 0) br bk (fun _ _ => True) := by
        intro τ2 x1 x2 x3 x4
        obtain ⟨τ', br', bk', k1, k2, k3⟩ := ih (S + 1) (by omega) (by omega) τ2 (hL.ex x1) x2 x3
        exact ⟨τ', br', bk', wh_inl x4 k1, x1.trans k2, k3⟩
      -- no row of this set may be
      have none_ : (∀ r k, VLr (gN σ 8) (mayB σ l d bv) (apV σ) (feetV σ) (gI σ 500 0 0) (gI σ 501 0 0) (setN (msB σ l d bv) (gN σ 8)) r k → jset (gN σ 8) r k ≠ S) → ∀ τ2, gI τ2 512 0 0 = gI τ1 512 0 0 → gI τ2 511 0 0 = gI τ1 511 0 0 → ∃ (br : Nat → Nat) (bk : Nat), gI τ2 512 0 0 = BR8 br bk ∧ BST (gN σ 8) (mayB σ l d bv) (apV σ) (feetV σ) (wthV σ) (gI σ 500 0 0) (gI σ 501 0 0) (setN (msB σ l d bv) (gN σ 8)) (gI τ2 511 0 0) br bk (fun r k => jset (gN σ 8) r k < S + 1) := by
        intro hno τ2 e1 e2
        refine ⟨br, bk, by rw [e1]; exact b1, ?_⟩
        rw [e2]
        refine BST_iff b2 (fun r k hv => ?_)
        have := hno r k hv
        exact ⟨fun z => by have z : jset (gN σ 8) r k < S + 1 := z; show jset (gN σ 8) r k < S; omega, fun z => by have z : jset (gN σ 8) r k < S := z; show jset (gN σ 8) r k < S + 1; omega⟩
      by_cases c : ∀ i, S.testBit i = true → (setN (mayB σ l d bv) (gN σ 8)).testBit i = true
      · have hu : ∀ i, S.testBit i = true → i < gN σ 8 ∧ mayB σ l d bv i = true := by
          intro i hi
          have := c i hi
          rw [setN_bit, Bool.and_eq_true, decide_eq_true_iff] at this
          exact this
        obtain ⟨x, τ2, g1, g2, g3, g4, g5, g6⟩ := row_c hR hL.1 hL.2.1 (by omega) hu hT
        have hx2 : Ex SCr τ1 τ2 := g2.mono (by decide)
        have hL2 := hL.ex hx2
        have e512 : gI τ2 512 0 0 = gI τ1 512 0 0 := g2.i (by decide) _ _
        have e511 : gI τ2 511 0 0 = gI τ1 511 0 0 := g2.i (by decide) _ _
        have pre : ∀ {X : Option ((Int × St) ⊕ St)}, (if x < 0 then (fX4_search_j98 ((setN (mayB σ l d bv) (gN σ 8) : Nat) : Int) (S : Int) τ2) else (if iand (gI τ2 507 0 0) (ixor (S : Int) ((-1))) = 0 then (bnk (fX4_hasLength (S : Int) τ2) (fun r19 => if r19 = 0 then (fX4_search_j98 ((setN (mayB σ l d bv) (gN σ 8) : Nat) : Int) (S : Int) τ2) else (bnk (fX4_sumOver (S : Int) 509 8 τ2) (fun r22 => bnk (fJ6_bitCount_0f7a4 (S : Int)) (fun r26 => ck (inr (8 - r26)) (ck (0 ≤ 8 - r26 ∧ 8 - r26 < 8) (ck (inr (x + (nines (8 - r26).toNat))) (ck (inr ((x + (nines (8 - r26).toNat)) - 1)) (bnd (fX4_offer r22 ((x + (nines (8 - r26).toNat)) - 1) τ2) (fun _ σ34 => fX4_search_j98 ((setN (mayB σ l d bv) (gN σ 8) : Nat) : Int) (S : Int) σ34)))))))))) else (fX4_search_j98 ((setN (mayB σ l d bv) (gN σ 8) : Nat) : Int) (S : Int) τ2))) = X → fX4_search_l23 ((setN (mayB σ l d bv) (gN σ 8) : Nat) : Int) (S : Int) τ1 = X := by
          intro X hX
          unfold fX4_search_l23
          rw [hL.2.1, hsh, if_neg (by omega), if_pos ((sub0 (by omega) (by omega)).mpr c), g1, bnd_some]
          exact hX
        rcases g4 with ⟨q1, q2⟩ | ⟨r0, k0, q1, q2, q3, q4, q5⟩
        · exact step τ2 hx2 g3 (none_ (fun r k hv z => q2 r k hv.1 hv.2.1 z) τ2 e512 e511) (pre (by rw [if_pos (by omega), j98]))
        · have hk8 := q1.k8 hn
          have hpc : pc8 S = k0 := by rw [← q3]; exact pc_row hn k0 q1.1
          have hlen := sumO_c (τ := τ2) (a := S) (c := 508) (F := feetV σ) hL2.2.1 hn (by omega) (fun i hi => ⟨(hL2.2.2.2.2.2 i hi).1, feetV_bd hR hi⟩)
          have hwth := sumO_c (τ := τ2) (a := S) (c := 509) (F := wthV σ) hL2.2.1 hn (by omega) (fun i hi => ⟨(hL2.2.2.2.2.2 i hi).2, (wthV_bd hR hi).1, by have := wthV_bd hR hi; omega⟩)
          have eF : ∀ r k, OKr (gN σ 8) (mayB σ l d bv) (apV σ) r k → jset (gN σ 8) r k = S → jlen (gN σ 8) r (feetV σ) k = ssum (feetV σ) S (gN σ 8) := by
            intro r k z1 z2
            rw [jlen_sum k z1.1, z2]
          have eW : jlen (gN σ 8) r0 (wthV σ) k0 = ssum (wthV σ) S (gN σ 8) := by rw [jlen_sum k0 q1.1, q3]
          have hmust : iand (gI τ2 507 0 0) (ixor (S : Int) (-1)) = 0 ↔ iand (S : Int) ((setN (msB σ l d bv) (gN σ 8) : Nat) : Int) = ((setN (msB σ l d bv) (gN σ 8) : Nat) : Int) := by
            rw [hL2.2.2.2.2.1, sub0 (by omega) (by omega), sup0 (by omega) (by omega)]
          have hle : fX4_hasLength (S : Int) τ2 = some (b2i (gI σ 500 0 0 ≤ ssum (feetV σ) S (gN σ 8) ∧ ssum (feetV σ) S (gN σ 8) ≤ gI σ 501 0 0)) := by
            unfold fX4_hasLength
            rw [hlen, bnk_some, within_eq, bnk_some, hL2.1.i (c := 500) (by decide), hL2.1.i (c := 501) (by decide)]
          by_cases c1 : iand (S : Int) ((setN (msB σ l d bv) (gN σ 8) : Nat) : Int) = ((setN (msB σ l d bv) (gN σ 8) : Nat) : Int)
          · by_cases c2 : gI σ 500 0 0 ≤ ssum (feetV σ) S (gN σ 8) ∧ ssum (feetV σ) S (gN σ 8) ≤ gI σ 501 0 0
            · have hv0 : VLr (gN σ 8) (mayB σ l d bv) (apV σ) (feetV σ) (gI σ 500 0 0) (gI σ 501 0 0) (setN (msB σ l d bv) (gN σ 8)) r0 k0 := ⟨q1, q2, by rw [eF r0 k0 q1 q3]; exact c2.1, by rw [eF r0 k0 q1 q3]; exact c2.2, by rw [q3]; exact c1⟩
              obtain ⟨s1, s2⟩ := BST_set hn (fun i hi => (wthV_bd hR hi).1) b2 hv0 q3 q5
              have hb9 : 1 ≤ nines (8 - k0) ∧ nines (8 - k0) ≤ 43046721 := n9_bd ⟨8 - k0, by omega⟩
              have t9 : (8 - ((k0 : Nat) : Int)).toNat = 8 - k0 := by omega
              have hrow : x + nines (8 - k0) - 1 = ((vm (dg r0 k0) 8 : Nat) : Int) := by
                have h1 := vm_fill (r := r0) (k := k0) (8 - k0)
                rw [show k0 + (8 - k0) = 8 by omega] at h1
                have h2 : nines (8 - k0) = ((9 ^ (8 - k0) : Nat) : Int) := by unfold nines; rw [Int.natCast_pow]; rfl
                have h3 : 0 < 9 ^ (8 - k0) := Nat.pow_pos (by decide)
                rw [q4, h2, h1]
                omega
              have hoff : ∃ τ3, fX4_offer (ssum (wthV σ) S (gN σ 8)) (x + nines (8 - k0) - 1) τ2 = some ((), τ3) ∧ Ex [511, 512] τ2 τ3 ∧ ∃ (br : Nat → Nat) (bk : Nat), gI τ3 512 0 0 = BR8 br bk ∧ BST (gN σ 8) (mayB σ l d bv) (apV σ) (feetV σ) (wthV σ) (gI σ 500 0 0) (gI σ 501 0 0) (setN (msB σ l d bv) (gN σ 8)) (gI τ3 511 0 0) br bk (fun r k => jset (gN σ 8) r k < S + 1) := by
                have hnew : ∃ (br : Nat → Nat) (bk : Nat), gI (sI (sI τ2 511 0 0 (ssum (wthV σ) S (gN σ 8))) 512 0 0 (x + nines (8 - k0) - 1)) 512 0 0 = BR8 br bk ∧ ((gI τ1 511 0 0 < jlen (gN σ 8) r0 (wthV σ) k0 ∨ (jlen (gN σ 8) r0 (wthV σ) k0 = gI τ1 511 0 0 ∧ KK br bk < KK r0 k0)) → True) := ⟨r0, k0, by
                  rw [gs, hrow]
                  unfold BR8
                  rw [if_neg (by omega)], fun _ => trivial⟩
                have put : (gI τ1 511 0 0 < jlen (gN σ 8) r0 (wthV σ) k0 ∨ (jlen (gN σ 8) r0 (wthV σ) k0 = gI τ1 511 0 0 ∧ KK br bk < KK r0 k0)) → ∃ (br : Nat → Nat) (bk : Nat), gI (sI (sI τ2 511 0 0 (ssum (wthV σ) S (gN σ 8))) 512 0 0 (x + nines (8 - k0) - 1)) 512 0 0 = BR8 br bk ∧ BST (gN σ 8) (mayB σ l d bv) (apV σ) (feetV σ) (wthV σ) (gI σ 500 0 0) (gI σ 501 0 0) (setN (msB σ l d bv) (gN σ 8)) (gI (sI (sI τ2 511 0 0 (ssum (wthV σ) S (gN σ 8))) 512 0 0 (x + nines (8 - k0) - 1)) 511 0 0) br bk (fun r k => jset (gN σ 8) r k < S + 1) := by
                  intro hc
                  refine ⟨r0, k0, ?_, ?_⟩
                  · rw [gs, hrow]
                    unfold BR8
                    rw [if_neg (by omega)]
                  · rw [ii (by omega), gs, ← eW]
                    exact s1 hc
                have keep : ¬ (gI τ1 511 0 0 < jlen (gN σ 8) r0 (wthV σ) k0 ∨ (jlen (gN σ 8) r0 (wthV σ) k0 = gI τ1 511 0 0 ∧ KK br bk < KK r0 k0)) → ∃ (br : Nat → Nat) (bk : Nat), gI τ2 512 0 0 = BR8 br bk ∧ BST (gN σ 8) (mayB σ l d bv) (apV σ) (feetV σ) (wthV σ) (gI σ 500 0 0) (gI σ 501 0 0) (setN (msB σ l d bv) (gN σ 8)) (gI τ2 511 0 0) br bk (fun r k => jset (gN σ 8) r k < S + 1) := by
                  intro hc
                  refine ⟨br, bk, by rw [e512]; exact b1, ?_⟩
                  rw [e511]
                  exact s2 hc
                unfold fX4_offer fX4_offer_j24
                rw [e511, e512, ← eW]
                by_cases d1 : gI τ1 511 0 0 < jlen (gN σ 8) r0 (wthV σ) k0
                · rw [if_pos d1]
                  rw [← eW] at put
                  exact ⟨_, rfl, (Ex.rf.sI (by decide)).sI (by decide), put (Or.inl d1)⟩
                · rw [if_neg d1]
                  by_cases d2 : jlen (gN σ 8) r0 (wthV σ) k0 = gI τ1 511 0 0
                  · rw [if_pos d2]
                    -- the same worth: by the rows
                    have h0 : 0 ≤ jlen (gN σ 8) r0 (wthV σ) k0 := by
                      have := jlen_mono (n := gN σ 8) (s := r0) (F := wthV σ) (fun i hi => (wthV_bd hR hi).1) 0 k0
                      rw [Nat.zero_add] at this
                      exact this
                    have hbk : 1 ≤ bk ∧ bk ≤ 8 := by
                      rcases b2 with ⟨z1, -⟩ | ⟨z1, -⟩
                      · omega
                      · exact ⟨z1.2.1, z1.1.k8 hn⟩
                    have hBR : gI τ1 512 0 0 = ((vm (dg br bk) 8 : Nat) : Int) := by
                      rw [b1]
                      unfold BR8
                      rw [if_neg (by omega)]
                    have hKK : KK br bk < KK r0 k0 ↔ ¬ x + nines (8 - k0) - 1 ≤ gI τ1 512 0 0 := by
                      rw [KK8 hbk.2, KK8 hk8, hrow, hBR]
                      omega
                    by_cases d3 : x + nines (8 - k0) - 1 ≤ gI τ1 512 0 0
                    · rw [if_pos d3]
                      exact ⟨_, rfl, Ex.rf, keep (fun z => by rcases z with z | z; exact d1 z; exact (hKK.mp z.2) d3)⟩
                    · rw [if_neg d3]
                      rw [← eW] at put
                      exact ⟨_, rfl, (Ex.rf.sI (by decide)).sI (by decide), put (Or.inr ⟨d2, hKK.mpr d3⟩)⟩
                  · rw [if_neg d2]
                    exact ⟨_, rfl, Ex.rf, keep (fun z => by rcases z with z | z; exact d1 z; exact d2 z.1)⟩
              obtain ⟨τ3, o1, o2, o3⟩ := hoff
              refine step τ3 (hx2.trans (o2.mono (by decide))) (fun S' z1 z2 i z3 z4 => by rw [o2.i (c := 510) (by decide)]; exact g3 S' z1 z2 i z3 z4) o3 (pre ?_)
              rw [if_neg (by omega), if_pos (hmust.mpr c1), hle, bnkI, if_pos c2, hwth, bnk_some, show fJ6_bitCount_0f7a4 (S : Int) = some ((pc8 S : Nat) : Int) from bitC ⟨S, by omega⟩, bnk_some, hpc, ck_i (by omega) (by omega), ck_x (by omega) (by omega), t9, ck_i (by omega) (by omega), ck_i (by omega) (by omega), o1, bnd_some, j98]
            · exact step τ2 hx2 g3 (none_ (fun r k hv z => c2 (by rw [← eF r k hv.1 z]; exact ⟨hv.2.2.1, hv.2.2.2.1⟩)) τ2 e512 e511) (pre (by rw [if_neg (by omega), if_pos (hmust.mpr c1), hle, bnkI, if_neg c2, j98]))
          · exact step τ2 hx2 g3 (none_ (fun r k hv z => c1 (by rw [← z]; exact hv.2.2.2.2)) τ2 e512 e511) (pre (by rw [if_neg (by omega), if_neg (fun z => c1 (hmust.mp z)), j98]))
      · refine step τ1 Ex.rf ?_ (none_ (fun r k hv z => ?_) τ1 rfl rfl) ?_
        · intro S' z1 z2 i z3 z4
          by_cases q : S' = S
          · refine absurd (fun j hj => ?_) c
            have := z2 j (by rw [q]; exact hj)
            rw [setN_bit, Bool.and_eq_true, decide_eq_true_iff]
            exact this
          · exact hT S' (by omega) z2 i z3 z4
        · apply c
          intro i hi
          rw [← z] at hi
          obtain ⟨e, e1, e2, e3⟩ := (jset_bit k i).mp hi
          rw [setN_bit, Bool.and_eq_true, decide_eq_true_iff, ← e2]
          exact ⟨(hv.1.1 e e1).1, hv.1.2.1 e e1⟩
        · unfold fX4_search_l23
          rw [hL.2.1, hsh, if_neg (by omega), if_neg (fun z => c ((sub0 (by omega) (by omega)).mp z)), j98]
  have hx0 : Ex SCr τ (sI (sI τ 511 0 0 (-9)) 512 0 0 (-1)) := (Ex.rf.sI (by decide)).sI (by decide)
  have h1p : 1 ≤ 2 ^ gN σ 8 := Nat.one_le_two_pow
  obtain ⟨τ', br, bk, k1, k2, k3, k4⟩ := key (2 ^ gN σ 8 - 1) 1 (by omega) (Nat.le_refl _) (sI (sI τ 511 0 0 (-9)) 512 0 0 (-1)) (h.ex hx0) (fun S' z1 z2 i z3 z4 => by
    have : S' = 0 := by omega
    rw [this, Nat.zero_testBit] at z4
    cases z4) ⟨fun _ => 0, 0, gs, by
      rw [ii (by omega), gs]
      refine Or.inl ⟨rfl, rfl, fun r k hv z => ?_⟩
      have z : jset (gN σ 8) r k < 1 := z
      have h2 := pc_row hn k hv.1.1
      have h3 := hv.2.1
      rw [show jset (gN σ 8) r k = 0 by omega] at h2
      have h4 : pc8 0 = 0 := by decide
      omega⟩
  refine ⟨τ', br, bk, ?_, hx0.trans k2, k3, k4⟩
  unfold fX4_search fX4_search_j23 fX4_search_j104
  rw [h.2.2.1, h.2.2.2.1, hus]
  exact bnk_of k1 rfl
