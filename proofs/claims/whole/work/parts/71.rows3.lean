/-! the class's table of rows: the pure side -/
theorem bitC : ∀ a : Fin 256, fJ6_bitCount_0f7a4 ((a : Nat) : Int) = some ((pc8 (a : Nat) : Nat) : Int) := by decide +kernel
theorem andn {a b : Nat} (ha : a < 2147483648) (hb : b < 2147483648) : ∃ v : Nat, iand (a : Int) (ixor (b : Int) (-1)) = (v : Int) ∧ v ≤ a ∧ ∀ i, v.testBit i = (a.testBit i && !b.testBit i) := by
  unfold iand ixor
  rw [i32_of]
  have h1 : (Int32.ofInt (a : Int) &&& (Int32.ofInt (b : Int) ^^^ Int32.ofInt (-1))).toBitVec.toNat = a &&& (b ^^^ (2 ^ 32 - 1)) := by
    rw [Int32.toBitVec_and, Int32.toBitVec_xor, i32_nat ha, i32_nat hb, BitVec.toNat_and, BitVec.toNat_xor, BitVec.toNat_ofNat, BitVec.toNat_ofNat, Nat.mod_eq_of_lt (by omega), Nat.mod_eq_of_lt (by omega)]
    have : (Int32.ofInt (-1)).toBitVec.toNat = 2 ^ 32 - 1 := by decide
    rw [this]
  have h2 : a &&& (b ^^^ (2 ^ 32 - 1)) ≤ a := Nat.and_le_left
  refine ⟨a &&& (b ^^^ (2 ^ 32 - 1)), by rw [i32_back (by rw [h1]; omega), h1], h2, fun i => ?_⟩
  rw [Nat.testBit_and, Nat.testBit_xor, Nat.testBit_two_pow_sub_one]
  by_cases hi : i < 32
  · simp [hi]
  · have : a.testBit i = false := Nat.testBit_lt_two_pow (Nat.lt_of_lt_of_le (show a < 2 ^ 31 by omega) (Nat.pow_le_pow_right (by omega) (by omega)))
    rw [this]; rfl
theorem vm_fill {r : Nat → Nat} {k : Nat} (i : Nat) : vm (dg r k) (k + i) = vm (dg r k) k * 9 ^ i + (9 ^ i - 1) := by
  induction i with
  | zero => rw [Nat.add_zero, Nat.pow_zero]; omega
  | succ i ih =>
    show 9 * vm (dg r k) (k + i) + dg r k (k + i) = _
    have h0 : dg r k (k + i) = 8 := by unfold dg; rw [if_neg (by omega)]
    have h1 : 0 < 9 ^ i := Nat.pow_pos (by decide)
    rw [ih, h0, Nat.pow_succ, Nat.mul_comm (9 ^ i) 9, Nat.mul_left_comm]
    generalize vm (dg r k) k * 9 ^ i = Y
    generalize 9 ^ i = X at h1
    omega
theorem KK8 {r : Nat → Nat} {k : Nat} (hk : k ≤ 8) : KK r k = 9 * vm (dg r k) 8 + 8 := by
  unfold KK
  show 9 * vm (dg r k) 8 + dg r k 8 = _
  have h0 : dg r k 8 = 8 := by unfold dg; rw [if_neg (by omega)]
  rw [h0]
theorem KK_le {r r2 : Nat → Nat} {k : Nat} (hk : k ≤ 9) (h : vm (dg r k) k ≤ vm (dg r2 k) k) : KK r k ≤ KK r2 k := by
  unfold KK
  have h1 := vm_fill (r := r) (k := k) (9 - k)
  have h2 := vm_fill (r := r2) (k := k) (9 - k)
  rw [show k + (9 - k) = 9 by omega] at h1 h2
  rw [h1, h2]
  have := Nat.mul_le_mul_right (9 ^ (9 - k)) h
  omega
/-- the greatest row of a set with one last story -/
def DPS (n : Nat) (u : Nat → Bool) (ap : Nat → Int) (S i : Nat) (g : Int) : Prop :=
  (g = -1 ∧ ∀ r k, OKr n u ap r k → 1 ≤ k → jset n r k = S → r (k - 1) = i → False) ∨
  (∃ r k, OKr n u ap r k ∧ 1 ≤ k ∧ jset n r k = S ∧ r (k - 1) = i ∧ g = ((vm (dg r k) k * 9 ^ (8 - k) : Nat) : Int) ∧ ∀ r' k', OKr n u ap r' k' → 1 ≤ k' → jset n r' k' = S → r' (k' - 1) = i → vm (dg r' k') k' ≤ vm (dg r k) k)
def GSS (n : Nat) (u : Nat → Bool) (ap : Nat → Int) (S : Nat) (g : Int) : Prop :=
  (g = -1 ∧ ∀ r k, OKr n u ap r k → 1 ≤ k → jset n r k = S → False) ∨
  (∃ r k, OKr n u ap r k ∧ 1 ≤ k ∧ jset n r k = S ∧ g = ((vm (dg r k) k * 9 ^ (8 - k) : Nat) : Int) ∧ ∀ r' k', OKr n u ap r' k' → 1 ≤ k' → jset n r' k' = S → vm (dg r' k') k' ≤ vm (dg r k) k)
/-- the row without its last -/
theorem row_pre {n : Nat} {u : Nat → Bool} {ap : Nat → Int} {r : Nat → Nat} {k S last rest : Nat} (h : OKr n u ap r (k + 1)) (hS : jset n r (k + 1) = S) (hl : r k = last) (hrest : ∀ i, rest.testBit i = (S.testBit i && decide (i ≠ last))) : jset n r k = rest ∧ last < n ∧ u last = true := by
  obtain ⟨q1, q2⟩ := h.1 k (by omega)
  refine ⟨?_, by rw [← hl]; exact q1, by rw [← hl]; exact h.2.1 k (by omega)⟩
  apply Nat.eq_of_testBit_eq
  intro i
  rw [hrest i, ← hS, ← hl]
  show _ = (((if r k < n then jset n r k ||| 2 ^ r k else jset n r k)).testBit i && decide (i ≠ r k))
  rw [if_pos q1, Nat.testBit_or, Nat.testBit_two_pow]
  by_cases q : i = r k
  · have : (jset n r k).testBit i = false := by rw [q]; simpa using q2
    rw [this]
    simp [q]
  · have : ¬ r k = i := fun z => q z.symm
    simp [q, this]
theorem DPS_step {n : Nat} {u : Nat → Bool} {ap : Nat → Int} {S last rest : Nat} {g : Nat → Int} {ahead : Int} (hn : n ≤ 8) (hln : last < n) (hu : u last = true) (hSl : S.testBit last = true) (hSn : S < 2 ^ n) (hrest : ∀ i, rest.testBit i = (S.testBit i && decide (i ≠ last))) (hg : ∀ i, i < n → rest.testBit i = true → ap (8 * i + last) = 0 → DPS n u ap rest i (g i)) (h1 : (rest = 0 ∧ ahead = 0) ∨ (rest ≠ 0 ∧ (ahead = -1 ∨ ∃ i, i < n ∧ rest.testBit i = true ∧ ap (8 * i + last) = 0 ∧ g i = ahead))) (h2 : ∀ i, i < n → rest.testBit i = true → ap (8 * i + last) = 0 → g i ≤ ahead) : DPS n u ap S last (if 0 ≤ ahead then ahead + (7 - (last : Int)) * 9 ^ (8 - pc8 S) else -1) := by
  have hrl : rest.testBit last = false := by rw [hrest]; simp
  have hSeq : S = rest ||| 2 ^ last := by
    apply Nat.eq_of_testBit_eq
    intro i
    rw [Nat.testBit_or, Nat.testBit_two_pow, hrest]
    by_cases q : i = last
    · rw [q, hSl]; simp
    · have : ¬ last = i := fun z => q z.symm
      simp [q, this]
  have hpre : ∀ r k, OKr n u ap r k → 1 ≤ k → jset n r k = S → r (k - 1) = last → ∃ k0, k = k0 + 1 ∧ jset n r k0 = rest ∧ OKr n u ap r k0 ∧ r k0 = last := by
    intro r k q1 q2 q3 q4
    obtain ⟨k0, rfl⟩ : ∃ k0, k = k0 + 1 := ⟨k - 1, by omega⟩
    rw [Nat.add_sub_cancel] at q4
    exact ⟨k0, rfl, (row_pre q1 q3 q4 hrest).1, q1.pre (by omega), q4⟩
  have hprev : ∀ r k0, OKr n u ap r (k0 + 1) → jset n r k0 = rest → r k0 = last → rest ≠ 0 → 1 ≤ k0 ∧ r (k0 - 1) < n ∧ rest.testBit (r (k0 - 1)) = true ∧ ap (8 * r (k0 - 1) + last) = 0 := by
    intro r k0 q1 q2 q3 q4
    have hk0 : 1 ≤ k0 := by
      apply Classical.byContradiction
      intro c
      have : k0 = 0 := by omega
      rw [this] at q2
      exact q4 q2.symm
    have q5 := (q1.1 (k0 - 1) (by omega)).1
    refine ⟨hk0, q5, ?_, ?_⟩
    · rw [← q2, jset_bit]
      exact ⟨k0 - 1, by omega, rfl, q5⟩
    · have := q1.2.2 (k0 - 1) (by omega)
      rw [show k0 - 1 + 1 = k0 by omega, q3] at this
      exact this
  by_cases c : 0 ≤ ahead
  · rw [if_pos c]
    rcases h1 with ⟨z1, z2⟩ | ⟨z1, z2⟩
    · -- alone
      refine Or.inr ⟨fun _ => last, 1, ⟨fun e he => ?_, fun e _ => hu, fun e he => by omega⟩, Nat.le_refl _, ?_, rfl, ?_, fun r' k' q1 q2 q3 q4 => ?_⟩
      · have : e = 0 := by omega
        subst this
        exact ⟨hln, by show ¬ (0 : Nat).testBit last = true; rw [Nat.zero_testBit]; decide⟩
      · show (if last < n then (0 ||| 2 ^ last) else 0) = S
        rw [if_pos hln, hSeq, z1]
      · have hp : pc8 S = 1 := by
          have := pc_row (n := n) (r := fun _ => last) hn 1 (fun e he => by
            have : e = 0 := by omega
            subst this
            exact ⟨hln, by show ¬ (0 : Nat).testBit last = true; rw [Nat.zero_testBit]; decide⟩)
          have e0 : jset n (fun _ => last) 1 = S := by
            show (if last < n then (0 ||| 2 ^ last) else 0) = S
            rw [if_pos hln, hSeq, z1]
          rw [e0] at this
          exact this
        rw [hp, z2]
        show 0 + (7 - (last : Int)) * 9 ^ (8 - 1) = (((9 * 0 + (if 0 < 1 then 7 - last else 8)) * 9 ^ (8 - 1) : Nat) : Int)
        rw [if_pos (by decide)]
        omega
      · have hk := pc_row hn k' q1.1
        rw [q3] at hk
        obtain ⟨k0, w1, w2, w3, w4⟩ := hpre r' k' q1 q2 q3 q4
        have hk0 := pc_row hn k0 w3.1
        rw [w2, z1] at hk0
        have : k0 = 0 := by rw [← hk0]; decide
        subst this
        rw [w1]
        show 9 * 0 + (if 0 < 0 + 1 then 7 - r' 0 else 8) ≤ 9 * 0 + (if 0 < 1 then 7 - last else 8)
        rw [if_pos (by decide), if_pos (by decide), w4]
        exact Nat.le_refl _
    · rcases z2 with z2 | ⟨i, i1, i2, i3, i4⟩
      · omega
      · rcases hg i i1 i2 i3 with ⟨y1, -⟩ | ⟨r, k, y1, y2, y3, y4, y5, y6⟩
        · omega
        · have hc2 : ∀ e, e < k → (fun e => if e = k then last else r e) e = r e := fun e he => if_neg (by omega)
          have hm2 : (fun e => if e = k then last else r e) k = last := if_pos rfl
          generalize (fun e => if e = k then last else r e) = r2 at hc2 hm2
          have js : jset n r2 k = rest := by rw [jset_c k hc2]; exact y3
          have ok2 : OKr n u ap r2 (k + 1) := by
            have g3' := y1.c (fun e he => (hc2 e he).symm)
            refine ⟨fun e he => ?_, fun e he => ?_, fun e he => ?_⟩
            · by_cases q : e = k
              · rw [q, hm2, js]; exact ⟨hln, by rw [hrl]; decide⟩
              · exact g3'.1 e (by omega)
            · by_cases q : e = k
              · rw [q, hm2]; exact hu
              · exact g3'.2.1 e (by omega)
            · by_cases q : e + 1 = k
              · rw [hc2 e (by omega), q, hm2]
                have : e = k - 1 := by omega
                rw [this, y4]; exact i3
              · exact g3'.2.2 e (by omega)
          have jS : jset n r2 (k + 1) = S := by
            show (if r2 k < n then jset n r2 k ||| 2 ^ r2 k else _) = S
            rw [hm2, if_pos hln, js, hSeq]
          have hk := pc_row hn (k + 1) ok2.1
          rw [jS] at hk
          have hk8 := ok2.k8 hn
          have hv := vm_ext (p := r) (p2 := r2) (m := k) (t := last) hc2 hm2
          refine Or.inr ⟨r2, k + 1, ok2, by omega, jS, by rw [Nat.add_sub_cancel]; exact hm2, ?_, fun r' k' q1 q2 q3 q4 => ?_⟩
          · rw [hk, hv, ← i4, y5, show 8 - k = 8 - (k + 1) + 1 by omega, Nat.pow_succ]
            have e1 : ((9 : Int)) ^ (8 - (k + 1)) = ((9 ^ (8 - (k + 1)) : Nat) : Int) := by rw [Int.natCast_pow]; rfl
            rw [e1]
            generalize 9 ^ (8 - (k + 1)) = X
            generalize vm (dg r k) k = Y
            have e2 : (7 - (last : Int)) = ((7 - last : Nat) : Int) := by omega
            rw [e2, ← Int.natCast_mul, ← Int.natCast_add]
            apply congrArg
            rw [Nat.add_mul, Nat.mul_comm X 9, ← Nat.mul_assoc, Nat.mul_comm Y 9]
          · obtain ⟨k0, w1, w2, w3, w4⟩ := hpre r' k' q1 q2 q3 q4
            rw [w1] at q1 ⊢
            obtain ⟨x1, x2, x3, x4⟩ := hprev r' k0 q1 w2 w4 z1
            have x5 := h2 _ x2 x3 x4
            have hk0 : k0 = k := by
              have a1 := pc_row hn k0 w3.1
              have a2 := pc_row hn k y1.1
              rw [w2] at a1
              rw [y3] at a2
              omega
            have hle : vm (dg r' k0) k0 ≤ vm (dg r k) k := by
              rcases hg _ x2 x3 x4 with ⟨v1, v2⟩ | ⟨r3, k3, v1, v2, v3, v4, v5, v6⟩
              · exact (v2 r' k0 w3 x1 w2 rfl).elim
              · have a1 := v6 r' k0 w3 x1 w2 rfl
                have a2 : k3 = k := by
                  have b1 := pc_row hn k3 v1.1
                  have b2 := pc_row hn k y1.1
                  rw [v3] at b1
                  rw [y3] at b2
                  omega
                rw [v5, ← i4, y5, a2] at x5
                have a3 : vm (dg r3 k) k * 9 ^ (8 - k) ≤ vm (dg r k) k * 9 ^ (8 - k) := by omega
                have a4 := Nat.le_of_mul_le_mul_right a3 (Nat.pow_pos (by decide))
                rw [a2] at a1
                omega
            have e3 := vm_ext (p := r') (p2 := r') (m := k0) (t := last) (fun e he => rfl) w4
            rw [e3, hv]
            omega
  · rw [if_neg c]
    refine Or.inl ⟨rfl, fun r k q1 q2 q3 q4 => ?_⟩
    obtain ⟨k0, w1, w2, w3, w4⟩ := hpre r k q1 q2 q3 q4
    rw [w1] at q1
    rcases h1 with ⟨z1, z2⟩ | ⟨z1, z2⟩
    · omega
    · obtain ⟨x1, x2, x3, x4⟩ := hprev r k0 q1 w2 w4 z1
      have x5 := h2 _ x2 x3 x4
      rcases hg _ x2 x3 x4 with ⟨v1, v2⟩ | ⟨r3, k3, v1, v2, v3, v4, v5, v6⟩
      · exact v2 r k0 w3 x1 w2 rfl
      · omega
/-- the greatest row of a set -/
theorem GSS_of {n : Nat} {u : Nat → Bool} {ap : Nat → Int} {S : Nat} {g : Nat → Int} {x : Int} (hn : n ≤ 8) (hg : ∀ i, i < n → S.testBit i = true → DPS n u ap S i (g i)) (h1 : x = -1 ∨ ∃ i, i < n ∧ S.testBit i = true ∧ g i = x) (h2 : ∀ i, i < n → S.testBit i = true → g i ≤ x) : GSS n u ap S x := by
  have hlast : ∀ r k, OKr n u ap r k → 1 ≤ k → jset n r k = S → r (k - 1) < n ∧ S.testBit (r (k - 1)) = true := by
    intro r k q1 q2 q3
    have q5 := (q1.1 (k - 1) (by omega)).1
    exact ⟨q5, by rw [← q3, jset_bit]; exact ⟨k - 1, by omega, rfl, q5⟩⟩
  by_cases c : 0 ≤ x
  · rcases h1 with h1 | ⟨i, i1, i2, i3⟩
    · omega
    · rcases hg i i1 i2 with ⟨y1, -⟩ | ⟨r, k, y1, y2, y3, y4, y5, y6⟩
      · omega
      · refine Or.inr ⟨r, k, y1, y2, y3, by omega, fun r' k' q1 q2 q3 => ?_⟩
        obtain ⟨l1, l2⟩ := hlast r' k' q1 q2 q3
        have l3 := h2 _ l1 l2
        rcases hg _ l1 l2 with ⟨v1, v2⟩ | ⟨r3, k3, v1, v2, v3, v4, v5, v6⟩
        · exact (v2 r' k' q1 q2 q3 rfl).elim
        · have a1 := v6 r' k' q1 q2 q3 rfl
          have a2 : k3 = k := by
            have b1 := pc_row hn k3 v1.1
            have b2 := pc_row hn k y1.1
            rw [v3] at b1
            rw [y3] at b2
            omega
          rw [v5, ← i3, y5, a2] at l3
          have a3 : vm (dg r3 k) k * 9 ^ (8 - k) ≤ vm (dg r k) k * 9 ^ (8 - k) := by omega
          have a4 := Nat.le_of_mul_le_mul_right a3 (Nat.pow_pos (by decide))
          rw [a2] at a1
          omega
  · have hx : x = -1 := by
      rcases h1 with h1 | ⟨i, i1, i2, i3⟩
      · exact h1
      · rcases hg i i1 i2 with ⟨y1, -⟩ | ⟨r, k, y1, y2, y3, y4, y5, y6⟩
        · omega
        · omega
    refine Or.inl ⟨hx, fun r k q1 q2 q3 => ?_⟩
    obtain ⟨l1, l2⟩ := hlast r k q1 q2 q3
    have l3 := h2 _ l1 l2
    rcases hg _ l1 l2 with ⟨v1, v2⟩ | ⟨r3, k3, v1, v2, v3, v4, v5, v6⟩
    · exact v2 r k q1 q2 q3 rfl
    · omega
/-- one more set looked at -/
theorem BST_set {n : Nat} {u : Nat → Bool} {ap : Nat → Int} {F W : Nat → Int} {lo hi : Int} {ms : Nat} {bw : Int} {br : Nat → Nat} {bk : Nat} {S : Nat} {r0 : Nat → Nat} {k0 : Nat} (hn : n ≤ 8) (hW : ∀ i, i < n → 0 ≤ W i) (h : BST n u ap F W lo hi ms bw br bk (fun r k => jset n r k < S)) (hv0 : VLr n u ap F lo hi ms r0 k0) (hS0 : jset n r0 k0 = S) (hmax : ∀ r k, OKr n u ap r k → 1 ≤ k → jset n r k = S → vm (dg r k) k ≤ vm (dg r0 k0) k0) : ((bw < jlen n r0 W k0 ∨ (jlen n r0 W k0 = bw ∧ KK br bk < KK r0 k0)) → BST n u ap F W lo hi ms (jlen n r0 W k0) r0 k0 (fun r k => jset n r k < S + 1)) ∧ (¬ (bw < jlen n r0 W k0 ∨ (jlen n r0 W k0 = bw ∧ KK br bk < KK r0 k0)) → BST n u ap F W lo hi ms bw br bk (fun r k => jset n r k < S + 1)) := by
  have hwS : ∀ r k, OKr n u ap r k → jset n r k = S → jlen n r W k = jlen n r0 W k0 := by
    intro r k q1 q2
    rw [jlen_sum k q1.1, jlen_sum k0 hv0.1.1, q2, hS0]
  have hKS : ∀ r k, OKr n u ap r k → 1 ≤ k → jset n r k = S → KK r k ≤ KK r0 k0 := by
    intro r k q1 q2 q3
    have a1 : k = k0 := by
      have b1 := pc_row hn k q1.1
      have b2 := pc_row hn k0 hv0.1.1
      rw [q3] at b1
      rw [hS0] at b2
      omega
    have a2 := hmax r k q1 q2 q3
    have a3 := q1.k8 hn
    rw [a1] at a2 ⊢
    exact KK_le (by omega) a2
  have h0 : 0 ≤ jlen n r0 W k0 := by
    have := jlen_mono (n := n) (s := r0) (F := W) hW 0 k0
    rw [Nat.zero_add] at this
    exact this
  constructor
  · intro hc
    refine Or.inr ⟨hv0, rfl, by show jset n r0 k0 < S + 1; omega, fun r k hr hq => ?_⟩
    have hq : jset n r k < S + 1 := hq
    by_cases q : jset n r k = S
    · exact Or.inr ⟨hwS r k hr.1 q, hKS r k hr.1 hr.2.1 q⟩
    · rcases h with ⟨h1, h2, h3⟩ | ⟨h1, h2, h3, h4⟩
      · exact absurd (show jset n r k < S by omega) (h3 r k hr)
      · have h5 := h4 r k hr (show jset n r k < S by omega)
        omega
  · intro hc
    rcases h with ⟨h1, h2, h3⟩ | ⟨h1, h2, h3, h4⟩
    · exact absurd (Or.inl (by omega)) hc
    · refine Or.inr ⟨h1, h2, by show jset n br bk < S + 1; have : jset n br bk < S := h3; omega, fun r k hr hq => ?_⟩
      have hq : jset n r k < S + 1 := hq
      by_cases q : jset n r k = S
      · have a1 := hwS r k hr.1 q
        have a2 := hKS r k hr.1 hr.2.1 q
        by_cases w : jlen n r W k < bw
        · exact Or.inl w
        · have a3 : jlen n r W k = bw := by
            apply Classical.byContradiction
            intro z
            exact hc (Or.inl (by omega))
          refine Or.inr ⟨a3, ?_⟩
          apply Classical.byContradiction
          intro z
          exact hc (Or.inr ⟨by omega, by omega⟩)
      · exact h4 r k hr (show jset n r k < S by omega)
