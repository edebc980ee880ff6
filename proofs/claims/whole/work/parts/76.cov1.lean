/-! men and events: chains, sets, worth -/
/-- the member before -/
def prd (S : Nat) : Nat → Option Nat
  | 0 => none
  | r + 1 => if S.testBit r = true then some r else prd S r
def cndB (st : Nat → Bool) (nx : Nat → Nat → Bool) (S r : Nat) : Bool := !S.testBit r || (match prd S r with
  | none => st r
  | some q => nx q r)
def chB (st : Nat → Bool) (nx : Nat → Nat → Bool) (S n : Nat) : Bool := allB (cndB st nx S) n
theorem prd_c {S T : Nat} : ∀ r, (∀ q, q < r → S.testBit q = T.testBit q) → prd S r = prd T r := by
  intro r
  induction r with
  | zero => intro _; rfl
  | succ r ih =>
    intro h
    show (if S.testBit r = true then some r else prd S r) = (if T.testBit r = true then some r else prd T r)
    rw [h r (by omega), ih (fun q hq => h q (by omega))]
theorem prd_lt {S : Nat} : ∀ r q, prd S r = some q → q < r ∧ S.testBit q = true := by
  intro r
  induction r with
  | zero => intro q h; cases h
  | succ r ih =>
    intro q h
    have h : (if S.testBit r = true then some r else prd S r) = some q := h
    by_cases c : S.testBit r = true
    · rw [if_pos c] at h
      cases h
      exact ⟨by omega, c⟩
    · rw [if_neg c] at h
      have := ih q h
      exact ⟨by omega, this.2⟩
theorem prd_hi {S h : Nat} (hS : S.testBit h = true) : ∀ r, h < r → (∀ q, h < q → q < r → S.testBit q = false) → prd S r = some h := by
  intro r
  induction r with
  | zero => intro z; omega
  | succ r ih =>
    intro z1 z2
    show (if S.testBit r = true then some r else prd S r) = some h
    by_cases q : r = h
    · rw [q, if_pos hS]
    · rw [if_neg (by rw [z2 r (by omega) (by omega)]; decide)]
      exact ih (by omega) (fun q' h1 h2 => z2 q' h1 (by omega))
theorem prd_none {S : Nat} : ∀ r, (∀ q, q < r → S.testBit q = false) → prd S r = none := by
  intro r
  induction r with
  | zero => intro _; rfl
  | succ r ih =>
    intro z
    show (if S.testBit r = true then some r else prd S r) = none
    rw [if_neg (by rw [z r (by omega)]; decide)]
    exact ih (fun q hq => z q (by omega))
/-- a chain without its last -/
theorem chB_last {st : Nat → Bool} {nx : Nat → Nat → Bool} {S rest n h : Nat} (hh : h < n) (hS : S.testBit h = true) (htop : ∀ q, h < q → q < n → S.testBit q = false) (hrest : ∀ i, rest.testBit i = (S.testBit i && decide (i ≠ h))) : chB st nx S n = (chB st nx rest n && (match prd rest h with | none => st h | some q => nx q h)) := by
  have hpr : ∀ r, r ≤ h → prd S r = prd rest r := fun r hr => prd_c r (fun q hq => by
    rw [hrest q]
    have : q ≠ h := by omega
    simp [this])
  rw [Bool.eq_iff_iff, Bool.and_eq_true]
  unfold chB
  rw [allB_iff, allB_iff]
  constructor
  · intro z
    refine ⟨fun i hi => ?_, ?_⟩
    · by_cases q : i = h
      · unfold cndB
        rw [hrest i, q]
        simp
      · by_cases q2 : i < h
        · have := z i hi
          unfold cndB at this ⊢
          rw [hpr i (by omega)] at this
          rw [hrest i]
          simpa [q] using this
        · unfold cndB
          rw [hrest i, htop i (by omega) hi]
          simp
    · have := z h hh
      unfold cndB at this
      rw [hS, hpr h (Nat.le_refl _)] at this
      simpa using this
  · rintro ⟨z1, z2⟩ i hi
    by_cases q : i = h
    · unfold cndB
      rw [q, hS, hpr h (Nat.le_refl _)]
      simpa using z2
    · by_cases q2 : i < h
      · have := z1 i hi
        unfold cndB at this ⊢
        rw [hpr i (by omega)]
        rw [hrest i] at this
        simpa [q] using this
      · unfold cndB
        rw [htop i (by omega) hi]
        simp
/-- what so many men can do -/
def TF (x : Int) (P : Prop) : Prop := (x = 1 ∧ P) ∨ (x = 0 ∧ ¬ P)
def cvP (ch : Nat → Nat → Bool) : Nat → Nat → Prop
  | 0, S => S = 0
  | m + 1, S => ∃ o, o &&& S = o ∧ ch m o = true ∧ cvP ch m (S ^^^ o)
theorem TF.b {x : Int} {P : Prop} (h : TF x P) : x = 0 ∨ x = 1 := by
  rcases h with h | h
  · exact Or.inr h.1
  · exact Or.inl h.1
theorem TF.z {x : Int} {P : Prop} (h : TF x P) : x = 0 ↔ ¬ P := by
  rcases h with h | h
  · exact ⟨fun q => by omega, fun q => absurd h.2 q⟩
  · exact ⟨fun _ => h.2, fun _ => h.1⟩
theorem TF.c {x : Int} {P Q : Prop} (h : TF x P) (hq : P ↔ Q) : TF x Q := by
  rcases h with h | h
  · exact Or.inl ⟨h.1, hq.mp h.2⟩
  · exact Or.inr ⟨h.1, fun z => h.2 (hq.mpr z)⟩
theorem xor_sub {S o : Nat} (h : o &&& S = o) (h0 : 0 < o) : S ^^^ o < S := by
  have hb : ∀ i, (S ^^^ o).testBit i = (S.testBit i && !o.testBit i) := by
    intro i
    rw [Nat.testBit_xor]
    have : o.testBit i = (o.testBit i && S.testBit i) := by
      have h1 : (o &&& S).testBit i = o.testBit i := by rw [h]
      rw [Nat.testBit_and] at h1
      exact h1.symm
    by_cases q : o.testBit i = true
    · rw [q] at this
      have hs : S.testBit i = true := by simpa using this.symm
      simp [q, hs]
    · simp [q]
  have h1 : (S ^^^ o) ||| o = S := by
    apply Nat.eq_of_testBit_eq
    intro i
    rw [Nat.testBit_or, hb i]
    have h2 : (o &&& S).testBit i = o.testBit i := by rw [h]
    rw [Nat.testBit_and] at h2
    by_cases q : o.testBit i = true
    · rw [q] at h2
      have hs : S.testBit i = true := by simpa using h2
      simp [q, hs]
    · simp [q]
  have h2 : S ^^^ o ≤ S := by
    have : S ^^^ o ≤ (S ^^^ o) ||| o := Nat.left_le_or
    rw [h1] at this
    exact this
  have h3 : S ^^^ o ≠ S := by
    intro z
    have : o = 0 := by
      have h4 : S ^^^ o ^^^ S = 0 := by rw [z, Nat.xor_self]
      rw [Nat.xor_comm S o, Nat.xor_assoc, Nat.xor_self, Nat.xor_zero] at h4
      exact h4
    omega
  omega
theorem and_xor_lt {S o n : Nat} (hS : S < 2 ^ n) (h : o &&& S = o) : o < 2 ^ n ∧ S ^^^ o < 2 ^ n := by
  have h1 : o ≤ S := by rw [← h]; exact Nat.and_le_right
  exact ⟨by omega, Nat.xor_lt_two_pow hS (by omega)⟩
/-- events in the order of their hours -/
def evN (σ : St) : Nat := (gI σ 102 0 0).toNat
def evB (σ : St) (r : Nat) : Nat := (gI σ 106 0 r).toNat
theorem RC.ev {σ : St} (h : RC σ) : gI σ 102 0 0 = (evN σ : Int) ∧ gI σ 1369 0 0 = (evN σ : Int) ∧ evN σ ≤ 8 ∧ (∀ r, r < evN σ → gI σ 106 0 r = (evB σ r : Int) ∧ evB σ r < evN σ) ∧ (∀ r q, r < q → q < evN σ → evB σ r ≠ evB σ q ∧ (gI σ 104 0 (evB σ r) < gI σ 104 0 (evB σ q) ∨ (gI σ 104 0 (evB σ r) = gI σ 104 0 (evB σ q) ∧ evB σ r < evB σ q))) ∧ (∀ e, e < evN σ → gI σ 1370 0 e = gI σ 103 0 e ∧ gI σ 1371 0 e = gI σ 104 0 e ∧ gI σ 1372 0 e = gI σ 105 0 e ∧ (0 ≤ gI σ 103 0 e ∧ gI σ 103 0 e ≤ 7) ∧ (0 ≤ gI σ 104 0 e ∧ gI σ 104 0 e ≤ 9999) ∧ (1 ≤ gI σ 105 0 e ∧ gI σ 105 0 e ≤ 999)) := by
  obtain ⟨k1, k2, k3, k4, k5, k6⟩ := h
  have hN : gI σ 102 0 0 = (evN σ : Int) := by unfold evN; omega
  have hB : ∀ r, r < evN σ → gI σ 106 0 r = (evB σ r : Int) ∧ evB σ r < evN σ := by
    intro r hr
    obtain ⟨x, x1, x2⟩ := k5 r (by omega)
    unfold evB
    rw [x1, Int.toNat_natCast]
    exact ⟨rfl, by omega⟩
  refine ⟨hN, by rw [k2]; exact hN, by omega, hB, fun r q h1 h2 => ?_, fun e he => k4 e (by omega)⟩
  obtain ⟨m1, m2⟩ := k6 r q h1 (by omega)
  have a1 := (hB r (by omega)).1
  have a2 := (hB q h2).1
  rw [a1, a2, Int.toNat_natCast, Int.toNat_natCast] at m2
  rw [a1, a2] at m1
  exact ⟨by omega, by omega⟩
theorem RC.inj {σ : St} (h : RC σ) {r q : Nat} (hr : r < evN σ) (hq : q < evN σ) (he : evB σ r = evB σ q) : r = q := by
  obtain ⟨h1, h2, h3, h4, h5, h6⟩ := h.ev
  apply Classical.byContradiction
  intro c
  by_cases z : r < q
  · exact (h5 r q z hq).1 he
  · exact (h5 q r (by omega) hr).1 he.symm
theorem pc8_full : ∀ n : Fin 9, ∀ a : Fin 256, (a : Nat) < 2 ^ (n : Nat) → pc8 a = n → (a : Nat) = 2 ^ (n : Nat) - 1 := by decide +kernel
theorem RC.onto {σ : St} (h : RC σ) {e : Nat} (he : e < evN σ) : ∃ r, r < evN σ ∧ evB σ r = e := by
  obtain ⟨h1, h2, h3, h4, h5, h6⟩ := h.ev
  have hg : ∀ k, k < evN σ → evB σ k < evN σ ∧ ¬ (jset (evN σ) (evB σ) k).testBit (evB σ k) = true := by
    intro k hk
    refine ⟨(h4 k hk).2, fun z => ?_⟩
    obtain ⟨k', k1, k2, k3⟩ := (jset_bit k (evB σ k)).mp z
    have := h.inj (by omega) hk k2
    omega
  have hp := pc_row h3 (evN σ) hg
  have hl := jset_lt (n := evN σ) (s := evB σ) (evN σ)
  have h256 : 2 ^ evN σ ≤ 2 ^ 8 := Nat.pow_le_pow_right (by omega) h3
  have hf : jset (evN σ) (evB σ) (evN σ) = 2 ^ evN σ - 1 := pc8_full ⟨evN σ, by omega⟩ ⟨jset (evN σ) (evB σ) (evN σ), by omega⟩ hl hp
  have hb : (jset (evN σ) (evB σ) (evN σ)).testBit e = true := by
    rw [hf, Nat.testBit_two_pow_sub_one]
    simp [he]
  obtain ⟨r, r1, r2, r3⟩ := (jset_bit (evN σ) e).mp hb
  exact ⟨r, r1, r2⟩
/-- sets of events, sets of ranks -/
def rkS (σ : St) (E : Nat) : Nat := setN (fun r => E.testBit (evB σ r)) (evN σ)
def evS (σ : St) (S : Nat) : Nat → Nat
  | 0 => 0
  | r + 1 => if S.testBit r = true then evS σ S r ||| 2 ^ evB σ r else evS σ S r
theorem rkS_bit (σ : St) (E r : Nat) : (rkS σ E).testBit r = (decide (r < evN σ) && E.testBit (evB σ r)) := setN_bit _ _ _
theorem evS_bit (σ : St) (S k e : Nat) : (evS σ S k).testBit e = true ↔ ∃ r, r < k ∧ S.testBit r = true ∧ evB σ r = e := by
  induction k with
  | zero =>
    show (0 : Nat).testBit e = true ↔ _
    rw [Nat.zero_testBit]
    exact ⟨fun z => (by cases z), fun z => (by obtain ⟨r, h, _⟩ := z; omega)⟩
  | succ k ih =>
    show ((if S.testBit k = true then evS σ S k ||| 2 ^ evB σ k else evS σ S k)).testBit e = true ↔ _
    by_cases c : S.testBit k = true
    · rw [if_pos c, Nat.testBit_or, Nat.testBit_two_pow, Bool.or_eq_true, ih, decide_eq_true_iff]
      constructor
      · rintro (⟨r, h1, h2, h3⟩ | h)
        · exact ⟨r, by omega, h2, h3⟩
        · exact ⟨k, by omega, c, h⟩
      · rintro ⟨r, h1, h2, h3⟩
        by_cases q : r = k
        · rw [q] at h3; exact Or.inr h3
        · exact Or.inl ⟨r, by omega, h2, h3⟩
    · rw [if_neg c, ih]
      constructor
      · rintro ⟨r, h1, h2, h3⟩; exact ⟨r, by omega, h2, h3⟩
      · rintro ⟨r, h1, h2, h3⟩
        by_cases q : r = k
        · rw [q] at h2; exact absurd h2 c
        · exact ⟨r, by omega, h2, h3⟩
theorem rk_ev {σ : St} (h : RC σ) {S : Nat} (hS : S < 2 ^ evN σ) : rkS σ (evS σ S (evN σ)) = S := by
  apply Nat.eq_of_testBit_eq
  intro r
  rw [rkS_bit]
  by_cases c : r < evN σ
  · rw [Bool.eq_iff_iff, Bool.and_eq_true, evS_bit, decide_eq_true_iff]
    constructor
    · rintro ⟨_, q, q1, q2, q3⟩
      rw [h.inj c q1 q3.symm]; exact q2
    · intro z; exact ⟨c, r, c, z, rfl⟩
  · have : S.testBit r = false := Nat.testBit_lt_two_pow (Nat.lt_of_lt_of_le hS (Nat.pow_le_pow_right (by omega) (by omega)))
    rw [this]; simp [c]
theorem ev_rk {σ : St} (h : RC σ) {E : Nat} (hE : E < 2 ^ evN σ) : evS σ (rkS σ E) (evN σ) = E := by
  apply Nat.eq_of_testBit_eq
  intro e
  rw [Bool.eq_iff_iff, evS_bit]
  constructor
  · rintro ⟨r, r1, r2, r3⟩
    rw [rkS_bit, Bool.and_eq_true] at r2
    rw [← r3]; exact r2.2
  · intro z
    have he : e < evN σ := by
      apply Classical.byContradiction
      intro c
      have : E.testBit e = false := Nat.testBit_lt_two_pow (Nat.lt_of_lt_of_le hE (Nat.pow_le_pow_right (by omega) (by omega)))
      rw [this] at z; cases z
    obtain ⟨r, r1, r2⟩ := h.onto he
    refine ⟨r, r1, ?_, r2⟩
    rw [rkS_bit, r2, z]
    simp [r1]
theorem rkS_lt (σ : St) (E : Nat) : rkS σ E < 2 ^ evN σ := setN_lt _ _
theorem evS_lt {σ : St} (h : RC σ) (S : Nat) : ∀ k, k ≤ evN σ → evS σ S k < 2 ^ evN σ := by
  obtain ⟨h1, h2, h3, h4, h5, h6⟩ := h.ev
  intro k
  induction k with
  | zero => intro _; exact Nat.two_pow_pos _
  | succ k ih =>
    intro hk
    show (if S.testBit k = true then evS σ S k ||| 2 ^ evB σ k else evS σ S k) < _
    split
    · exact Nat.or_lt_two_pow (ih (by omega)) (Nat.pow_lt_pow_right (by omega) (h4 k (by omega)).2)
    · exact ih (by omega)
/-- worth by ranks is worth by events -/
def wrV (σ : St) (S : Nat) (k : Nat) : Int := sumN (fun r => if S.testBit r = true then gI σ 105 0 (evB σ r) else 0) k
def wvE (σ : St) (E : Nat) : Int := ssum (fun e => gI σ 105 0 e) E (evN σ)
theorem ws_we {σ : St} (h : RC σ) (S : Nat) : ∀ k, k ≤ evN σ → wrV σ S k = wvE σ (evS σ S k) := by
  obtain ⟨h1, h2, h3, h4, h5, h6⟩ := h.ev
  intro k
  induction k with
  | zero =>
    intro _
    show (0 : Int) = sumN (fun i => if (0 : Nat).testBit i = true then gI σ 105 0 i else 0) (evN σ)
    have : ∀ m, sumN (fun i => if (0 : Nat).testBit i = true then gI σ 105 0 i else 0) m = 0 := by
      intro m
      induction m with
      | zero => rfl
      | succ m ih =>
        unfold sumN
        rw [ih, Nat.zero_testBit]; rfl
    rw [this]
  | succ k ih =>
    intro hk
    have ih := ih (by omega)
    show wrV σ S k + (if S.testBit k = true then gI σ 105 0 (evB σ k) else 0) = wvE σ (if S.testBit k = true then evS σ S k ||| 2 ^ evB σ k else evS σ S k)
    by_cases c : S.testBit k = true
    · rw [if_pos c, if_pos c, ih]
      have hnew : ¬ (evS σ S k).testBit (evB σ k) = true := by
        intro z
        obtain ⟨r, r1, r2, r3⟩ := (evS_bit σ S k (evB σ k)).mp z
        have := h.inj (by omega) (by omega) r3
        omega
      unfold wvE ssum
      symm
      apply sumN_upd (evN σ) (h4 k (by omega)).2
      · show (if (evS σ S k ||| 2 ^ evB σ k).testBit (evB σ k) = true then gI σ 105 0 (evB σ k) else 0) = (if (evS σ S k).testBit (evB σ k) = true then gI σ 105 0 (evB σ k) else 0) + gI σ 105 0 (evB σ k)
        rw [if_neg hnew, if_pos (by rw [Nat.testBit_or, Nat.testBit_two_pow]; simp)]; omega
      · intro i hi hne
        show (if (evS σ S k ||| 2 ^ evB σ k).testBit i = true then gI σ 105 0 i else 0) = (if (evS σ S k).testBit i = true then gI σ 105 0 i else 0)
        have : (evS σ S k ||| 2 ^ evB σ k).testBit i = (evS σ S k).testBit i := by
          rw [Nat.testBit_or, Nat.testBit_two_pow]
          have : ¬ evB σ k = i := fun z => hne z.symm
          simp [this]
        rw [this]
    · rw [if_neg c, if_neg c, ih, Int.add_zero]
/-- who can be where in time -/
def rchB (σ : St) (p h : Int) (r : Nat) : Bool := decide (tvD σ 1 p.toNat h (gI σ 103 0 (evB σ r)).toNat ≤ gI σ 104 0 (evB σ r))
def nxB (σ : St) (q r : Nat) : Bool := rchB σ (gI σ 103 0 (evB σ q)) (gI σ 104 0 (evB σ q)) r
def chM (σ : St) (m S : Nat) : Bool := if gI σ 100 0 m = -9 then decide (S = 0) else chB (rchB σ (gI σ 100 0 m) (gI σ 101 0 m)) (nxB σ) S (evN σ)
theorem chM_0 (σ : St) (m : Nat) : chM σ m 0 = true := by
  unfold chM
  split
  · decide
  · unfold chB
    rw [allB_iff]
    intro i _
    unfold cndB
    rw [Nat.zero_testBit]; rfl
