/-! ways: when a thing can be there -/
def lvV (a b x : Int) : Int := if x ≤ a then a else a + (x - a + b - 1) / b * b
theorem lvV_bd {a b x : Int} (ha : 0 ≤ a ∧ a ≤ 9999) (hb : 1 ≤ b ∧ b ≤ 500) : x ≤ lvV a b x ∧ 0 ≤ lvV a b x ∧ (lvV a b x ≤ 9999 ∨ lvV a b x < x + 500) := by
  unfold lvV
  by_cases c : x ≤ a
  · rw [if_pos c]; omega
  · rw [if_neg c]
    have h1 := Int.ediv_mul_le (x - a + b - 1) (show b ≠ 0 by omega)
    have h2 := Int.lt_ediv_add_one_mul_self (x - a + b - 1) (show 0 < b by omega)
    rw [Int.add_mul, Int.one_mul] at h2
    generalize (x - a + b - 1) / b * b = Q at h1 h2
    omega
def awV (σ : St) (l : Int) (i : Nat) (x : Int) : Int := if gI σ 1106 i 0 = 0 then (if 9999 < x then 1000000 else if lvV (gI σ 1102 i 0) (gI σ 1103 i 0) x ≤ 9999 then lvV (gI σ 1102 i 0) (gI σ 1103 i 0) x + gI σ 1104 i 0 + (if l = 0 then 0 else gI σ 1105 i 0) else 1000000) else 1000000
theorem RW1.wb {σ : St} {i : Nat} (h : RW1 σ i) : ((0 ≤ gI σ 1100 i 0 ∧ gI σ 1100 i 0 ≤ 7) ∧ (0 ≤ gI σ 1101 i 0 ∧ gI σ 1101 i 0 ≤ 7) ∧ (0 ≤ gI σ 1102 i 0 ∧ gI σ 1102 i 0 ≤ 9999) ∧ (1 ≤ gI σ 1103 i 0 ∧ gI σ 1103 i 0 ≤ 500) ∧ (1 ≤ gI σ 1104 i 0 ∧ gI σ 1104 i 0 ≤ 500) ∧ (0 ≤ gI σ 1105 i 0 ∧ gI σ 1105 i 0 ≤ 200)) ∧ gI σ 1302 0 i = gI σ 1100 i 0 ∧ gI σ 1303 0 i = gI σ 1101 i 0 ∧ gI σ 1304 0 i = gI σ 1102 i 0 ∧ gI σ 1305 0 i = gI σ 1103 i 0 ∧ gI σ 1306 0 i = gI σ 1104 i 0 ∧ gI σ 1307 0 i = gI σ 1105 i 0 ∧ gI σ 1308 0 i = gI σ 1106 i 0 := by
  obtain ⟨w1, w2, w3, w4, w5, w6, w7, w8, b1, b2, b3, b4, b5, b6, b7⟩ := h
  exact ⟨⟨b1, b2, b3, b4, b5, b6⟩, w2, w3, w4, w5, w6, w7, w8⟩
theorem awV_bd {σ : St} {i : Nat} {l x : Int} (h : RW1 σ i) (hx : x ≤ 1000000) : x ≤ awV σ l i x ∧ 0 ≤ awV σ l i x ∧ awV σ l i x ≤ 1000000 := by
  obtain ⟨⟨b1, b2, b3, b4, b5, b6⟩, -⟩ := h.wb
  have hl := lvV_bd (x := x) b3 b4
  unfold awV
  generalize lvV (gI σ 1102 i 0) (gI σ 1103 i 0) x = d at hl
  by_cases c : gI σ 1106 i 0 = 0
  · rw [if_pos c]
    by_cases c2 : 9999 < x
    · rw [if_pos c2]; omega
    · rw [if_neg c2]
      by_cases c3 : d ≤ 9999
      · rw [if_pos c3]
        by_cases c4 : l = 0
        · rw [if_pos c4]; omega
        · rw [if_neg c4]; omega
      · rw [if_neg c3]; omega
  · rw [if_neg c]; omega
theorem lvd_i {a b x : Int} (ha : 0 ≤ a ∧ a ≤ 9999) (hb : 1 ≤ b ∧ b ≤ 500) (hx : 0 ≤ x ∧ x ≤ 1000000) (c : ¬ x ≤ a) : a + idiv (x - a + b - 1) b * b = lvV a b x ∧ -2147483648 ≤ idiv (x - a + b - 1) b * b ∧ idiv (x - a + b - 1) b * b ≤ 2147483647 ∧ -2147483648 ≤ lvV a b x ∧ lvV a b x ≤ 2147483647 := by
  have hl := lvV_bd (x := x) ha hb
  unfold lvV at hl ⊢
  rw [idivI (by omega) (by omega)]
  rw [if_neg c] at hl ⊢
  generalize (x - a + b - 1) / b * b = Q at hl
  omega
theorem leaves_c {σ : St} {i : Nat} {x : Int} (h : RW1 σ i) (hx : 0 ≤ x ∧ x ≤ 1000000) : fX10_leaves i x σ = some (lvV (gI σ 1102 i 0) (gI σ 1103 i 0) x) := by
  obtain ⟨⟨b1, b2, b3, b4, b5, b6⟩, -⟩ := h.wb
  unfold fX10_leaves
  by_cases c : x ≤ gI σ 1102 i 0
  · rw [if_pos c]; unfold lvV; rw [if_pos c]
  · obtain ⟨e1, e2, e3, e4, e5⟩ := lvd_i b3 b4 hx c
    rw [if_neg c, if_pos (by omega), ck_i (by omega) (by omega), ck_i (by omega) (by omega), ck_i (by omega) (by omega), ck_pos (by omega), ck_i e2 e3, e1, ck_i e4 e5]
theorem arrives_c {σ : St} {i : Nat} {x l : Int} (h : RW1 σ i) (hx : 0 ≤ x ∧ x ≤ 1000000) : fX10_arrives i x l σ = some (awV σ l i x) := by
  obtain ⟨⟨b1, b2, b3, b4, b5, b6⟩, -⟩ := h.wb
  have hl := lvV_bd (x := x) b3 b4
  unfold fX10_arrives awV
  by_cases c : gI σ 1106 i 0 = 0
  · rw [if_pos c, if_pos c]
    by_cases c2 : 9999 < x
    · rw [if_pos c2, if_pos c2]
    · rw [if_neg c2, if_neg c2, leaves_c h hx, bnk_some, bnk_some]
      generalize lvV (gI σ 1102 i 0) (gI σ 1103 i 0) x = d at hl
      by_cases c3 : d ≤ 9999
      · rw [if_pos c3, if_pos c3, ck_i (by omega) (by omega)]
        by_cases c4 : l = 0
        · rw [if_pos c4, if_pos c4, ck_i (by omega) (by omega)]
        · rw [if_neg c4, if_neg c4, ck_i (by omega) (by omega)]
      · rw [if_neg c3, if_neg c3]
  · rw [if_neg c, if_neg c]
theorem by_m {σ : St} {i : Nat} {x l : Int} (h : RW1 σ i) (h24 : i < 24) (hx : 0 ≤ x ∧ x ≤ 1000000) : fX12_by (i : Int) x l σ = some (awV σ l i x) := by
  obtain ⟨⟨b1, b2, b3, b4, b5, b6⟩, w2, w3, w4, w5, w6, w7, w8⟩ := h.wb
  have hl := lvV_bd (x := x) b3 b4
  have key : ∀ d, d = lvV (gI σ 1102 i 0) (gI σ 1103 i 0) x → fX12_by_j46 (i : Int) l d σ = some (awV σ l i x) := by
    intro d hd
    rw [← hd] at hl
    unfold fX12_by_j46 awV
    rw [ck_x (by omega) (by omega), Int.toNat_natCast, w8, w6, w7, ← hd]
    by_cases c : gI σ 1106 i 0 = 0
    · rw [if_pos c, if_pos c]
      by_cases c3 : d ≤ 9999
      · rw [if_pos c3, if_neg (show ¬ 9999 < x by omega), if_pos c3, ck_x (by omega) (by omega), ck_i (by omega) (by omega)]
        by_cases c4 : l = 0
        · rw [if_pos c4, if_pos c4, ck_i (by omega) (by omega)]
        · rw [if_neg c4, if_neg c4, ck_x (by omega) (by omega), ck_i (by omega) (by omega)]
      · rw [if_neg c3, if_neg c3]
        split <;> rfl
    · rw [if_neg c, if_neg c]
  unfold fX12_by
  rw [ck_x (by omega) (by omega), Int.toNat_natCast, w4, w5]
  by_cases c : x ≤ gI σ 1102 i 0
  · rw [if_pos c]
    exact key _ (by unfold lvV; rw [if_pos c])
  · obtain ⟨e1, e2, e3, e4, e5⟩ := lvd_i b3 b4 hx c
    rw [if_neg c, ck_i (by omega) (by omega), ck_x (by omega) (by omega), ck_i (by omega) (by omega), ck_i (by omega) (by omega), ck_x (by omega) (by omega), ck_pos (by omega), ck_x (by omega) (by omega), ck_i e2 e3, e1, ck_i e4 e5]
    exact key _ rfl
/-- one way looked at; all ways; whether something changed -/
def rl (f t : Nat → Nat) (A : Nat → Int → Int) (D : Nat → Int) (i : Nat) : Nat → Int := if D (t i) ≤ A i (D (f i)) then D else fun v => if v = t i then A i (D (f i)) else D v
def sw (f t : Nat → Nat) (A : Nat → Int → Int) (D : Nat → Int) : Nat → Nat → Int
  | 0 => D
  | k + 1 => rl f t A (sw f t A D k) k
def cg (f t : Nat → Nat) (A : Nat → Int → Int) (D : Nat → Int) : Nat → Int
  | 0 => 0
  | k + 1 => if sw f t A D k (t k) ≤ A k (sw f t A D k (f k)) then cg f t A D k else 1
def swI (n : Nat) (f t : Nat → Nat) (A : Nat → Int → Int) (D : Nat → Int) : Nat → Nat → Int
  | 0 => D
  | r + 1 => sw f t A (swI n f t A D r) n
theorem cg_b (f t : Nat → Nat) (A : Nat → Int → Int) (D : Nat → Int) (k : Nat) : cg f t A D k = 0 ∨ cg f t A D k = 1 := by
  induction k with
  | zero => exact Or.inl rfl
  | succ k ih =>
    unfold cg
    split
    · exact ih
    · exact Or.inr rfl
theorem cg_0 {f t : Nat → Nat} {A : Nat → Int → Int} {D : Nat → Int} {k : Nat} (h : cg f t A D k = 0) : sw f t A D k = D := by
  induction k with
  | zero => rfl
  | succ k ih =>
    unfold cg at h
    by_cases c : sw f t A D k (t k) ≤ A k (sw f t A D k (f k))
    · rw [if_pos c] at h
      unfold sw rl
      rw [if_pos c]
      exact ih h
    · rw [if_neg c] at h; omega
theorem cg_ok {f t : Nat → Nat} {A : Nat → Int → Int} {D : Nat → Int} {n : Nat} (h : ∀ i, i < n → D (t i) ≤ A i (D (f i))) : cg f t A D n = 0 ∧ sw f t A D n = D := by
  induction n with
  | zero => exact ⟨rfl, rfl⟩
  | succ k ih =>
    obtain ⟨h1, h2⟩ := ih (fun i hi => h i (by omega))
    have h3 := h k (by omega)
    show (if sw f t A D k (t k) ≤ A k (sw f t A D k (f k)) then cg f t A D k else 1) = 0 ∧ rl f t A (sw f t A D k) k = D
    rw [h2, if_pos h3]
    unfold rl
    rw [if_pos h3]
    exact ⟨h1, rfl⟩
/-- the places not yet sure, the last sure one -/
def JJ (n : Nat) (f t : Nat → Nat) (A : Nat → Int → Int) (C : List Nat) (m k : Nat) (D : Nat → Int) : Prop :=
  C.Nodup ∧ m ∉ C ∧ (∀ u, u ∈ C → D m ≤ D u) ∧ (∀ v, v < 8 → v ∉ C → D v ≤ D m) ∧ (∀ i, i < n → f i ∉ C → (i < k ∨ f i ≠ m) → D (t i) ≤ A i (D (f i))) ∧ (∀ v, v < 8 → D v ≤ 1000000)
theorem JJ_in {n : Nat} {f t : Nat → Nat} {A : Nat → Int → Int} {C : List Nat} {m k : Nat} {D : Nat → Int} (hf : ∀ i, i < n → f i < 8) (ht : ∀ i, i < n → t i < 8) (hA : ∀ i, i < n → ∀ x, x ≤ 1000000 → x ≤ A i x ∧ A i x ≤ 1000000) (h : JJ n f t A C m k D) {i : Nat} (hi : i < n) (c : t i ∉ C) : D (t i) ≤ A i (D (f i)) := by
  obtain ⟨j1, j2, j3, j4, j5, j6⟩ := h
  have a1 := (hA i hi (D (f i)) (j6 _ (hf i hi))).1
  have a2 := j4 (t i) (ht i hi) c
  by_cases d : f i ∈ C
  · have := j3 _ d; omega
  · by_cases d2 : f i = m
    · rw [d2] at a1 ⊢; omega
    · exact j5 i hi d (Or.inr d2)
theorem JJ_step {n : Nat} {f t : Nat → Nat} {A : Nat → Int → Int} {C : List Nat} {m k : Nat} {D : Nat → Int} (hf : ∀ i, i < n → f i < 8) (ht : ∀ i, i < n → t i < 8) (hA : ∀ i, i < n → ∀ x, x ≤ 1000000 → x ≤ A i x ∧ A i x ≤ 1000000) (h : JJ n f t A C m k D) (hk : k < n) : JJ n f t A C m (k + 1) (rl f t A D k) := by
  have hin := fun c => JJ_in hf ht hA h hk c
  obtain ⟨j1, j2, j3, j4, j5, j6⟩ := id h
  obtain ⟨a1, a2⟩ := hA k hk (D (f k)) (j6 _ (hf k hk))
  unfold rl
  by_cases c : D (t k) ≤ A k (D (f k))
  · rw [if_pos c]
    refine ⟨j1, j2, j3, j4, fun i hi d1 d2 => ?_, j6⟩
    by_cases q : i = k
    · rw [q]; exact c
    · exact j5 i hi d1 (by rcases d2 with h | h; exact Or.inl (by omega); exact Or.inr h)
  · rw [if_neg c]
    have tc : t k ∈ C := by
      by_cases q : t k ∈ C
      · exact q
      · exact absurd (hin q) c
    have keep : ∀ v, v ∉ C → (if v = t k then A k (D (f k)) else D v) = D v := fun v hv => if_neg (fun z : v = t k => hv (by rw [z]; exact tc))
    have dec : ∀ v, (if v = t k then A k (D (f k)) else D v) ≤ D v := fun v => by
      by_cases q : v = t k
      · rw [if_pos q, q]; omega
      · rw [if_neg q]; exact Int.le_refl _
    have low : D m ≤ A k (D (f k)) := by
      by_cases d : f k ∈ C
      · have := j3 _ d; omega
      · by_cases d2 : f k = m
        · rw [d2] at a1 ⊢; exact a1
        · exact absurd (j5 k hk d (Or.inr d2)) c
    refine ⟨j1, j2, fun u hu => ?_, fun v hv hc => ?_, fun i hi d1 d2 => ?_, fun v hv => ?_⟩
    · show (if m = t k then A k (D (f k)) else D m) ≤ (if u = t k then A k (D (f k)) else D u)
      rw [keep m j2]
      by_cases q : u = t k
      · rw [if_pos q]; exact low
      · rw [if_neg q]; exact j3 u hu
    · show (if v = t k then A k (D (f k)) else D v) ≤ (if m = t k then A k (D (f k)) else D m)
      rw [keep m j2, keep v hc]; exact j4 v hv hc
    · show (if t i = t k then A k (D (f k)) else D (t i)) ≤ A i (if f i = t k then A k (D (f k)) else D (f i))
      rw [keep (f i) d1]
      by_cases q : i = k
      · rw [q, if_pos rfl]; exact Int.le_refl _
      · have h1 := j5 i hi d1 (by rcases d2 with h | h; exact Or.inl (by omega); exact Or.inr h)
        have h2 := dec (t i)
        omega
    · have := dec v
      have := j6 v hv
      show (if v = t k then A k (D (f k)) else D v) ≤ 1000000
      omega
theorem JJ_round {n : Nat} {f t : Nat → Nat} {A : Nat → Int → Int} {C : List Nat} {m : Nat} {D : Nat → Int} (hf : ∀ i, i < n → f i < 8) (ht : ∀ i, i < n → t i < 8) (hA : ∀ i, i < n → ∀ x, x ≤ 1000000 → x ≤ A i x ∧ A i x ≤ 1000000) (h : JJ n f t A C m 0 D) (k : Nat) (hk : k ≤ n) : JJ n f t A C m k (sw f t A D k) := by
  induction k with
  | zero => exact h
  | succ k ih => exact JJ_step hf ht hA (ih (by omega)) (by omega)
theorem min_ex (D : Nat → Int) : ∀ C : List Nat, C ≠ [] → ∃ u, u ∈ C ∧ ∀ w, w ∈ C → D u ≤ D w := by
  intro C
  induction C with
  | nil => intro h; exact absurd rfl h
  | cons a C ih =>
    intro _
    by_cases c : C = []
    · refine ⟨a, List.mem_cons_self, fun w hw => ?_⟩
      rw [c] at hw
      have : w = a := by simpa using hw
      rw [this]; exact Int.le_refl _
    · obtain ⟨u, h1, h2⟩ := ih c
      by_cases d : D a ≤ D u
      · refine ⟨a, List.mem_cons_self, fun w hw => ?_⟩
        rcases List.mem_cons.mp hw with h | h
        · rw [h]; exact Int.le_refl _
        · have := h2 w h; omega
      · refine ⟨u, List.mem_cons_of_mem _ h1, fun w hw => ?_⟩
        rcases List.mem_cons.mp hw with h | h
        · rw [h]; omega
        · exact h2 w h
theorem JJ_next {n : Nat} {f t : Nat → Nat} {A : Nat → Int → Int} {C : List Nat} {m : Nat} {D : Nat → Int} (h : JJ n f t A C m n D) : ∃ C2 m2, JJ n f t A C2 m2 0 D ∧ C2.length ≤ C.length - 1 := by
  obtain ⟨j1, j2, j3, j4, j5, j6⟩ := h
  by_cases c : C = []
  · subst c
    exact ⟨[], m, ⟨j1, j2, j3, j4, fun i hi d1 d2 => j5 i hi d1 (Or.inl hi), j6⟩, by simp⟩
  · obtain ⟨u, h1, h2⟩ := min_ex D C c
    have hmem : ∀ v, v ∉ C.erase u → v ∉ C ∨ v = u := fun v hv => by
      by_cases q : v = u
      · exact Or.inr q
      · exact Or.inl (fun z => hv ((List.mem_erase_of_ne q).mpr z))
    refine ⟨C.erase u, u, ⟨j1.erase u, j1.not_mem_erase, fun w hw => h2 w (List.mem_of_mem_erase hw), fun v hv hc => ?_, fun i hi d1 d2 => ?_, j6⟩, ?_⟩
    · rcases hmem v hc with q | q
      · have := j4 v hv q
        have := j3 u h1
        omega
      · rw [q]; exact Int.le_refl _
    · rcases hmem _ d1 with q | q
      · exact j5 i hi q (Or.inl hi)
      · rcases d2 with z | z
        · omega
        · exact absurd q z
    · rw [List.length_erase_of_mem h1]; exact Nat.le_refl _
def d0 (p : Nat) (h : Int) : Nat → Int := fun v => if v = p then h else 1000000
theorem sw_stop {n : Nat} {f t : Nat → Nat} {A : Nat → Int → Int} {p : Nat} {h : Int} (hf : ∀ i, i < n → f i < 8) (ht : ∀ i, i < n → t i < 8) (hA : ∀ i, i < n → ∀ x, x ≤ 1000000 → x ≤ A i x ∧ A i x ≤ 1000000) (hp : p < 8) (hh : h ≤ 1000000) : cg f t A (swI n f t A (d0 p h) 7) n = 0 := by
  have key : ∀ r, ∃ C m, JJ n f t A C m 0 (swI n f t A (d0 p h) r) ∧ C.length ≤ 7 - r := by
    intro r
    induction r with
    | zero =>
      refine ⟨(List.range 8).erase p, p, ⟨List.nodup_range.erase p, List.nodup_range.not_mem_erase, fun u hu => ?_, fun v hv hc => ?_, fun i hi d1 d2 => ?_, fun v hv => ?_⟩, ?_⟩
      · show (if p = p then h else 1000000) ≤ (if u = p then h else 1000000)
        rw [if_pos rfl]
        split <;> omega
      · have : v = p := by
          by_cases q : v = p
          · exact q
          · exact absurd ((List.mem_erase_of_ne q).mpr (List.mem_range.mpr hv)) hc
        rw [this]; exact Int.le_refl _
      · have : f i = p := by
          by_cases q : f i = p
          · exact q
          · exact absurd ((List.mem_erase_of_ne q).mpr (List.mem_range.mpr (hf i hi))) d1
        rcases d2 with z | z
        · omega
        · exact absurd this z
      · show (if v = p then h else 1000000) ≤ 1000000
        split <;> omega
      · rw [List.length_erase_of_mem (List.mem_range.mpr hp), List.length_range]; exact Nat.le_refl _
    | succ r ih =>
      obtain ⟨C, m, h1, h2⟩ := ih
      obtain ⟨C2, m2, h3, h4⟩ := JJ_next (JJ_round hf ht hA h1 n (Nat.le_refl n))
      exact ⟨C2, m2, h3, by omega⟩
  obtain ⟨C, m, h1, h2⟩ := key 7
  have hC : C = [] := List.eq_nil_of_length_eq_zero (by omega)
  subst hC
  exact (cg_ok (fun i hi => JJ_in hf ht hA h1 hi (List.not_mem_nil))).1
theorem least_ex (P : Nat → Prop) : ∀ n, P n → ∃ r, r ≤ n ∧ P r ∧ ∀ s, s < r → ¬ P s := by
  have key : ∀ n, (∀ s, s < n → ¬ P s) ∨ ∃ r, r < n ∧ P r ∧ ∀ s, s < r → ¬ P s := by
    intro n
    induction n with
    | zero => exact Or.inl (fun s hs => by omega)
    | succ n ih =>
      rcases ih with h | ⟨r, h1, h2⟩
      · by_cases c : P n
        · exact Or.inr ⟨n, by omega, c, h⟩
        · refine Or.inl (fun s hs => ?_)
          by_cases q : s = n
          · rw [q]; exact c
          · exact h s (by omega)
      · exact Or.inr ⟨r, by omega, h2⟩
  intro n hn
  rcases key n with h | ⟨r, h1, h2⟩
  · exact ⟨n, Nat.le_refl _, hn, h⟩
  · exact ⟨r, by omega, h2⟩
theorem swI_st {n : Nat} {f t : Nat → Nat} {A : Nat → Int → Int} {D : Nat → Int} {r : Nat} (h : cg f t A (swI n f t A D r) n = 0) (k : Nat) : swI n f t A D (r + k) = swI n f t A D r := by
  induction k with
  | zero => rfl
  | succ k ih =>
    show sw f t A (swI n f t A D (r + k)) n = _
    rw [ih]; exact cg_0 h
/-- by what hour each place is reached -/
def wf (σ : St) (i : Nat) : Nat := (gI σ 1100 i 0).toNat
def wt (σ : St) (i : Nat) : Nat := (gI σ 1101 i 0).toNat
def tvD (σ : St) (l : Int) (p : Nat) (h : Int) : Nat → Int := swI (gN σ 10) (wf σ) (wt σ) (awV σ l) (d0 p h) 8
theorem sw_bd {f t : Nat → Nat} {A : Nat → Int → Int} {D : Nat → Int} {n : Nat} (hf : ∀ i, i < n → f i < 8) (hA : ∀ i, i < n → ∀ x, x ≤ 1000000 → 0 ≤ A i x ∧ A i x ≤ 1000000) (hD : ∀ v, v < 8 → 0 ≤ D v ∧ D v ≤ 1000000) (k : Nat) (hk : k ≤ n) : ∀ v, v < 8 → 0 ≤ sw f t A D k v ∧ sw f t A D k v ≤ 1000000 := by
  induction k with
  | zero => exact hD
  | succ k ih =>
    intro v hv
    have h1 := ih (by omega)
    have h2 := hA k (by omega) _ (h1 (f k) (hf k (by omega))).2
    show 0 ≤ rl f t A (sw f t A D k) k v ∧ rl f t A (sw f t A D k) k v ≤ 1000000
    unfold rl
    split
    · exact h1 v hv
    · show 0 ≤ (if v = t k then _ else _) ∧ (if v = t k then _ else _) ≤ (1000000 : Int)
      split
      · exact h2
      · exact h1 v hv
theorem swI_bd {f t : Nat → Nat} {A : Nat → Int → Int} {D : Nat → Int} {n : Nat} (hf : ∀ i, i < n → f i < 8) (hA : ∀ i, i < n → ∀ x, x ≤ 1000000 → 0 ≤ A i x ∧ A i x ≤ 1000000) (hD : ∀ v, v < 8 → 0 ≤ D v ∧ D v ≤ 1000000) (r : Nat) : ∀ v, v < 8 → 0 ≤ swI n f t A D r v ∧ swI n f t A D r v ≤ 1000000 := by
  induction r with
  | zero => exact hD
  | succ r ih => exact sw_bd hf hA ih n (Nat.le_refl n)
theorem d0_bd {p : Nat} {h : Int} (hh : 0 ≤ h ∧ h ≤ 1000000) : ∀ v, v < 8 → 0 ≤ d0 p h v ∧ d0 p h v ≤ 1000000 := by
  intro v _
  unfold d0
  split
  · exact hh
  · omega
theorem RW.hyp {σ : St} (hW : RW σ) (l : Int) : (∀ i, i < gN σ 10 → wf σ i < 8) ∧ (∀ i, i < gN σ 10 → wt σ i < 8) ∧ (∀ i, i < gN σ 10 → ∀ x, x ≤ 1000000 → x ≤ awV σ l i x ∧ awV σ l i x ≤ 1000000) ∧ (∀ i, i < gN σ 10 → ∀ x, x ≤ 1000000 → 0 ≤ awV σ l i x ∧ awV σ l i x ≤ 1000000) := by
  obtain ⟨w1, w2, w3, w4, w5⟩ := hW
  refine ⟨fun i hi => ?_, fun i hi => ?_, fun i hi x hx => ?_, fun i hi x hx => ?_⟩
  · have := (w4 i hi).wb.1.1
    unfold wf; omega
  · have := (w4 i hi).wb.1.2.1
    unfold wt; omega
  · have := awV_bd (l := l) (w4 i hi) hx
    omega
  · have := awV_bd (l := l) (w4 i hi) hx
    omega
theorem tvD_bd {σ : St} (hW : RW σ) {l : Int} {p : Nat} {h : Int} (hh : 0 ≤ h ∧ h ≤ 1000000) : ∀ v, v < 8 → 0 ≤ tvD σ l p h v ∧ tvD σ l p h v ≤ 1000000 := by
  obtain ⟨y1, y2, y3, y4⟩ := hW.hyp l
  exact swI_bd y1 y4 (d0_bd hh) 8
theorem tvD_ex {S : List Nat} {σ σ2 : St} (hx : Ex S σ σ2) (hd : ∀ c ∈ [1100, 1101, 1102, 1103, 1104, 1105, 1106], c ∉ S) (l : Int) (p : Nat) (h : Int) : tvD σ2 l p h = tvD σ l p h := by
  have e1 : wf σ2 = wf σ := funext fun i => by unfold wf; rw [hx.i (hd 1100 (by decide))]
  have e2 : wt σ2 = wt σ := funext fun i => by unfold wt; rw [hx.i (hd 1101 (by decide))]
  have e3 : awV σ2 l = awV σ l := funext fun i => funext fun x => by
    unfold awV
    rw [hx.i (hd 1102 (by decide)), hx.i (hd 1103 (by decide)), hx.i (hd 1104 (by decide)), hx.i (hd 1105 (by decide)), hx.i (hd 1106 (by decide))]
  unfold tvD
  rw [e1, e2, e3, hx.n 10]
