/-! judge -/
theorem shq4 : ∀ e : Fin 16, ((Int32.ofInt (4 * ((e : Nat) : Int))).toInt64 &&& 63).toBitVec.smod 64 = BitVec.ofNat 64 (4 * (e : Nat)) := by decide +kernel
theorem shu4 : ∀ e : Fin 16, ((Int32.ofInt (4 * ((e : Nat) : Int))).toInt64.toUInt64 &&& Int64.toUInt64 63).toBitVec % 64 = BitVec.ofNat 64 (4 * (e : Nat)) := by decide +kernel
theorem b15 : ∀ i : Fin 64, (Int64.ofInt 15).toBitVec.getLsbD (i : Nat) = decide ((i : Nat) < 4) := by decide +kernel
def nib (x : Int) (e : Nat) : Int := jand (jshr x (4 * (e : Int))) 15
theorem nib_u {x : Int} {e : Nat} (he : e < 16) : jand (jushr x (4 * (e : Int))) 15 = nib x e := by
  unfold nib jand jushr jshr
  rw [i64_of, i64_of]
  apply congrArg Int64.toInt
  apply Int64.toBitVec.inj
  rw [Int64.toBitVec_and, Int64.toBitVec_and, UInt64.toBitVec_toInt64, UInt64.toBitVec_shiftRight, Int64.toBitVec_toUInt64, Int64.toBitVec_shiftRight]
  have e1 : (BitVec.ofNat 64 (4 * e)).toNat = 4 * e := by rw [BitVec.toNat_ofNat, Nat.mod_eq_of_lt (by omega)]
  have s1' : ((Int32.ofInt (4 * (e : Int))).toInt64.toUInt64 &&& Int64.toUInt64 63).toBitVec % 64 = BitVec.ofNat 64 (4 * e) := shu4 ⟨e, he⟩
  have s2' : ((Int32.ofInt (4 * (e : Int))).toInt64 &&& 63).toBitVec.smod 64 = BitVec.ofNat 64 (4 * e) := shq4 ⟨e, he⟩
  rw [s1', s2']
  apply BitVec.eq_of_getLsbD_eq
  intro i hi
  have h2 : (Int64.ofInt 15).toBitVec.getLsbD i = decide (i < 4) := b15 ⟨i, hi⟩
  rw [BitVec.getLsbD_and, BitVec.getLsbD_and, BitVec.ushiftRight_eq', BitVec.sshiftRight_eq', e1, BitVec.getLsbD_ushiftRight, BitVec.getLsbD_sshiftRight, h2]
  by_cases c : i < 4
  · have c2 : ¬ 64 ≤ i := by omega
    have c3 : 4 * e + i < 64 := by omega
    simp [c2, c3]
  · simp [c]
theorem nib_bd (x : Int) (e : Nat) : 0 ≤ nib x e ∧ nib x e ≤ 15 := by
  unfold nib jand
  have h1 : (Int64.ofInt (jshr x (4 * (e : Int))) &&& Int64.ofInt 15).toBitVec.toNat ≤ 15 := by
    rw [Int64.toBitVec_and, BitVec.toNat_and]
    exact Nat.le_trans Nat.and_le_right (by decide)
  generalize Int64.ofInt (jshr x (4 * (e : Int))) &&& Int64.ofInt 15 = Y at h1
  show 0 ≤ Y.toBitVec.toInt ∧ Y.toBitVec.toInt ≤ 15
  rw [BitVec.toInt_eq_toNat_of_lt (by omega)]
  omega
theorem l2i_nib (x : Int) (e : Nat) : l2i (nib x e) = nib x e := by
  have h := nib_bd x e
  obtain ⟨b, hb⟩ := Int.eq_ofNat_of_zero_le h.1
  rw [hb]
  exact l2i_b ⟨b, by omega⟩
/-- what lies in one set lies in the other -/
theorem sub0 {a b : Nat} (ha : a < 2147483648) (hb : b < 2147483648) : iand (a : Int) (ixor (b : Int) (-1)) = 0 ↔ ∀ i, a.testBit i = true → b.testBit i = true := by
  unfold iand ixor
  rw [i32_of]
  have h1 : (Int32.ofInt (a : Int) &&& (Int32.ofInt (b : Int) ^^^ Int32.ofInt (-1))).toBitVec.toNat = a &&& (b ^^^ (2 ^ 32 - 1)) := by
    rw [Int32.toBitVec_and, Int32.toBitVec_xor, i32_nat ha, i32_nat hb, BitVec.toNat_and, BitVec.toNat_xor, BitVec.toNat_ofNat, BitVec.toNat_ofNat, Nat.mod_eq_of_lt (by omega), Nat.mod_eq_of_lt (by omega)]
    have : (Int32.ofInt (-1)).toBitVec.toNat = 2 ^ 32 - 1 := by decide
    rw [this]
  have h2 : a &&& (b ^^^ (2 ^ 32 - 1)) ≤ a := Nat.and_le_left
  rw [i32_back (by rw [h1]; omega), h1]
  have hbit : ∀ i, (a &&& (b ^^^ (2 ^ 32 - 1))).testBit i = (a.testBit i && !b.testBit i) := by
    intro i
    rw [Nat.testBit_and, Nat.testBit_xor, Nat.testBit_two_pow_sub_one]
    by_cases hi : i < 32
    · simp [hi]
    · have : a.testBit i = false := Nat.testBit_lt_two_pow (Nat.lt_of_lt_of_le (show a < 2 ^ 31 by omega) (Nat.pow_le_pow_right (by omega) (by omega)))
      rw [this]; rfl
  constructor
  · intro h i hi
    have h3 : a &&& (b ^^^ (2 ^ 32 - 1)) = 0 := by omega
    have h4 := hbit i
    rw [h3, Nat.zero_testBit, hi] at h4
    simpa using h4.symm
  · intro h
    have h3 : a &&& (b ^^^ (2 ^ 32 - 1)) = 0 := by
      apply Nat.eq_of_testBit_eq
      intro i
      rw [hbit, Nat.zero_testBit]
      by_cases q : a.testBit i = true
      · simp [h i q]
      · simp [q]
    omega
theorem sup0 {a m : Nat} (ha : a < 2147483648) (hm : m < 2147483648) : iand (a : Int) (m : Int) = (m : Int) ↔ ∀ i, m.testBit i = true → a.testBit i = true := by
  rw [iand_nat ha hm]
  constructor
  · intro h i hi
    have h3 : a &&& m = m := by omega
    have h4 : (a &&& m).testBit i = m.testBit i := by rw [h3]
    rw [Nat.testBit_and, hi] at h4
    simpa using h4
  · intro h
    have h3 : a &&& m = m := by
      apply Nat.eq_of_testBit_eq
      intro i
      rw [Nat.testBit_and]
      by_cases q : m.testBit i = true
      · simp [q, h i q]
      · simp [q]
    rw [h3]
/-- a row told, story by story -/
def jset (n : Nat) (s : Nat → Nat) : Nat → Nat
  | 0 => 0
  | e + 1 => if s e < n then jset n s e ||| 2 ^ s e else jset n s e
def jlst (n : Nat) (s : Nat → Nat) : Nat → Int
  | 0 => -9
  | e + 1 => if s e < n then (s e : Int) else jlst n s e
def jlen (n : Nat) (s : Nat → Nat) (F : Nat → Int) : Nat → Int
  | 0 => 0
  | e + 1 => if s e < n then jlen n s F e + F (s e) else jlen n s F e
def jlk (n : Nat) (s : Nat → Nat) (rd ma : Nat → Bool) (e : Nat) : Int := if ¬ s e < n then 1 else if (jset n s e).testBit (s e) = true then 1 else if rd (s e) = true then (if ma (s e) = true then 9 else 3) else 2
def jmn (a b : Int) : Int := if a ≤ b then a else b
def jf (n : Nat) (s : Nat → Nat) (rd ma : Nat → Bool) (ap : Nat → Int) : Nat → Int
  | 0 => 9
  | e + 1 => if s e < n ∧ jlst n s e ≠ -9 ∧ ap (8 * (jlst n s e).toNat + s e) ≠ 0 ∧ ¬ jmn (jf n s rd ma ap e) (jlk n s rd ma e) ≤ 4 then 4 else jmn (jf n s rd ma ap e) (jlk n s rd ma e)
def jcl (n : Nat) (s : Nat → Nat) (ap : Nat → Int) : Nat → Int
  | 0 => 0
  | e + 1 => if jcl n s ap e = 0 then (if jlst n s e = -9 then 0 else if ap (8 * (jlst n s e).toNat + s e) = 0 then 0 else 1) else 1
theorem jset_lt {n : Nat} {s : Nat → Nat} (e : Nat) : jset n s e < 2 ^ n := by
  induction e with
  | zero => exact Nat.two_pow_pos n
  | succ e ih =>
    unfold jset
    split
    · next q => exact Nat.or_lt_two_pow ih (Nat.pow_lt_pow_right (by omega) q)
    · exact ih
theorem jset_bit {n : Nat} {s : Nat → Nat} (e i : Nat) : (jset n s e).testBit i = true ↔ ∃ e', e' < e ∧ s e' = i ∧ i < n := by
  induction e with
  | zero =>
    unfold jset
    rw [Nat.zero_testBit]
    exact ⟨fun z => (by cases z), fun z => (by obtain ⟨e', h, _⟩ := z; omega)⟩
  | succ e ih =>
    have hstep : (∃ e', e' < e + 1 ∧ s e' = i ∧ i < n) ↔ (∃ e', e' < e ∧ s e' = i ∧ i < n) ∨ (s e = i ∧ i < n) := by
      constructor
      · rintro ⟨e', h1, h2, h3⟩
        by_cases q : e' = e
        · rw [q] at h2; exact Or.inr ⟨h2, h3⟩
        · exact Or.inl ⟨e', by omega, h2, h3⟩
      · rintro (⟨e', h1, h2, h3⟩ | ⟨h2, h3⟩)
        · exact ⟨e', by omega, h2, h3⟩
        · exact ⟨e, by omega, h2, h3⟩
    rw [hstep, ← ih]
    show ((if s e < n then jset n s e ||| 2 ^ s e else jset n s e)).testBit i = true ↔ _
    by_cases c : s e < n
    · rw [if_pos c, Nat.testBit_or, Nat.testBit_two_pow, Bool.or_eq_true, decide_eq_true_iff]
      constructor
      · rintro (h | h)
        · exact Or.inl h
        · exact Or.inr ⟨h, by omega⟩
      · rintro (h | h)
        · exact Or.inl h
        · exact Or.inr h.1
    · rw [if_neg c]
      constructor
      · intro h; exact Or.inl h
      · rintro (h | h)
        · exact h
        · omega
theorem jlst_bd {n : Nat} {s : Nat → Nat} (e : Nat) : jlst n s e = -9 ∨ (0 ≤ jlst n s e ∧ jlst n s e < (n : Int)) := by
  induction e with
  | zero => exact Or.inl rfl
  | succ e ih =>
    unfold jlst
    split
    · exact Or.inr (by omega)
    · exact ih
theorem jlen_bd {n : Nat} {s : Nat → Nat} {F : Nat → Int} (hF : ∀ i, i < n → 0 ≤ F i ∧ F i ≤ 5400) (e : Nat) : 0 ≤ jlen n s F e ∧ jlen n s F e ≤ 5400 * e := by
  induction e with
  | zero => unfold jlen; omega
  | succ e ih =>
    unfold jlen
    split
    · next q => have := hF (s e) q; omega
    · omega
theorem jlk_b {n : Nat} {s : Nat → Nat} {rd ma : Nat → Bool} (e : Nat) : 1 ≤ jlk n s rd ma e ∧ jlk n s rd ma e ≤ 9 := by
  unfold jlk
  repeat' split
  all_goals omega
theorem jf_bd {n : Nat} {s : Nat → Nat} {rd ma : Nat → Bool} {ap : Nat → Int} (e : Nat) : 1 ≤ jf n s rd ma ap e ∧ jf n s rd ma ap e ≤ 9 := by
  induction e with
  | zero => unfold jf; omega
  | succ e ih =>
    have h := jlk_b (n := n) (s := s) (rd := rd) (ma := ma) e
    unfold jf jmn
    repeat' split
    all_goals omega
/-- once one told is none, or twice told, the first lack is 1 -/
theorem jf_one {n : Nat} {s : Nat → Nat} {rd ma : Nat → Bool} {ap : Nat → Int} {e0 : Nat} (h : jlk n s rd ma e0 = 1) (k : Nat) : jf n s rd ma ap (e0 + 1 + k) = 1 := by
  induction k with
  | zero =>
    have h1 := jf_bd (n := n) (s := s) (rd := rd) (ma := ma) (ap := ap) e0
    show (if s e0 < n ∧ jlst n s e0 ≠ -9 ∧ ap (8 * (jlst n s e0).toNat + s e0) ≠ 0 ∧ ¬ jmn (jf n s rd ma ap e0) (jlk n s rd ma e0) ≤ 4 then 4 else jmn (jf n s rd ma ap e0) (jlk n s rd ma e0)) = 1
    have h2 : jmn (jf n s rd ma ap e0) (jlk n s rd ma e0) = 1 := by
      unfold jmn
      rw [h]
      split <;> omega
    rw [h2, if_neg (fun z => z.2.2.2 (by decide))]
  | succ k ih =>
    have h1 := jlk_b (n := n) (s := s) (rd := rd) (ma := ma) (e0 + 1 + k)
    show (if s (e0 + 1 + k) < n ∧ jlst n s (e0 + 1 + k) ≠ -9 ∧ ap (8 * (jlst n s (e0 + 1 + k)).toNat + s (e0 + 1 + k)) ≠ 0 ∧ ¬ jmn (jf n s rd ma ap (e0 + 1 + k)) (jlk n s rd ma (e0 + 1 + k)) ≤ 4 then 4 else jmn (jf n s rd ma ap (e0 + 1 + k)) (jlk n s rd ma (e0 + 1 + k))) = 1
    have h2 : jmn (jf n s rd ma ap (e0 + 1 + k)) (jlk n s rd ma (e0 + 1 + k)) = 1 := by
      unfold jmn
      rw [ih]
      split <;> omega
    rw [h2, if_neg (fun z => z.2.2.2 (by decide))]
/-- no such: the first lack by all told -/
def jfv (a b : Bool) (c : Int) : Int := if a = true then (if b = true then (if c = 0 then 9 else 4) else 3) else 2
theorem jcl_b {n : Nat} {s : Nat → Nat} {ap : Nat → Int} (e : Nat) : jcl n s ap e = 0 ∨ jcl n s ap e = 1 := by
  cases e with
  | zero => exact Or.inl rfl
  | succ e =>
    unfold jcl
    repeat' split
    all_goals omega
theorem jstep {a b r m : Bool} {c : Int} {Q : Prop} [Decidable Q] (hc : c = 0 ∨ c = 1) (hr : m = true → r = true) : (if Q ∧ ¬ jmn (jfv a b c) (if r = true then (if m = true then 9 else 3) else 2) ≤ 4 then 4 else jmn (jfv a b c) (if r = true then (if m = true then 9 else 3) else 2)) = jfv (a && r) (b && m) (if c = 0 then (if Q then 1 else 0) else 1) := by
  by_cases q : Q
  · rcases hc with h | h <;> subst h <;> cases a <;> cases b <;> cases r <;> cases m <;> first | exact absurd (hr rfl) (by decide) | simp [jfv, jmn, q]
  · rcases hc with h | h <;> subst h <;> cases a <;> cases b <;> cases r <;> cases m <;> first | exact absurd (hr rfl) (by decide) | simp [jfv, jmn, q]
theorem jf_good {n : Nat} {s : Nat → Nat} {rd ma : Nat → Bool} {ap : Nat → Int} (hma : ∀ i, ma i = true → rd i = true) (k : Nat) (h : ∀ e, e < k → s e < n ∧ ¬ (jset n s e).testBit (s e) = true) : jf n s rd ma ap k = jfv (allB (fun e => rd (s e)) k) (allB (fun e => ma (s e)) k) (jcl n s ap k) := by
  induction k with
  | zero => rfl
  | succ k ih =>
    have ih := ih (fun e he => h e (by omega))
    obtain ⟨h1, h2⟩ := h k (by omega)
    have hc := jcl_b (n := n) (s := s) (ap := ap) k
    have hlk : jlk n s rd ma k = if rd (s k) = true then (if ma (s k) = true then 9 else 3) else 2 := by
      unfold jlk
      rw [if_neg (fun z => z h1), if_neg h2]
    show (if s k < n ∧ jlst n s k ≠ -9 ∧ ap (8 * (jlst n s k).toNat + s k) ≠ 0 ∧ ¬ jmn (jf n s rd ma ap k) (jlk n s rd ma k) ≤ 4 then 4 else jmn (jf n s rd ma ap k) (jlk n s rd ma k)) = jfv (allB (fun e => rd (s e)) k && rd (s k)) (allB (fun e => ma (s e)) k && ma (s k)) (if jcl n s ap k = 0 then (if jlst n s k = -9 then 0 else if ap (8 * (jlst n s k).toNat + s k) = 0 then 0 else 1) else 1)
    rw [ih, hlk]
    have hcc : ∀ X : Int, (if s k < n ∧ jlst n s k ≠ -9 ∧ ap (8 * (jlst n s k).toNat + s k) ≠ 0 ∧ ¬ X ≤ 4 then (4 : Int) else X) = if (jlst n s k ≠ -9 ∧ ap (8 * (jlst n s k).toNat + s k) ≠ 0) ∧ ¬ X ≤ 4 then 4 else X := by
      intro X
      by_cases q : (jlst n s k ≠ -9 ∧ ap (8 * (jlst n s k).toNat + s k) ≠ 0) ∧ ¬ X ≤ 4
      · rw [if_pos q, if_pos ⟨h1, q.1.1, q.1.2, q.2⟩]
      · rw [if_neg q, if_neg (fun z => q ⟨⟨z.2.1, z.2.2.1⟩, z.2.2.2⟩)]
    have hdd : (if jlst n s k = -9 then (0 : Int) else if ap (8 * (jlst n s k).toNat + s k) = 0 then 0 else 1) = if (jlst n s k ≠ -9 ∧ ap (8 * (jlst n s k).toNat + s k) ≠ 0) then 1 else 0 := by
      by_cases q1 : jlst n s k = -9
      · rw [if_pos q1, if_neg (fun z => z.1 q1)]
      · rw [if_neg q1]
        by_cases q2 : ap (8 * (jlst n s k).toNat + s k) = 0
        · rw [if_pos q2, if_neg (fun z => z.2 q2)]
        · rw [if_neg q2, if_pos ⟨q1, q2⟩]
    rw [hcc, hdd]
    exact jstep hc (hma (s k))
theorem sumN_upd {g g2 : Nat → Int} {x : Int} {m : Nat} : ∀ n, m < n → g2 m = g m + x → (∀ i, i < n → i ≠ m → g2 i = g i) → sumN g2 n = sumN g n + x := by
  intro n
  induction n with
  | zero => intro h; omega
  | succ n ih =>
    intro h1 h2 h3
    unfold sumN
    by_cases q : m = n
    · subst q
      rw [h2, sumN_c m (fun i hi => h3 i (by omega) (by omega))]
      omega
    · rw [ih (by omega) h2 (fun i hi => h3 i (by omega)), h3 n (by omega) (by omega)]
      omega
def ssum (F : Nat → Int) (a n : Nat) : Int := sumN (fun i => if a.testBit i = true then F i else 0) n
theorem jlen_sum {n : Nat} {s : Nat → Nat} {F : Nat → Int} (k : Nat) (h : ∀ e, e < k → s e < n ∧ ¬ (jset n s e).testBit (s e) = true) : jlen n s F k = ssum F (jset n s k) n := by
  induction k with
  | zero =>
    show (0 : Int) = sumN (fun i => if (0 : Nat).testBit i = true then F i else 0) n
    have : ∀ m, sumN (fun i => if (0 : Nat).testBit i = true then F i else 0) m = 0 := by
      intro m
      induction m with
      | zero => rfl
      | succ m ih =>
        unfold sumN
        rw [ih, Nat.zero_testBit]; rfl
    rw [this]
  | succ k ih =>
    have ih := ih (fun e he => h e (by omega))
    obtain ⟨h1, h2⟩ := h k (by omega)
    show (if s k < n then jlen n s F k + F (s k) else jlen n s F k) = _
    rw [if_pos h1, ih]
    unfold ssum
    symm
    apply sumN_upd n h1
    · show (if (jset n s (k + 1)).testBit (s k) = true then F (s k) else 0) = (if (jset n s k).testBit (s k) = true then F (s k) else 0) + F (s k)
      rw [if_pos ((jset_bit (k + 1) (s k)).mpr ⟨k, by omega, rfl, h1⟩), if_neg h2]; omega
    · intro i hi hne
      show (if (jset n s (k + 1)).testBit i = true then F i else 0) = (if (jset n s k).testBit i = true then F i else 0)
      have : (jset n s (k + 1)).testBit i = (jset n s k).testBit i := by
        show ((if s k < n then jset n s k ||| 2 ^ s k else jset n s k)).testBit i = _
        rw [if_pos h1, Nat.testBit_or, Nat.testBit_two_pow]
        have : ¬ s k = i := fun z => hne z.symm
        simp [this]
      rw [this]
