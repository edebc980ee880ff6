/-! numbers, the walk's values, programs that may fail, loops -/
abbrev inr (z : Int) : Prop := -2147483648 ≤ z ∧ z ≤ 2147483647
abbrev inq (z : Int) : Prop := -9223372036854775808 ≤ z ∧ z ≤ 9223372036854775807
def vi (z : Int) : Value := .int (Int32.ofInt z)
def vj (z : Int) : Value := .long (Int64.ofInt z)
def vo (ad : Nat → Nat → Nat) (K : Nat) (r : Option Nat) : Value := va_rf (r.map (ad K))
def wpO {α : Type} (f : Option α) (Q : α → Prop) : Prop := ∃ r, f = some r ∧ Q r
def ck {α : Type} (c : Prop) [Decidable c] (k : Option α) : Option α := if c then k else none
theorem wpO_some {α : Type} {r : α} {Q : α → Prop} : wpO (some r) Q ↔ Q r := by
  constructor
  · rintro ⟨x, h1, h2⟩
    cases h1; exact h2
  · intro h; exact ⟨r, rfl, h⟩
theorem wpO_none {α : Type} {Q : α → Prop} : wpO (none : Option α) Q ↔ False := by
  constructor
  · rintro ⟨x, h1, h2⟩
    cases h1
  · intro h; exact h.elim
theorem wpO_ck {α : Type} {c : Prop} [Decidable c] {k : Option α} {Q : α → Prop} : wpO (ck c k) Q ↔ c ∧ wpO k Q := by
  unfold ck
  by_cases h : c
  · rw [if_pos h]; exact ⟨fun q => ⟨h, q⟩, fun q => q.2⟩
  · rw [if_neg h]; exact ⟨fun q => (wpO_none.mp q).elim, fun q => (h q.1).elim⟩
theorem wpO_ite {α : Type} {c : Prop} [Decidable c] {a b : Option α} {Q : α → Prop} : wpO (if c then a else b) Q ↔ (c → wpO a Q) ∧ (¬ c → wpO b Q) := by
  by_cases h : c
  · rw [if_pos h]; exact ⟨fun q => ⟨fun _ => q, fun n => (n h).elim⟩, fun q => q.1 h⟩
  · rw [if_neg h]; exact ⟨fun q => ⟨fun n => (h n).elim, fun _ => q⟩, fun q => q.2 h⟩
theorem wpO_mono {α : Type} {f : Option α} {P Q : α → Prop} (h : ∀ r, P r → Q r) : wpO f P → wpO f Q := by
  rintro ⟨r, h1, h2⟩
  exact ⟨r, h1, h r h2⟩
def bnd {α β S : Type} (f : Option (α × S)) (k : α → S → Option β) : Option β := match f with
  | none => none
  | some q => k q.1 q.2
theorem wpO_bnd {α β S : Type} {f : Option (α × S)} {k : α → S → Option β} {Q : β → Prop} : wpO (bnd f k) Q ↔ wpO f (fun q => wpO (k q.1 q.2) Q) := by
  cases f with
  | none => exact ⟨fun h => (wpO_none.mp h).elim, fun h => (wpO_none.mp h).elim⟩
  | some q => exact ⟨fun h => ⟨q, rfl, h⟩, fun h => by obtain ⟨r, h1, h2⟩ := h; cases h1; exact h2⟩
def bnk {α β : Type} (f : Option α) (k : α → Option β) : Option β := match f with
  | none => none
  | some q => k q
theorem wpO_bnk {α β : Type} {f : Option α} {k : α → Option β} {Q : β → Prop} : wpO (bnk f k) Q ↔ wpO f (fun q => wpO (k q) Q) := by
  cases f with
  | none => exact ⟨fun h => (wpO_none.mp h).elim, fun h => (wpO_none.mp h).elim⟩
  | some q => exact ⟨fun h => ⟨q, rfl, h⟩, fun h => by obtain ⟨r, h1, h2⟩ := h; cases h1; exact h2⟩
/-- on a reference that may be null -/
def mop {α : Type} (r : Option Nat) (a : Nat → Option α) (b : Option α) : Option α := match r with
  | none => b
  | some j => a j
theorem wpO_mop {α : Type} {r : Option Nat} {a : Nat → Option α} {b : Option α} {Q : α → Prop} : wpO (mop r a b) Q ↔ (∀ j, r = some j → wpO (a j) Q) ∧ (r = none → wpO b Q) := by
  cases r with
  | none => exact ⟨fun h => ⟨fun j e => (by cases e), fun _ => h⟩, fun h => h.2 rfl⟩
  | some j => exact ⟨fun h => ⟨fun k e => (by cases e; exact h), fun e => (by cases e)⟩, fun h => h.1 j rfl⟩
/-- a loop: its step gives a new state (inl) or ends (inr) -/
def whN {S R : Type} (f : S → Option (S ⊕ R)) : Nat → S → Option R
  | 0, _ => none
  | n + 1, s => match f s with
    | none => none
    | some (.inl s2) => whN f n s2
    | some (.inr r) => some r
theorem whN_step {S R : Type} {f : S → Option (S ⊕ R)} {n : Nat} {s : S} {r : R} (h : whN f n s = some r) : whN f (n + 1) s = some r := by
  induction n generalizing s with
  | zero => cases h
  | succ n ih =>
    unfold whN at h ⊢
    cases hf : f s with
    | none => rw [hf] at h; cases h
    | some x =>
      rw [hf] at h
      cases x with
      | inl s2 => exact ih h
      | inr q => exact h
theorem whN_le {S R : Type} {f : S → Option (S ⊕ R)} {n m : Nat} {s : S} {r : R} (h : whN f n s = some r) (hm : n ≤ m) : whN f m s = some r := by
  induction hm with
  | refl => exact h
  | step _ ih => exact whN_step ih
theorem whN_one {S R : Type} {f : S → Option (S ⊕ R)} {n m : Nat} {s : S} {a b : R} (h : whN f n s = some a) (h2 : whN f m s = some b) : a = b := by
  rcases Nat.le_total n m with q | q
  · exact Option.some.inj ((whN_le h q).symm.trans h2)
  · exact Option.some.inj (h.symm.trans (whN_le h2 q))
noncomputable def wh {S R : Type} (f : S → Option (S ⊕ R)) (s : S) : Option R :=
  @dite _ (∃ (r : R) (n : Nat), whN f n s = some r) (Classical.propDecidable _) (fun h => some (Classical.choose h)) (fun _ => none)
theorem wh_of {S R : Type} {f : S → Option (S ⊕ R)} {n : Nat} {s : S} {r : R} (h : whN f n s = some r) : wh f s = some r := by
  have hx : ∃ (r : R) (n : Nat), whN f n s = some r := ⟨r, n, h⟩
  unfold wh
  rw [dif_pos hx]
  obtain ⟨m, hm⟩ := Classical.choose_spec hx
  exact congrArg some (whN_one hm h)
theorem wh_to {S R : Type} {f : S → Option (S ⊕ R)} {s : S} {r : R} (h : wh f s = some r) : ∃ n, whN f n s = some r := by
  unfold wh at h
  by_cases hx : ∃ (r : R) (n : Nat), whN f n s = some r
  · rw [dif_pos hx] at h
    obtain ⟨m, hm⟩ := Classical.choose_spec hx
    exact ⟨m, by rw [hm]; exact h⟩
  · rw [dif_neg hx] at h; cases h
def onS {S R : Type} (P : S → Prop) (Q : R → Prop) : S ⊕ R → Prop
  | .inl s => P s
  | .inr r => Q r
/-- the machine's side of a loop -/
theorem wh_ind {S R : Type} {f : S → Option (S ⊕ R)} {Q : R → Prop} {P : S → Prop} (step : ∀ s, wpO (f s) (onS P Q) → P s) : ∀ s, wpO (wh f s) Q → P s := by
  rintro s ⟨r, h1, h2⟩
  obtain ⟨n, hn⟩ := wh_to h1
  clear h1
  induction n generalizing s with
  | zero => cases hn
  | succ n ih =>
    unfold whN at hn
    refine step s ?_
    cases hf : f s with
    | none => rw [hf] at hn; cases hn
    | some x =>
      rw [hf] at hn
      cases x with
      | inl s2 => exact ⟨_, rfl, ih s2 hn⟩
      | inr q => cases hn; exact ⟨_, rfl, h2⟩
/-- the reader's side of a loop: a measure that falls -/
theorem wh_use {S R : Type} {f : S → Option (S ⊕ R)} {Q : R → Prop} (I : S → Prop) (μ : S → Nat) (step : ∀ s, I s → wpO (f s) (onS (fun s2 => I s2 ∧ μ s2 < μ s) Q)) : ∀ s, I s → wpO (wh f s) Q := by
  have key : ∀ n s, I s → μ s < n → ∃ r, whN f n s = some r ∧ Q r := by
    intro n
    induction n with
    | zero => intro s _ h; exact absurd h (Nat.not_lt_zero _)
    | succ n ih =>
      intro s hs hn
      obtain ⟨x, hx, hq⟩ := step s hs
      cases x with
      | inl s2 =>
        obtain ⟨r, h1, h2⟩ := ih s2 hq.1 (by have := hq.2; omega)
        exact ⟨r, by unfold whN; rw [hx]; exact h1, h2⟩
      | inr r => exact ⟨r, by unfold whN; rw [hx], hq⟩
  intro s hs
  obtain ⟨r, h1, h2⟩ := key _ s hs (Nat.lt_succ_self _)
  exact ⟨r, wh_of h1, h2⟩
/-! the machine's numbers -/
theorem i32_toInt {z : Int} (h : inr z) : (Int32.ofInt z).toInt = z := by
  rw [Int32.toInt_ofInt]
  exact Int.bmod_eq_of_le (by show -((4294967296 : Int) / 2) ≤ z; omega) (by show z < ((4294967296 : Int) + 1) / 2; omega)
theorem i64_toInt {z : Int} (h : inq z) : (Int64.ofInt z).toInt = z := by
  rw [Int64.toInt_ofInt]
  exact Int.bmod_eq_of_le (by show -((18446744073709551616 : Int) / 2) ≤ z; omega) (by show z < ((18446744073709551616 : Int) + 1) / 2; omega)
theorem i32_lt {a b : Int} (ha : inr a) (hb : inr b) : Int32.ofInt a < Int32.ofInt b ↔ a < b := by
  rw [Int32.lt_iff_toInt_lt, i32_toInt ha, i32_toInt hb]
theorem i32_le {a b : Int} (ha : inr a) (hb : inr b) : Int32.ofInt a ≤ Int32.ofInt b ↔ a ≤ b := by
  rw [Int32.le_iff_toInt_le, i32_toInt ha, i32_toInt hb]
theorem i32_eq {a b : Int} (ha : inr a) (hb : inr b) : Int32.ofInt a = Int32.ofInt b ↔ a = b := by
  rw [← Int32.toInt_inj, i32_toInt ha, i32_toInt hb]
theorem i32_of (x : Int32) : Int32.ofInt x.toInt = x := Int32.ofInt_toInt x
theorem i32_inr (x : Int32) : inr x.toInt := by
  have h1 := Int32.le_toInt x
  have h2 := Int32.toInt_lt x
  constructor <;> omega
theorem i64_of (x : Int64) : Int64.ofInt x.toInt = x := Int64.ofInt_toInt x
theorem i64_inq (x : Int64) : inq x.toInt := by
  have h1 := Int64.le_toInt x
  have h2 := Int64.toInt_lt x
  constructor <;> omega
theorem i32_clamp {z : Int} (h : inr z) : (Int32.ofInt z).toNatClampNeg = z.toNat := by
  unfold Int32.toNatClampNeg
  rw [i32_toInt h]
theorem i32_in {z : Int} {n : Nat} (h : inr z) (h2 : 0 ≤ z ∧ z < (n : Int)) : vp_in (Int32.ofInt z) n := by
  rw [vp_in_iff, i32_toInt h]
  exact h2
/-- bit operations on ints and longs, as the machine has them -/
def iand (a b : Int) : Int := (Int32.ofInt a &&& Int32.ofInt b).toInt
def ior (a b : Int) : Int := (Int32.ofInt a ||| Int32.ofInt b).toInt
def ixor (a b : Int) : Int := (Int32.ofInt a ^^^ Int32.ofInt b).toInt
def ishl (a b : Int) : Int := (Int32.ofInt a <<< (Int32.ofInt b &&& 31)).toInt
def ishr (a b : Int) : Int := (Int32.ofInt a >>> (Int32.ofInt b &&& 31)).toInt
def iushr (a b : Int) : Int := ((Int32.ofInt a).toUInt32 >>> ((Int32.ofInt b).toUInt32 &&& Int32.toUInt32 31)).toInt32.toInt
def idiv (a b : Int) : Int := (Int32.ofInt a / Int32.ofInt b).toInt
def irem (a b : Int) : Int := (Int32.ofInt a - Int32.ofInt a / Int32.ofInt b * Int32.ofInt b).toInt
def jand (a b : Int) : Int := (Int64.ofInt a &&& Int64.ofInt b).toInt
def jor (a b : Int) : Int := (Int64.ofInt a ||| Int64.ofInt b).toInt
def jshl (a b : Int) : Int := (Int64.ofInt a <<< ((Int32.ofInt b).toInt64 &&& 63)).toInt
def jshr (a b : Int) : Int := (Int64.ofInt a >>> ((Int32.ofInt b).toInt64 &&& 63)).toInt
def jushr (a b : Int) : Int := ((Int64.ofInt a).toUInt64 >>> ((Int32.ofInt b).toInt64.toUInt64 &&& Int64.toUInt64 63)).toInt64.toInt
def jdiv (a b : Int) : Int := (Int64.ofInt a / Int64.ofInt b).toInt
def jrem (a b : Int) : Int := (Int64.ofInt a - Int64.ofInt a / Int64.ofInt b * Int64.ofInt b).toInt
def l2i (a : Int) : Int := (Int64.ofInt a).toInt32.toInt
def lcm_ (a b : Int) : Int := if b < a then 1 else if a = b then 0 else -1
theorem i32_ne0 {b : Int} (hb : inr b) (h : ¬ b = 0) : ¬ Int32.ofInt b = 0 := by
  intro q
  have : Int32.ofInt b = Int32.ofInt 0 := q
  exact h ((i32_eq hb ⟨by decide, by decide⟩).mp this)
theorem i64_ne0 {b : Int} (hb : inq b) (h : ¬ b = 0) : ¬ Int64.ofInt b = 0 := by
  intro q
  have h1 : Int64.ofInt b = Int64.ofInt 0 := q
  have h2 := congrArg Int64.toInt h1
  rw [i64_toInt hb, i64_toInt ⟨by decide, by decide⟩] at h2
  exact h h2
