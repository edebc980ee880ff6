/-! the library's max and min -/
def imax (a b : Int) : Int := if a < b then b else a
def imin (a b : Int) : Int := if b < a then b else a
def jmax (a b : Int) : Int := if b < a then a else b
theorem inr_imax {a b : Int} (ha : inr a) (hb : inr b) : inr (imax a b) := by
  unfold imax; split <;> assumption
theorem inr_imin {a b : Int} (ha : inr a) (hb : inr b) : inr (imin a b) := by
  unfold imin; split <;> assumption
theorem inq_jmax {a b : Int} (ha : inq a) (hb : inq b) : inq (jmax a b) := by
  unfold jmax; split <;> assumption
theorem math_max_code : Lib.Math.max.code = cJ9_max_7cf53 := by decide +kernel
theorem math_min_code : Lib.Math.min.code = cJ9_min_7cf53 := by decide +kernel
theorem math_maxl_code : Lib.MathLoose.max_long.code = cJ9_max_f86c9 := by decide +kernel
section MATH
variable {κ : Cxt} {own : String} {cc : ByteArray} {nL d pc i : Nat} {ret : Option FieldType} {cs : Nat × Nat} {Q : State → Prop} {lv : List (Nat × Value)} {st stk : List Value} {ad : Nat → Nat → Nat} {σ : St}
theorem z_mmax {a b : Int} (C : Cx κ own cc nL ret d) (hL : Cond.methodLink own i yJ9_max_7cf53 ∈ lw_u) (hc : Cond.code yJ9_max_7cf53 cJ9_max_7cf53 2 (some .int) ∈ lw_u) (hini : Cond.initialized RJ9 ∈ lw_u) (hV : Cond.static yJ9_max_7cf53 ∈ lw_u) (ha : inr a) (hb1 : inr b) (hd1 : 1 ≤ d) (hst : (st.map fun v => v.category).sum ≤ 8) (hcs : csOK κ cs) (hd : decode cc pc = .ok (.invokestatic i, 3)) (k : Z κ cs Q (pc + 3) lv (vi (imax a b) :: st) ad σ) : Z κ cs Q pc lv (vi b :: vi a :: st) ad σ := by
  obtain ⟨p, l, e, R, s, m, args, below, meth, c, D, cA, lo, sb⟩ := κ
  obtain ⟨hx, hb, hml, hown, hts, hlk, hK, hr, hR, hlo, hSA⟩ := C
  intro H locs ls hl hW hS
  have hz := k H locs ls hl hW hS
  refine va_mmax hx hb hl.1.symm hown (hts _ hL) (hts _ hV) (hts _ hini) (by rw [math_max_code]; exact hts _ hc) (Nat.le_trans hd1 hR.1) (by have := hR.2; omega) hcs.1 hcs.2 hd ?_
  have e1 : (if Int32.ofInt a < Int32.ofInt b then Int32.ofInt b else Int32.ofInt a) = Int32.ofInt (imax a b) := by
    unfold imax
    by_cases q : a < b
    · rw [if_pos q, if_pos ((i32_lt ha hb1).mpr q)]
    · rw [if_neg q, if_neg (fun z => q ((i32_lt ha hb1).mp z))]
  rw [e1]; exact hz
theorem z_mmin {a b : Int} (C : Cx κ own cc nL ret d) (hL : Cond.methodLink own i yJ9_min_7cf53 ∈ lw_u) (hc : Cond.code yJ9_min_7cf53 cJ9_min_7cf53 2 (some .int) ∈ lw_u) (hini : Cond.initialized RJ9 ∈ lw_u) (hV : Cond.static yJ9_min_7cf53 ∈ lw_u) (ha : inr a) (hb1 : inr b) (hd1 : 1 ≤ d) (hst : (st.map fun v => v.category).sum ≤ 8) (hcs : csOK κ cs) (hd : decode cc pc = .ok (.invokestatic i, 3)) (k : Z κ cs Q (pc + 3) lv (vi (imin a b) :: st) ad σ) : Z κ cs Q pc lv (vi b :: vi a :: st) ad σ := by
  obtain ⟨p, l, e, R, s, m, args, below, meth, c, D, cA, lo, sb⟩ := κ
  obtain ⟨hx, hb, hml, hown, hts, hlk, hK, hr, hR, hlo, hSA⟩ := C
  intro H locs ls hl hW hS
  have hz := k H locs ls hl hW hS
  refine va_mmin hx hb hl.1.symm hown (hts _ hL) (hts _ hV) (hts _ hini) (by rw [math_min_code]; exact hts _ hc) (Nat.le_trans hd1 hR.1) (by have := hR.2; omega) hcs.1 hcs.2 hd ?_
  have e1 : (if Int32.ofInt b < Int32.ofInt a then Int32.ofInt b else Int32.ofInt a) = Int32.ofInt (imin a b) := by
    unfold imin
    by_cases q : b < a
    · rw [if_pos q, if_pos ((i32_lt hb1 ha).mpr q)]
    · rw [if_neg q, if_neg (fun z => q ((i32_lt hb1 ha).mp z))]
  rw [e1]; exact hz
theorem z_jmax {a b : Int} (C : Cx κ own cc nL ret d) (hL : Cond.methodLink own i yJ9_max_f86c9 ∈ lw_u) (hc : Cond.code yJ9_max_f86c9 cJ9_max_f86c9 4 (some .long) ∈ lw_u) (hini : Cond.initialized RJ9 ∈ lw_u) (hV : Cond.static yJ9_max_f86c9 ∈ lw_u) (ha : inq a) (hb1 : inq b) (hd1 : 1 ≤ d) (hst : (st.map fun v => v.category).sum ≤ 8) (hcs : csOK κ cs) (hd : decode cc pc = .ok (.invokestatic i, 3)) (k : Z κ cs Q (pc + 3) lv (vj (jmax a b) :: st) ad σ) : Z κ cs Q pc lv (vj b :: vj a :: st) ad σ := by
  obtain ⟨p, l, e, R, s, m, args, below, meth, c, D, cA, lo, sb⟩ := κ
  obtain ⟨hx, hb, hml, hown, hts, hlk, hK, hr, hR, hlo, hSA⟩ := C
  intro H locs ls hl hW hS
  have hz := k H locs ls hl hW hS
  refine va_mmax_long hx hb hl.1.symm hown (hts _ hL) (hts _ hV) (hts _ hini) (by rw [math_maxl_code]; exact hts _ hc) (Nat.le_trans hd1 hR.1) (by have := hR.2; omega) hcs.1 hcs.2 hd ?_
  have e1 : (if Int64.ofInt b < Int64.ofInt a then Int64.ofInt a else Int64.ofInt b) = Int64.ofInt (jmax a b) := by
    unfold jmax
    have q1 : Int64.ofInt b < Int64.ofInt a ↔ b < a := by rw [Int64.lt_iff_toInt_lt, i64_toInt ha, i64_toInt hb1]
    by_cases q : b < a
    · rw [if_pos q, if_pos (q1.mpr q)]
    · rw [if_neg q, if_neg (fun z => q (q1.mp z))]
  rw [e1]; exact hz
end MATH
theorem vo_cat {ad : Nat → Nat → Nat} {K : Nat} {r : Option Nat} : (vo ad K r).category = 1 := by cases r <;> rfl
