/-! the network of halls and weeks; its best flow is the best plan -/
def stH (fre : Nat → Bool) (cn : Nat → Nat) : Nat → Nat
  | 0 => 9
  | h + 1 => if fre h = true then stH fre cn h + 1 + cn h else stH fre cn h
theorem st_mono {fre : Nat → Bool} {cn : Nat → Nat} (h k : Nat) : stH fre cn h ≤ stH fre cn (h + k) := by
  induction k with
  | zero => exact Nat.le_refl _
  | succ k ih =>
    refine Nat.le_trans ih ?_
    show stH fre cn (h + k) ≤ if fre (h + k) = true then stH fre cn (h + k) + 1 + cn (h + k) else stH fre cn (h + k)
    split <;> omega
theorem st_bd {fre : Nat → Bool} {cn : Nat → Nat} : ∀ n, (∀ h, h < n → cn h ≤ 9) → stH fre cn n ≤ 9 + 10 * n := by
  intro n
  induction n with
  | zero => intro _; exact Nat.le_refl _
  | succ n ih =>
    intro hc
    have h1 := ih (fun h hh => hc h (by omega))
    have h2 := hc n (by omega)
    show (if fre n = true then stH fre cn n + 1 + cn n else stH fre cn n) ≤ _
    split <;> omega
theorem st_sum {fre : Nat → Bool} {cn : Nat → Nat} {G : Nat → Int} : ∀ n, sumN G (stH fre cn n) = sumN G 9 + sumN (fun h => if fre h = true then G (stH fre cn h) + sumN (fun j => G (stH fre cn h + 1 + j)) (cn h) else 0) n := by
  intro n
  induction n with
  | zero => show sumN G 9 = sumN G 9 + 0; omega
  | succ n ih =>
    show sumN G (if fre n = true then stH fre cn n + 1 + cn n else stH fre cn n) = sumN G 9 + (sumN (fun h => if fre h = true then G (stH fre cn h) + sumN (fun j => G (stH fre cn h + 1 + j)) (cn h) else 0) n + (if fre n = true then G (stH fre cn n) + sumN (fun j => G (stH fre cn n + 1 + j)) (cn n) else 0))
    by_cases c : fre n = true
    · rw [if_pos c, if_pos c, sumN_split, show sumN G (stH fre cn n + 1) = sumN G (stH fre cn n) + G (stH fre cn n) from rfl, ih]; omega
    · rw [if_neg c, if_neg c, ih]; omega
theorem st_cov {fre : Nat → Bool} {cn : Nat → Nat} : ∀ n k, k < stH fre cn n → k < 9 ∨ ∃ h, h < n ∧ fre h = true ∧ (k = stH fre cn h ∨ ∃ j, j < cn h ∧ k = stH fre cn h + 1 + j) := by
  intro n
  induction n with
  | zero => intro k hk; exact .inl hk
  | succ n ih =>
    intro k hk
    have hk : k < if fre n = true then stH fre cn n + 1 + cn n else stH fre cn n := hk
    by_cases q : k < stH fre cn n
    · rcases ih k q with z | ⟨h, z1, z2⟩
      · exact .inl z
      · exact .inr ⟨h, by omega, z2⟩
    · by_cases c : fre n = true
      · rw [if_pos c] at hk
        refine .inr ⟨n, by omega, c, ?_⟩
        by_cases z : k = stH fre cn n
        · exact .inl z
        · exact .inr ⟨k - (stH fre cn n + 1), by omega, by omega⟩
      · rw [if_neg c] at hk
        exact absurd hk q
def LD (U V : Nat → Nat) (P cap : Nat → Int) (n : Nat) (fre : Nat → Bool) (fr cn : Nat → Nat) (ea : Nat → Nat → Int) (cpw : Nat → Int) : Prop := (∀ w, w < 9 → U (2 * w) = 10 + w ∧ V (2 * w) = 1 ∧ P (2 * w) = 0 ∧ cap w = cpw w) ∧ ∀ h, h < n → fre h = true → (U (2 * stH fre cn h) = 0 ∧ V (2 * stH fre cn h) = 2 + h ∧ P (2 * stH fre cn h) = 0 ∧ cap (stH fre cn h) = 1) ∧ ∀ j, j < cn h → U (2 * (stH fre cn h + 1 + j)) = 2 + h ∧ V (2 * (stH fre cn h + 1 + j)) = 10 + (fr h + j) ∧ P (2 * (stH fre cn h + 1 + j)) = - ea h (fr h + j) ∧ cap (stH fre cn h + 1 + j) = 1
def REP (fre : Nat → Bool) (fr cn : Nat → Nat) (f : Nat → Int) (a : Nat → Nat) (h : Nat) : Prop := ∀ Y : Nat → Int, sumN (fun j => f (stH fre cn h + 1 + j) * Y (fr h + j)) (cn h) = if a h = 9 then 0 else Y (a h)
theorem sum_rep {n : Nat} {fre : Nat → Bool} {fr cn : Nat → Nat} {f X xw xs : Nat → Int} {xe : Nat → Nat → Int} {a : Nat → Nat} (hr : ∀ h, h < n → fre h = true → REP fre fr cn f a h) (h1 : ∀ w, w < 9 → X w = xw w) (h2 : ∀ h, h < n → fre h = true → X (stH fre cn h) = xs h ∧ ∀ j, j < cn h → X (stH fre cn h + 1 + j) = xe h (fr h + j)) : sumN (fun k => f k * X k) (stH fre cn n) = sumN (fun w => f w * xw w) 9 + sumN (fun h => if fre h = true then f (stH fre cn h) * xs h + (if a h = 9 then 0 else xe h (a h)) else 0) n := by
  rw [st_sum]
  congr 1
  · exact sumN_c 9 (fun w hw => by show f w * X w = f w * xw w; rw [h1 w hw])
  · refine sumN_c n (fun h hh => ?_)
    show (if fre h = true then f (stH fre cn h) * X (stH fre cn h) + sumN (fun j => f (stH fre cn h + 1 + j) * X (stH fre cn h + 1 + j)) (cn h) else 0) = _
    by_cases c : fre h = true
    · rw [if_pos c, if_pos c, (h2 h hh c).1, ← hr h hh c (xe h)]
      congr 1
      exact sumN_c _ (fun j hj => by show f (stH fre cn h + 1 + j) * X (stH fre cn h + 1 + j) = _; rw [(h2 h hh c).2 j hj])
    · rw [if_neg c, if_neg c]
def cwn (n : Nat) (fre : Nat → Bool) (a : Nat → Nat) (w : Nat) : Int := sumN (fun h => if fre h = true ∧ a h = w then 1 else 0) n
def gnA (n : Nat) (fre : Nat → Bool) (ea : Nat → Nat → Int) (a : Nat → Nat) : Int := sumN (fun h => if fre h = true then (if a h = 9 then 0 else ea h (a h)) else 0) n
def FA (n : Nat) (fre : Nat → Bool) (fr cn : Nat → Nat) (cpw : Nat → Int) (a : Nat → Nat) : Prop := (∀ h, h < n → fre h = true → a h = 9 ∨ (fr h ≤ a h ∧ a h < fr h + cn h)) ∧ ∀ w, w < 9 → cwn n fre a w ≤ cpw w
def gA (n : Nat) (fre : Nat → Bool) (U V : Nat → Nat) (a : Nat → Nat) (k : Nat) : Int := if V (2 * k) = 1 then cwn n fre a (U (2 * k) - 10) else if U (2 * k) = 0 then (if a (V (2 * k) - 2) = 9 then 0 else 1) else (if a (U (2 * k) - 2) = V (2 * k) - 10 then 1 else 0)
theorem price_rep {U V : Nat → Nat} {P cap : Nat → Int} {n : Nat} {fre : Nat → Bool} {fr cn : Nat → Nat} {ea : Nat → Nat → Int} {cpw f : Nat → Int} {a : Nat → Nat} (hD : LD U V P cap n fre fr cn ea cpw) (hr : ∀ h, h < n → fre h = true → REP fre fr cn f a h) : sumN (fun k => f k * P (2 * k)) (stH fre cn n) = - gnA n fre ea a := by
  rw [sum_rep (X := fun k => P (2 * k)) (xw := fun _ => 0) (xs := fun _ => 0) (xe := fun h w => - ea h w) hr (fun w hw => (hD.1 w hw).2.2.1) (fun h hh c => ⟨(hD.2 h hh c).1.2.2.1, fun j hj => ((hD.2 h hh c).2 j hj).2.2.1⟩)]
  unfold gnA
  rw [← sumN_neg, sumN_0 (f := fun w => f w * 0) 9 (fun w _ => Int.mul_zero _), Int.zero_add]
  refine sumN_c n (fun h _ => ?_)
  show (if fre h = true then f (stH fre cn h) * 0 + (if a h = 9 then 0 else - ea h (a h)) else 0) = - (if fre h = true then (if a h = 9 then 0 else ea h (a h)) else 0)
  rw [Int.mul_zero]
  repeat' split
  all_goals omega
theorem gA_at {U V : Nat → Nat} {P cap : Nat → Int} {n : Nat} {fre : Nat → Bool} {fr cn : Nat → Nat} {ea : Nat → Nat → Int} {cpw : Nat → Int} {a : Nat → Nat} (hD : LD U V P cap n fre fr cn ea cpw) : (∀ w, w < 9 → gA n fre U V a w = cwn n fre a w) ∧ ∀ h, h < n → fre h = true → gA n fre U V a (stH fre cn h) = (if a h = 9 then 0 else 1) ∧ ∀ j, j < cn h → gA n fre U V a (stH fre cn h + 1 + j) = if a h = fr h + j then 1 else 0 := by
  refine ⟨fun w hw => ?_, fun h hh c => ⟨?_, fun j hj => ?_⟩⟩
  · obtain ⟨e1, e2, -, -⟩ := hD.1 w hw
    unfold gA
    rw [e2, e1, if_pos rfl, Nat.add_sub_cancel_left]
  · obtain ⟨e1, e2, -, -⟩ := (hD.2 h hh c).1
    unfold gA
    rw [e2, e1, if_neg (by omega), if_pos rfl, Nat.add_sub_cancel_left]
  · obtain ⟨e1, e2, -, -⟩ := (hD.2 h hh c).2 j hj
    unfold gA
    rw [e2, e1, if_neg (by omega), if_neg (by omega), Nat.add_sub_cancel_left, Nat.add_sub_cancel_left]
theorem gA_rep {U V : Nat → Nat} {P cap : Nat → Int} {n : Nat} {fre : Nat → Bool} {fr cn : Nat → Nat} {ea : Nat → Nat → Int} {cpw : Nat → Int} {a : Nat → Nat} (hD : LD U V P cap n fre fr cn ea cpw) (h9 : ∀ h, h < n → fr h + cn h ≤ 9) (hA : FA n fre fr cn cpw a) : ∀ h, h < n → fre h = true → REP fre fr cn (gA n fre U V a) a h := by
  intro h hh c Y
  have hg := ((gA_at (a := a) hD).2 h hh c).2
  have e : sumN (fun j => gA n fre U V a (stH fre cn h + 1 + j) * Y (fr h + j)) (cn h) = sumN (fun j => if a h = fr h + j then Y (fr h + j) else 0) (cn h) := by
    refine sumN_c _ (fun j hj => ?_)
    show gA n fre U V a (stH fre cn h + 1 + j) * Y (fr h + j) = if a h = fr h + j then Y (fr h + j) else 0
    rw [hg j hj]
    by_cases z : a h = fr h + j
    · rw [if_pos z, if_pos z, Int.one_mul]
    · rw [if_neg z, if_neg z, Int.zero_mul]
  rw [e, sumN_pick]
  have b1 := h9 h hh
  have b2 := hA.1 h hh c
  by_cases z : a h = 9
  · rw [if_pos z, if_neg (by omega)]
  · rw [if_neg z, if_pos (by omega)]
theorem cons_rep {U V : Nat → Nat} {P cap : Nat → Int} {n : Nat} {fre : Nat → Bool} {fr cn : Nat → Nat} {ea : Nat → Nat → Int} {cpw f φ : Nat → Int} {a : Nat → Nat} (hD : LD U V P cap n fre fr cn ea cpw) (hr : ∀ h, h < n → fre h = true → REP fre fr cn f a h) : sumN (fun k => f k * (φ (V (2 * k)) - φ (U (2 * k)))) (stH fre cn n) = sumN (fun w => f w * (φ 1 - φ (10 + w))) 9 + sumN (fun h => if fre h = true then f (stH fre cn h) * (φ (2 + h) - φ 0) + (if a h = 9 then 0 else φ (10 + a h) - φ (2 + h)) else 0) n := by
  refine sum_rep (X := fun k => φ (V (2 * k)) - φ (U (2 * k))) (xw := fun w => φ 1 - φ (10 + w)) (xs := fun h => φ (2 + h) - φ 0) (xe := fun h w => φ (10 + w) - φ (2 + h)) hr (fun w hw => ?_) (fun h hh c => ⟨?_, fun j hj => ?_⟩)
  · obtain ⟨e1, e2, -, -⟩ := hD.1 w hw
    show φ (V (2 * w)) - φ (U (2 * w)) = _
    rw [e1, e2]
  · obtain ⟨e1, e2, -, -⟩ := (hD.2 h hh c).1
    show φ (V (2 * stH fre cn h)) - φ (U (2 * stH fre cn h)) = _
    rw [e1, e2]
  · obtain ⟨e1, e2, -, -⟩ := (hD.2 h hh c).2 j hj
    show φ (V (2 * (stH fre cn h + 1 + j))) - φ (U (2 * (stH fre cn h + 1 + j))) = _
    rw [e1, e2]
theorem cw_sum {n : Nat} {fre : Nat → Bool} {a : Nat → Nat} {ψ : Nat → Int} (ha : ∀ h, h < n → fre h = true → a h ≤ 9) : sumN (fun w => cwn n fre a w * ψ w) 9 = sumN (fun h => if fre h = true then (if a h = 9 then 0 else ψ (a h)) else 0) n := by
  have e1 : sumN (fun w => cwn n fre a w * ψ w) 9 = sumN (fun w => sumN (fun h => (if fre h = true ∧ a h = w then 1 else 0) * ψ w) n) 9 := by
    refine sumN_c 9 (fun w _ => ?_)
    show cwn n fre a w * ψ w = sumN (fun h => (if fre h = true ∧ a h = w then 1 else 0) * ψ w) n
    rw [sumN_mul]; rfl
  rw [e1, sumN_comm]
  refine sumN_c n (fun h hh => ?_)
  show sumN (fun w => (if fre h = true ∧ a h = w then 1 else 0) * ψ w) 9 = _
  by_cases c : fre h = true
  · have b := ha h hh c
    have e2 : sumN (fun w => (if fre h = true ∧ a h = w then 1 else 0) * ψ w) 9 = sumN (fun j => if a h = 0 + j then ψ (0 + j) else 0) 9 := by
      refine sumN_c 9 (fun w _ => ?_)
      show (if fre h = true ∧ a h = w then 1 else 0) * ψ w = if a h = 0 + w then ψ (0 + w) else 0
      rw [Nat.zero_add]
      by_cases z : a h = w
      · rw [if_pos ⟨c, z⟩, if_pos z, Int.one_mul]
      · rw [if_neg (fun q => z q.2), if_neg z, Int.zero_mul]
    rw [e2, sumN_pick, if_pos c]
    by_cases z : a h = 9
    · rw [if_pos z, if_neg (by omega)]
    · rw [if_neg z, if_pos (by omega)]
  · rw [if_neg c]
    exact sumN_0 9 (fun w _ => by show (if fre h = true ∧ a h = w then 1 else 0) * ψ w = 0; rw [if_neg (fun q => c q.1), Int.zero_mul])
theorem cwn_nn {n : Nat} {fre : Nat → Bool} {a : Nat → Nat} {w : Nat} : 0 ≤ cwn n fre a w ∧ cwn n fre a w ≤ n := by
  unfold cwn
  have := sumN_bd2 (g := fun h => if fre h = true ∧ a h = w then 1 else 0) (lo := 0) (hi := 1) n (fun h _ => by
    show (0 : Int) ≤ (if fre h = true ∧ a h = w then 1 else 0) ∧ (if fre h = true ∧ a h = w then (1 : Int) else 0) ≤ 1
    split <;> omega)
  omega
theorem plan_best {U V : Nat → Nat} {P cap : Nat → Int} {n : Nat} {fre : Nat → Bool} {fr cn : Nat → Nat} {ea : Nat → Nat → Int} {cpw R π : Nat → Int} {val : Int} (hG : GR U V P (stH fre cn n)) (hD : LD U V P cap n fre fr cn ea cpw) (h9 : ∀ h, h < n → fr h + cn h ≤ 9) (hR : ∀ e, e < 2 * stH fre cn n → 0 ≤ R e) (hs : ∀ j, j < stH fre cn n → R (2 * j) + R (2 * j + 1) = cap j) (hv : ∀ φ, sF U V (stH fre cn n) R φ = val * (φ 1 - φ 0)) (hP : PV U V P (stH fre cn n) R π) (h0 : π 0 = 0) (h1 : π 1 = 0) {a : Nat → Nat} (hA : FA n fre fr cn cpw a) : gnA n fre ea a ≤ - sP_ P (stH fre cn n) R := by
  have hrep := gA_rep hD h9 hA
  have hp := price_rep hD hrep
  obtain ⟨t1, t2⟩ := gA_at (a := a) hD
  have hle : ∀ h, h < n → fre h = true → a h ≤ 9 := fun h hh c => by
    have b1 := h9 h hh
    have b2 := hA.1 h hh c
    omega
  have hd := dual (g := gA n fre U V a) (valg := sumN (fun h => if fre h = true then (if a h = 9 then 0 else 1) else 0) n) hG hR hs hv hP h0 h1 (fun k hk => by
    rcases st_cov n k hk with z | ⟨h, z1, z2, z3 | ⟨j, z3, z4⟩⟩
    · rw [t1 k z, (hD.1 k z).2.2.2]
      exact ⟨cwn_nn.1, hA.2 k z⟩
    · rw [z3, (t2 h z1 z2).1, (hD.2 h z1 z2).1.2.2.2]
      split <;> omega
    · rw [z4, (t2 h z1 z2).2 j z3, ((hD.2 h z1 z2).2 j z3).2.2.2]
      split <;> omega) (fun φ => by
    rw [cons_rep hD hrep, sumN_c (g := fun w => gA n fre U V a w * (φ 1 - φ (10 + w))) (g2 := fun w => cwn n fre a w * (φ 1 - φ (10 + w))) 9 (fun w hw => by
      show gA n fre U V a w * (φ 1 - φ (10 + w)) = cwn n fre a w * (φ 1 - φ (10 + w))
      rw [t1 w hw]), cw_sum (ψ := fun w => φ 1 - φ (10 + w)) hle, ← sumN_add, ← sumN_mul]
    refine sumN_c n (fun h hh => ?_)
    show (if fre h = true then (if a h = 9 then 0 else φ 1 - φ (10 + a h)) else 0) + (if fre h = true then gA n fre U V a (stH fre cn h) * (φ (2 + h) - φ 0) + (if a h = 9 then 0 else φ (10 + a h) - φ (2 + h)) else 0) = (if fre h = true then (if a h = 9 then 0 else 1) else 0) * (φ 1 - φ 0)
    by_cases c : fre h = true
    · rw [if_pos c, if_pos c, if_pos c, (t2 h hh c).1]
      by_cases z : a h = 9
      · rw [if_pos z, if_pos z, if_pos z, Int.zero_mul, Int.zero_mul]; rfl
      · rw [if_neg z, if_neg z, if_neg z, Int.one_mul, Int.one_mul]; omega
    · rw [if_neg c, if_neg c, if_neg c, Int.zero_mul]; rfl)
  omega
theorem sumN_only {f : Nat → Int} {n m : Nat} (hm : m < n) (h : ∀ i, i < n → i ≠ m → f i = 0) : sumN f n = f m := by
  have := sumN_upd (g := fun _ => 0) (g2 := f) (x := f m) (m := m) n hm (by show f m = 0 + f m; omega) h
  rw [sumN_0 (f := fun _ => 0) n (fun _ _ => rfl)] at this
  omega
theorem plan_of {U V : Nat → Nat} {P cap : Nat → Int} {n : Nat} {fre : Nat → Bool} {fr cn : Nat → Nat} {ea : Nat → Nat → Int} {cpw R : Nat → Int} {val : Int} (hn : n ≤ 8) (hD : LD U V P cap n fre fr cn ea cpw) (h9 : ∀ h, h < n → fr h + cn h ≤ 9) (hR : ∀ e, e < 2 * stH fre cn n → 0 ≤ R e) (hs : ∀ j, j < stH fre cn n → R (2 * j) + R (2 * j + 1) = cap j) (hv : ∀ φ, sF U V (stH fre cn n) R φ = val * (φ 1 - φ 0)) : ∃ a, FA n fre fr cn cpw a ∧ gnA n fre ea a = - sP_ P (stH fre cn n) R := by
  have hlt : ∀ h, h < n → fre h = true → stH fre cn h + 1 + cn h ≤ stH fre cn n := by
    intro h hh c
    have := st_mono (fre := fre) (cn := cn) (h + 1) (n - (h + 1))
    rw [show h + 1 + (n - (h + 1)) = n by omega] at this
    have e : stH fre cn (h + 1) = stH fre cn h + 1 + cn h := if_pos c
    omega
  have h9n : 9 ≤ stH fre cn n := by
    have := st_mono (fre := fre) (cn := cn) 0 n
    rw [Nat.zero_add] at this
    exact this
  have hall : ∀ h, h < n → fre h = true → sumN (fun j => R (2 * (stH fre cn h + 1 + j) + 1)) (cn h) = R (2 * stH fre cn h + 1) := by
    intro h hh c
    have e := hv (fun x => if x = 2 + h then 1 else 0)
    unfold sF at e
    rw [st_sum] at e
    have z1 : sumN (fun k => R (2 * k + 1) * ((if V (2 * k) = 2 + h then (1 : Int) else 0) - (if U (2 * k) = 2 + h then 1 else 0))) 9 = 0 := by
      refine sumN_0 9 (fun w hw => ?_)
      obtain ⟨e1, e2, -, -⟩ := hD.1 w hw
      show R (2 * w + 1) * ((if V (2 * w) = 2 + h then (1 : Int) else 0) - (if U (2 * w) = 2 + h then 1 else 0)) = 0
      rw [e1, e2, if_neg (by omega)]
      by_cases q : 10 + w = 2 + h
      · exfalso; omega
      · rw [if_neg q]; exact Int.mul_zero _
    rw [z1, sumN_only (m := h) hh (fun i hi hne => by
      show (if fre i = true then R (2 * stH fre cn i + 1) * ((if V (2 * stH fre cn i) = 2 + h then (1 : Int) else 0) - (if U (2 * stH fre cn i) = 2 + h then 1 else 0)) + sumN (fun j => R (2 * (stH fre cn i + 1 + j) + 1) * ((if V (2 * (stH fre cn i + 1 + j)) = 2 + h then (1 : Int) else 0) - (if U (2 * (stH fre cn i + 1 + j)) = 2 + h then 1 else 0))) (cn i) else 0) = 0
      by_cases ci : fre i = true
      · obtain ⟨⟨e1, e2, -, -⟩, e5⟩ := hD.2 i hi ci
        rw [if_pos ci, e1, e2, if_neg (show ¬ (2 + i = 2 + h) by omega), if_neg (show ¬ (0 = 2 + h) by omega), Int.sub_self, Int.mul_zero, Int.zero_add]
        refine sumN_0 _ (fun j hj => ?_)
        obtain ⟨f1, f2, -, -⟩ := e5 j hj
        show R (2 * (stH fre cn i + 1 + j) + 1) * ((if V (2 * (stH fre cn i + 1 + j)) = 2 + h then (1 : Int) else 0) - (if U (2 * (stH fre cn i + 1 + j)) = 2 + h then 1 else 0)) = 0
        rw [f1, f2, if_neg (show ¬ (10 + (fr i + j) = 2 + h) by omega), if_neg (show ¬ (2 + i = 2 + h) by omega), Int.sub_self, Int.mul_zero]
      · rw [if_neg ci])] at e
    obtain ⟨⟨e1, e2, -, -⟩, e5⟩ := hD.2 h hh c
    have z2 : sumN (fun j => R (2 * (stH fre cn h + 1 + j) + 1) * ((if V (2 * (stH fre cn h + 1 + j)) = 2 + h then (1 : Int) else 0) - (if U (2 * (stH fre cn h + 1 + j)) = 2 + h then 1 else 0))) (cn h) = - sumN (fun j => R (2 * (stH fre cn h + 1 + j) + 1)) (cn h) := by
      rw [← sumN_neg]
      refine sumN_c _ (fun j hj => ?_)
      obtain ⟨f1, f2, -, -⟩ := e5 j hj
      show R (2 * (stH fre cn h + 1 + j) + 1) * ((if V (2 * (stH fre cn h + 1 + j)) = 2 + h then (1 : Int) else 0) - (if U (2 * (stH fre cn h + 1 + j)) = 2 + h then 1 else 0)) = - R (2 * (stH fre cn h + 1 + j) + 1)
      rw [f1, f2, if_neg (show ¬ (10 + (fr h + j) = 2 + h) by omega), if_pos rfl, Int.mul_sub]; omega
    rw [if_pos c, z2, e1, e2] at e
    have e : 0 + (R (2 * stH fre cn h + 1) * ((if 2 + h = 2 + h then (1 : Int) else 0) - (if 0 = 2 + h then 1 else 0)) + - sumN (fun j => R (2 * (stH fre cn h + 1 + j) + 1)) (cn h)) = val * ((if 1 = 2 + h then (1 : Int) else 0) - if 0 = 2 + h then 1 else 0) := e
    rw [if_pos rfl, if_neg (show ¬ (0 = 2 + h) by omega), if_neg (show ¬ (1 = 2 + h) by omega), Int.sub_self, Int.mul_zero, Int.sub_zero, Int.mul_one] at e
    omega
  have ex : ∀ h, ∃ x, h < n → fre h = true → (x = 9 ∨ (fr h ≤ x ∧ x < fr h + cn h)) ∧ ∀ Y : Nat → Int, sumN (fun j => R (2 * (stH fre cn h + 1 + j) + 1) * Y (fr h + j)) (cn h) = if x = 9 then 0 else Y x := by
    intro h
    by_cases hh : h < n
    · by_cases c : fre h = true
      · have hl := hlt h hh c
        have b1 := hall h hh c
        have b2 := hs (stH fre cn h) (by omega)
        rw [(hD.2 h hh c).1.2.2.2] at b2
        have b3 := hR (2 * stH fre cn h) (by omega)
        have b9 := h9 h hh
        rcases sumN_one (f := fun j => R (2 * (stH fre cn h + 1 + j) + 1)) (cn h) (fun j hj => hR _ (by omega)) (by rw [b1]; omega) with q | ⟨j, q1, q2, q3⟩
        · refine ⟨9, fun _ _ => ⟨.inl rfl, fun Y => ?_⟩⟩
          rw [if_pos rfl]
          refine sumN_0 _ (fun j hj => ?_)
          have : R (2 * (stH fre cn h + 1 + j) + 1) = 0 := q j hj
          show R (2 * (stH fre cn h + 1 + j) + 1) * Y (fr h + j) = 0
          rw [this, Int.zero_mul]
        · refine ⟨fr h + j, fun _ _ => ⟨.inr ⟨by omega, by omega⟩, fun Y => ?_⟩⟩
          rw [if_neg (by omega), sumN_only (m := j) q1 (fun i hi hne => by
            have : R (2 * (stH fre cn h + 1 + i) + 1) = 0 := q3 i hi hne
            show R (2 * (stH fre cn h + 1 + i) + 1) * Y (fr h + i) = 0
            rw [this, Int.zero_mul])]
          have : R (2 * (stH fre cn h + 1 + j) + 1) = 1 := q2
          rw [this, Int.one_mul]
      · exact ⟨0, fun _ q => absurd q c⟩
    · exact ⟨0, fun q => absurd q hh⟩
  obtain ⟨a, ha⟩ := Classical.axiomOfChoice ex
  have hr : ∀ h, h < n → fre h = true → REP fre fr cn (fun k => R (2 * k + 1)) a h := fun h hh c Y => (ha h hh c).2 Y
  refine ⟨a, ⟨fun h hh c => (ha h hh c).1, fun w hw => ?_⟩, ?_⟩
  · have e := hv (fun x => if x = 10 + w then 1 else 0)
    unfold sF at e
    rw [cons_rep (f := fun k => R (2 * k + 1)) (φ := fun x => if x = 10 + w then 1 else 0) hD hr, sumN_only (m := w) hw (fun i hi hne => by
      show R (2 * i + 1) * ((if 1 = 10 + w then (1 : Int) else 0) - (if 10 + i = 10 + w then 1 else 0)) = 0
      rw [if_neg (show ¬ (1 = 10 + w) by omega), if_neg (show ¬ (10 + i = 10 + w) by omega), Int.sub_self, Int.mul_zero])] at e
    have z : sumN (fun h => if fre h = true then R (2 * stH fre cn h + 1) * ((if 2 + h = 10 + w then (1 : Int) else 0) - (if 0 = 10 + w then 1 else 0)) + (if a h = 9 then 0 else (if 10 + a h = 10 + w then (1 : Int) else 0) - (if 2 + h = 10 + w then 1 else 0)) else 0) n = cwn n fre a w := by
      refine sumN_c n (fun h hh => ?_)
      show (if fre h = true then R (2 * stH fre cn h + 1) * ((if 2 + h = 10 + w then (1 : Int) else 0) - (if 0 = 10 + w then 1 else 0)) + (if a h = 9 then 0 else (if 10 + a h = 10 + w then (1 : Int) else 0) - (if 2 + h = 10 + w then 1 else 0)) else 0) = if fre h = true ∧ a h = w then 1 else 0
      by_cases c : fre h = true
      · rw [if_pos c, if_neg (show ¬ (2 + h = 10 + w) by omega), if_neg (show ¬ (0 = 10 + w) by omega), Int.sub_self, Int.mul_zero, Int.zero_add, Int.sub_zero]
        by_cases q : a h = w
        · rw [if_neg (by omega), if_pos (by omega), if_pos ⟨c, q⟩]
        · rw [if_neg (show ¬ (10 + a h = 10 + w) by omega), if_neg (show ¬ (fre h = true ∧ a h = w) from fun y => q y.2)]
          split <;> rfl
      · rw [if_neg c, if_neg (fun y => c y.1)]
    rw [z, if_neg (show ¬ (1 = 10 + w) by omega), if_pos rfl, if_neg (show ¬ (0 = 10 + w) by omega), Int.sub_self, Int.mul_zero, Int.mul_sub, Int.mul_zero, Int.mul_one] at e
    have b2 := hs w (by omega)
    rw [(hD.1 w hw).2.2.2] at b2
    have b3 := hR (2 * w) (by omega)
    omega
  · have := price_rep hD hr
    unfold sP_
    omega
