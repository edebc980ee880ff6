/-! the best run is the greatest over plans -/
theorem hp1_ge {op : Nat → Bool} {g f : Nat → Int} {x : Nat} : ∀ n, f x ≤ hp1 op g f x n ∧ ∀ k, k < n → x.testBit k = true → op k = true → f (x - 2 ^ k) + g k ≤ hp1 op g f x n := by
  intro n
  induction n with
  | zero => exact ⟨Int.le_refl _, fun k hk => by omega⟩
  | succ n ih =>
    obtain ⟨i1, i2⟩ := ih
    have hs : hp1 op g f x (n + 1) = if x.testBit n && op n then max (hp1 op g f x n) (f (x - 2 ^ n) + g n) else hp1 op g f x n := rfl
    rw [hs]
    by_cases c : (x.testBit n && op n) = true
    · rw [if_pos c]
      refine ⟨by omega, fun k hk h1 h2 => ?_⟩
      by_cases z : k = n
      · rw [z]; omega
      · have := i2 k (by omega) h1 h2; omega
    · rw [if_neg c]
      refine ⟨i1, fun k hk h1 h2 => ?_⟩
      by_cases z : k = n
      · rw [z] at h1 h2; rw [h1, h2] at c; exact absurd rfl c
      · exact i2 k (by omega) h1 h2
theorem hp1_at {op : Nat → Bool} {g f : Nat → Int} {x : Nat} : ∀ n, hp1 op g f x n = f x ∨ ∃ k, k < n ∧ x.testBit k = true ∧ op k = true ∧ hp1 op g f x n = f (x - 2 ^ k) + g k := by
  intro n
  induction n with
  | zero => exact .inl rfl
  | succ n ih =>
    have hs : hp1 op g f x (n + 1) = if x.testBit n && op n then max (hp1 op g f x n) (f (x - 2 ^ n) + g n) else hp1 op g f x n := rfl
    rw [hs]
    have old : hp1 op g f x n = f x ∨ ∃ k, k < n + 1 ∧ x.testBit k = true ∧ op k = true ∧ hp1 op g f x n = f (x - 2 ^ k) + g k := by
      rcases ih with q | ⟨k, q1, q2⟩
      · exact .inl q
      · exact .inr ⟨k, by omega, q2⟩
    by_cases c : (x.testBit n && op n) = true
    · rw [if_pos c]
      rw [Bool.and_eq_true] at c
      by_cases z : hp1 op g f x n ≤ f (x - 2 ^ n) + g n
      · exact .inr ⟨n, by omega, c.1, c.2, by omega⟩
      · rw [show max (hp1 op g f x n) (f (x - 2 ^ n) + g n) = hp1 op g f x n by omega]
        exact old
    · rw [if_neg c]; exact old
def cA (n : Nat) (a : Nat → Nat) (w : Nat) : Int := sumN (fun h => if a h = w then (1 : Int) else 0) n
def vA (n : Nat) (G : Nat → Nat → Int) (a : Nat → Nat) : Int := sumN (fun h => if a h = 9 then 0 else G (a h) h) n
/-- weeks below w, week w with m prints at most -/
def AV (n : Nat) (op : Nat → Nat → Bool) (pr w m x : Nat) (a : Nat → Nat) : Prop := (∀ h, h < n → a h = 9 ∨ (x.testBit h = true ∧ a h ≤ w ∧ op (a h) h = true)) ∧ (∀ w', w' < w → cA n a w' ≤ (pr : Int)) ∧ cA n a w ≤ (m : Int)
theorem cA_nn {n : Nat} {a : Nat → Nat} {w : Nat} : 0 ≤ cA n a w := by
  unfold cA
  have := sumN_bd2 (g := fun h => if a h = w then (1 : Int) else 0) (lo := 0) (hi := 1) n (fun h _ => by
    show (0 : Int) ≤ (if a h = w then 1 else 0) ∧ (if a h = w then (1 : Int) else 0) ≤ 1
    split <;> omega)
  omega
theorem cA_up {n : Nat} {a : Nat → Nat} {k v : Nat} (hk : k < n) (w : Nat) : cA n (up1 a k v) w = cA n a w + ((if v = w then 1 else 0) - (if a k = w then 1 else 0)) := by
  unfold cA
  refine sumN_upd n hk ?_ (fun i _ hi => ?_)
  · show (if up1 a k v k = w then (1 : Int) else 0) = (if a k = w then 1 else 0) + ((if v = w then 1 else 0) - (if a k = w then 1 else 0))
    rw [up1_s]; omega
  · show (if up1 a k v i = w then (1 : Int) else 0) = if a i = w then 1 else 0
    rw [up1_n hi]
theorem vA_up {n : Nat} {G : Nat → Nat → Int} {a : Nat → Nat} {k v : Nat} (hk : k < n) : vA n G (up1 a k v) = vA n G a + ((if v = 9 then 0 else G v k) - (if a k = 9 then 0 else G (a k) k)) := by
  unfold vA
  refine sumN_upd n hk ?_ (fun i _ hi => ?_)
  · show (if up1 a k v k = 9 then (0 : Int) else G (up1 a k v k) k) = (if a k = 9 then 0 else G (a k) k) + ((if v = 9 then 0 else G v k) - (if a k = 9 then 0 else G (a k) k))
    rw [up1_s]; omega
  · show (if up1 a k v i = 9 then (0 : Int) else G (up1 a k v i) i) = if a i = 9 then 0 else G (a i) i
    rw [up1_n hi]
theorem cA_ex {n : Nat} {a : Nat → Nat} {w : Nat} (h : 0 < cA n a w) : ∃ k, k < n ∧ a k = w := by
  apply Classical.byContradiction
  intro c
  have : cA n a w = 0 := sumN_0 n (fun i hi => if_neg (fun q => c ⟨i, hi, q⟩))
  omega
theorem bit_sub {x k : Nat} (hx : x < 256) (hk : k < 8) (hb : x.testBit k = true) : ∀ h, (x - 2 ^ k).testBit h = (x.testBit h && !decide (k = h)) := by
  intro h
  have e : x ^^^ 2 ^ k = x - 2 ^ k := (xor_b8 ⟨x, hx⟩ ⟨k, hk⟩ hb).1
  rw [← e, Nat.testBit_xor, Nat.testBit_two_pow]
  by_cases c : k = h
  · subst c; rw [hb]; simp
  · simp [c]
theorem hM_best {n pr : Nat} {op : Nat → Nat → Bool} {G : Nat → Nat → Int} {f : Nat → Int} {w : Nat} (hn : n ≤ 8) (hw : w < 9) (hf : ∀ x, x < 2 ^ n → (∃ a, AV n op pr w 0 x a ∧ vA n G a = f x) ∧ ∀ a, AV n op pr w 0 x a → vA n G a ≤ f x) : ∀ m x, x < 2 ^ n → (∃ a, AV n op pr w m x a ∧ vA n G a = hM n (op w) (G w) m f x) ∧ ∀ a, AV n op pr w m x a → vA n G a ≤ hM n (op w) (G w) m f x := by
  have h256 : 2 ^ n ≤ 2 ^ 8 := Nat.pow_le_pow_right (by omega) hn
  intro m
  induction m with
  | zero => exact hf
  | succ m ih =>
    intro x hx
    have e : hM n (op w) (G w) (m + 1) f x = hp1 (op w) (G w) (hM n (op w) (G w) m f) x n := rfl
    rw [e]
    obtain ⟨g1, g2⟩ := hp1_ge (op := op w) (g := G w) (f := hM n (op w) (G w) m f) (x := x) n
    constructor
    · rcases hp1_at (op := op w) (g := G w) (f := hM n (op w) (G w) m f) (x := x) n with q | ⟨k, q1, q2, q3, q4⟩
      · obtain ⟨a, ⟨a1, a2, a3⟩, a4⟩ := (ih x hx).1
        exact ⟨a, ⟨a1, a2, by omega⟩, by rw [q]; exact a4⟩
      · have hb := bit_sub (by omega) (by omega) q2
        obtain ⟨a, ⟨a1, a2, a3⟩, a4⟩ := (ih (x - 2 ^ k) (Nat.lt_of_le_of_lt (Nat.sub_le _ _) hx)).1
        have ak : a k = 9 := by
          rcases a1 k q1 with z | z
          · exact z
          · rw [hb k] at z; simp at z
        refine ⟨up1 a k w, ⟨fun h hh => ?_, fun w' hw' => ?_, ?_⟩, ?_⟩
        · by_cases z : h = k
          · rw [z, up1_s]; exact .inr ⟨q2, Nat.le_refl _, q3⟩
          · rw [up1_n z]
            rcases a1 h hh with y | ⟨y1, y2⟩
            · exact .inl y
            · rw [hb h, Bool.and_eq_true] at y1
              exact .inr ⟨y1.1, y2⟩
        · rw [cA_up q1, if_neg (show ¬ w = w' by omega), ak, if_neg (show ¬ 9 = w' by omega)]
          have := a2 w' hw'; omega
        · rw [cA_up q1, if_pos rfl, ak, if_neg (show ¬ 9 = w by omega)]
          omega
        · rw [vA_up q1, if_neg (show ¬ w = 9 by omega), ak, if_pos rfl, a4, q4]; omega
    · intro a ⟨a1, a2, a3⟩
      by_cases c : cA n a w ≤ (m : Int)
      · have := (ih x hx).2 a ⟨a1, a2, c⟩
        omega
      · obtain ⟨k, k1, k2⟩ := cA_ex (n := n) (a := a) (w := w) (by omega)
        obtain ⟨b1, b2, b3⟩ : x.testBit k = true ∧ a k ≤ w ∧ op (a k) k = true := by
          rcases a1 k k1 with z | z
          · omega
          · exact z
        have hb := bit_sub (by omega) (by omega) b1
        rw [k2] at b3
        have u := (ih (x - 2 ^ k) (Nat.lt_of_le_of_lt (Nat.sub_le _ _) hx)).2 (up1 a k 9) ⟨fun h hh => by
          by_cases z : h = k
          · rw [z, up1_s]; exact .inl rfl
          · rw [up1_n z]
            rcases a1 h hh with y | ⟨y1, y2⟩
            · exact .inl y
            · refine .inr ⟨?_, y2⟩
              rw [hb h, y1]
              have : ¬ k = h := fun q => z q.symm
              simp [this], fun w' hw' => by
          rw [cA_up k1, if_neg (show ¬ 9 = w' by omega), k2, if_neg (show ¬ w = w' by omega)]
          have := a2 w' hw'; omega, by
          rw [cA_up k1, if_neg (show ¬ 9 = w by omega), k2, if_pos rfl]; omega⟩
        rw [vA_up k1, if_pos rfl, k2, if_neg (show ¬ w = 9 by omega)] at u
        have := g2 k k1 b1 b3
        omega
theorem cA_hcnt {op : Nat → Nat → Bool} {a : Nat → Nat} {w : Nat} : ∀ n, (∀ h, h < n → a h = w → op w h = true) → cA n a w ≤ ((hcnt (op w) n : Nat) : Int) := by
  intro n
  induction n with
  | zero => intro _; exact Int.le_refl _
  | succ n ih =>
    intro hh
    have h1 := ih (fun h q => hh h (by omega))
    show cA n a w + (if a n = w then (1 : Int) else 0) ≤ ((hcnt (op w) n + (if op w n = true then 1 else 0) : Nat) : Int)
    by_cases c : a n = w
    · rw [if_pos c, if_pos (hh n (by omega) c)]; omega
    · rw [if_neg c]
      split <;> omega
def AV0 (n : Nat) (op : Nat → Nat → Bool) (pr w x : Nat) (a : Nat → Nat) : Prop := (∀ h, h < n → a h = 9 ∨ (x.testBit h = true ∧ a h < w ∧ op (a h) h = true)) ∧ ∀ w', w' < w → cA n a w' ≤ (pr : Int)
theorem cA_pos {n : Nat} {a : Nat → Nat} {w h : Nat} (hh : h < n) (z : a h = w) : 0 < cA n a w := by
  have e := cA_up (a := up1 a h (w + 1)) (k := h) (v := w) hh w
  rw [if_pos rfl, up1_s, if_neg (show ¬ w + 1 = w by omega)] at e
  have e2 : cA n (up1 (up1 a h (w + 1)) h w) w = cA n a w := by
    refine sumN_c n (fun i _ => ?_)
    show (if up1 (up1 a h (w + 1)) h w i = w then (1 : Int) else 0) = if a i = w then 1 else 0
    by_cases c : i = h
    · rw [c, up1_s, if_pos rfl, if_pos z]
    · rw [up1_n c, up1_n c]
  have := cA_nn (n := n) (a := up1 a h (w + 1)) (w := w)
  omega
theorem AV_0 {n pr w x : Nat} {op : Nat → Nat → Bool} {a : Nat → Nat} (hw : w < 9) : AV n op pr w 0 x a ↔ AV0 n op pr w x a := by
  constructor
  · intro ⟨a1, a2, a3⟩
    refine ⟨fun h hh => ?_, a2⟩
    rcases a1 h hh with z | ⟨z1, z2, z3⟩
    · exact .inl z
    · have : a h ≠ w := fun q => by have := cA_pos hh q; omega
      exact .inr ⟨z1, by omega, z3⟩
  · intro ⟨a1, a2⟩
    refine ⟨fun h hh => ?_, a2, ?_⟩
    · rcases a1 h hh with z | ⟨z1, z2, z3⟩
      · exact .inl z
      · exact .inr ⟨z1, by omega, z3⟩
    · have : cA n a w = 0 := sumN_0 n (fun h hh => if_neg (by rcases a1 h hh with z | ⟨z1, z2, z3⟩ <;> omega))
      omega
theorem AV_S {n pr w x : Nat} {op : Nat → Nat → Bool} {a : Nat → Nat} (hw : w < 9) : AV n op pr w (min pr (hcnt (op w) n)) x a ↔ AV0 n op pr (w + 1) x a := by
  constructor
  · intro ⟨a1, a2, a3⟩
    refine ⟨fun h hh => ?_, fun w' hw' => ?_⟩
    · rcases a1 h hh with z | ⟨z1, z2, z3⟩
      · exact .inl z
      · exact .inr ⟨z1, by omega, z3⟩
    · by_cases c : w' = w
      · rw [c]; omega
      · exact a2 w' (by omega)
  · intro ⟨a1, a2⟩
    refine ⟨fun h hh => ?_, fun w' hw' => a2 w' (by omega), ?_⟩
    · rcases a1 h hh with z | ⟨z1, z2, z3⟩
      · exact .inl z
      · exact .inr ⟨z1, by omega, z3⟩
    · have h1 := a2 w (by omega)
      have h2 := cA_hcnt (op := op) (a := a) (w := w) n (fun h hh q => by
        rcases a1 h hh with z | ⟨z1, z2, z3⟩
        · omega
        · rw [q] at z3; exact z3)
      omega
theorem hW_best {n pr : Nat} {fr to tk pt : Nat → Int} (hn : n ≤ 8) : ∀ w, w ≤ 9 → ∀ x, x < 2 ^ n → (∃ a, AV0 n (hO fr to) pr w x a ∧ vA n (hG tk pt) a = hW n fr to tk pt pr w x) ∧ ∀ a, AV0 n (hO fr to) pr w x a → vA n (hG tk pt) a ≤ hW n fr to tk pt pr w x := by
  intro w
  induction w with
  | zero =>
    intro _ x hx
    constructor
    · exact ⟨fun _ => 9, ⟨fun h _ => .inl rfl, fun w' hw' => by omega⟩, sumN_0 n (fun i _ => if_pos rfl)⟩
    · intro a ⟨a1, a2⟩
      have : vA n (hG tk pt) a = 0 := sumN_0 n (fun h hh => if_pos (by rcases a1 h hh with z | z <;> omega))
      rw [this]
      exact Int.le_refl _
  | succ w ih =>
    intro hw x hx
    have e : hW n fr to tk pt pr (w + 1) x = hM n (hO fr to w) (hG tk pt w) (min pr (hcnt (hO fr to w) n)) (hW n fr to tk pt pr w) x := rfl
    rw [e]
    obtain ⟨b1, b2⟩ := hM_best (pr := pr) (op := hO fr to) (G := hG tk pt) (f := hW n fr to tk pt pr w) (w := w) hn (by omega) (fun y hy => by
      obtain ⟨⟨a, c1, c2⟩, c3⟩ := ih (by omega) y hy
      exact ⟨⟨a, (AV_0 (by omega)).mpr c1, c2⟩, fun a ha => c3 a ((AV_0 (by omega)).mp ha)⟩) (min pr (hcnt (hO fr to w) n)) x hx
    constructor
    · obtain ⟨a, c1, c2⟩ := b1
      exact ⟨a, (AV_S (by omega)).mp c1, c2⟩
    · intro a ha
      exact b2 a ((AV_S (by omega)).mpr ha)
/-- the plan's figures -/
def dgA (σ : St) (a : Nat → Nat) (h : Nat) : Int := if h < hlN σ then 9 - (a h : Int) else 0
def KA (σ : St) (a : Nat → Nat) : Int := dgA σ a 0 * 10000000 + dgA σ a 1 * 1000000 + dgA σ a 2 * 100000 + dgA σ a 3 * 10000 + dgA σ a 4 * 1000 + dgA σ a 5 * 100 + dgA σ a 6 * 10 + dgA σ a 7
theorem VA_le {σ : St} {a : Nat → Nat} (hH : RH σ) (hA : VA σ a) : ∀ h, h < hlN σ → a h ≤ 9 := fun h hh => by
  have b1 := (hH.fc h hh).2.2.1
  have b2 := hA.1 h hh
  omega
theorem dg_bd {σ : St} {a : Nat → Nat} (hH : RH σ) (hA : VA σ a) (h : Nat) : 0 ≤ dgA σ a h ∧ dgA σ a h ≤ 9 := by
  unfold dgA
  split
  · next c => have := VA_le hH hA h c; omega
  · omega
theorem vA_TE {σ : St} {a : Nat → Nat} (hH : RH σ) (hA : VA σ a) : vA (hlN σ) (gnN σ) a = 100000000 * TE σ a + KA σ a := by
  have h8 := hH.hl.2.2.1
  have e1 : vA (hlN σ) (gnN σ) a = sumN (fun h => (if a h = 9 then 0 else eaH σ h (a h)) * 100000000 + dgA σ a h * 10 ^ (7 - h)) (hlN σ) := by
    refine sumN_c _ (fun h hh => ?_)
    show (if a h = 9 then 0 else gnN σ (a h) h) = (if a h = 9 then 0 else eaH σ h (a h)) * 100000000 + dgA σ a h * 10 ^ (7 - h)
    unfold dgA
    rw [if_pos hh]
    by_cases c : a h = 9
    · rw [if_pos c, if_pos c, c, Int.zero_mul, show (9 : Int) - ((9 : Nat) : Int) = 0 by decide, Int.zero_mul]; rfl
    · rw [if_neg c, if_neg c]; rfl
  have e2 : sumN (fun h => dgA σ a h * 10 ^ (7 - h)) (hlN σ) = KA σ a := by
    have s := sumN_split (G := fun h => dgA σ a h * 10 ^ (7 - h)) (hlN σ) (8 - hlN σ)
    rw [show hlN σ + (8 - hlN σ) = 8 by omega, sumN_0 (f := fun j => dgA σ a (hlN σ + j) * 10 ^ (7 - (hlN σ + j))) (8 - hlN σ) (fun j _ => by
      show dgA σ a (hlN σ + j) * _ = 0
      unfold dgA
      rw [if_neg (by omega), Int.zero_mul])] at s
    have s2 : sumN (fun h => dgA σ a h * 10 ^ (7 - h)) 8 = 0 + dgA σ a 0 * 10000000 + dgA σ a 1 * 1000000 + dgA σ a 2 * 100000 + dgA σ a 3 * 10000 + dgA σ a 4 * 1000 + dgA σ a 5 * 100 + dgA σ a 6 * 10 + dgA σ a 7 * 1 := rfl
    unfold KA
    omega
  rw [e1, sumN_add, sumN_mul, e2]
  unfold TE
  omega
theorem run_best {σ : St} (hH : RH σ) : ∃ a, VA σ a ∧ hWs σ 9 (2 ^ hlN σ - 1) = 100000000 * TE σ a + KA σ a ∧ ∀ b, VA σ b → 100000000 * TE σ b + KA σ b ≤ 100000000 * TE σ a + KA σ a := by
  obtain ⟨e1, e2, h8, h4, h5, e6, e7, e8⟩ := hH.hl
  have h1p : 1 ≤ 2 ^ hlN σ := Nat.one_le_two_pow
  have hiff : ∀ a, AV0 (hlN σ) (hO (fun i => gI σ 301 0 i) (fun i => gI σ 302 0 i)) (prN_ σ) 9 (2 ^ hlN σ - 1) a ↔ VA σ a := by
    intro a
    constructor
    · intro ⟨a1, a2⟩
      refine ⟨fun h hh => ?_, a2⟩
      obtain ⟨f1, f2, f3, f4⟩ := hH.fc h hh
      rcases a1 h hh with z | ⟨z1, z2, z3⟩
      · exact .inl z
      · right
        have z3 : gI σ 301 0 h ≤ ((a h : Nat) : Int) ∧ ((a h : Nat) : Int) ≤ gI σ 302 0 h := of_decide_eq_true z3
        omega
    · intro ⟨a1, a2⟩
      refine ⟨fun h hh => ?_, a2⟩
      obtain ⟨f1, f2, f3, f4⟩ := hH.fc h hh
      rcases a1 h hh with z | ⟨z1, z2⟩
      · exact .inl z
      · refine .inr ⟨?_, by omega, ?_⟩
        · rw [Nat.testBit_two_pow_sub_one]; exact decide_eq_true hh
        · unfold hO
          rw [decide_eq_true_iff]
          show gI σ 301 0 h ≤ ((a h : Nat) : Int) ∧ ((a h : Nat) : Int) ≤ gI σ 302 0 h
          omega
  obtain ⟨⟨a, c1, c2⟩, c3⟩ := hW_best (n := hlN σ) (pr := prN_ σ) (fr := fun i => gI σ 301 0 i) (to := fun i => gI σ 302 0 i) (tk := fun i => gI σ 303 0 i) (pt := fun i => gI σ 304 0 i) h8 9 (Nat.le_refl _) (2 ^ hlN σ - 1) (by omega)
  have hA := (hiff a).mp c1
  have ev := vA_TE hH hA
  have c2 : vA (hlN σ) (gnN σ) a = hWs σ 9 (2 ^ hlN σ - 1) := c2
  refine ⟨a, hA, by omega, fun b hb => ?_⟩
  have c3 : vA (hlN σ) (gnN σ) b ≤ hWs σ 9 (2 ^ hlN σ - 1) := c3 b ((hiff b).mpr hb)
  have ew := vA_TE hH hb
  omega
