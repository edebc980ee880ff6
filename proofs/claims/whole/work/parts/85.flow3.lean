/-! sums; flows and plans of halls -/
theorem sumN_split {G : Nat → Int} (a : Nat) : ∀ b, sumN G (a + b) = sumN G a + sumN (fun j => G (a + j)) b := by
  intro b
  induction b with
  | zero => show sumN G a = sumN G a + 0; omega
  | succ b ih =>
    show sumN G (a + b) + G (a + b) = sumN G a + (sumN (fun j => G (a + j)) b + G (a + b))
    rw [ih]; omega
theorem sumN_add {f g : Nat → Int} : ∀ n, sumN (fun i => f i + g i) n = sumN f n + sumN g n := by
  intro n
  induction n with
  | zero => rfl
  | succ n ih =>
    show sumN (fun i => f i + g i) n + (f n + g n) = sumN f n + f n + (sumN g n + g n)
    rw [ih]; omega
theorem sumN_mul {f : Nat → Int} {c : Int} : ∀ n, sumN (fun i => f i * c) n = sumN f n * c := by
  intro n
  induction n with
  | zero => show (0 : Int) = 0 * c; rw [Int.zero_mul]
  | succ n ih =>
    show sumN (fun i => f i * c) n + f n * c = (sumN f n + f n) * c
    rw [ih, Int.add_mul]
theorem sumN_neg {f : Nat → Int} : ∀ n, sumN (fun i => - f i) n = - sumN f n := by
  intro n
  induction n with
  | zero => rfl
  | succ n ih =>
    show sumN (fun i => - f i) n + - f n = - (sumN f n + f n)
    rw [ih]; omega
theorem sumN_0 {f : Nat → Int} (n : Nat) (h : ∀ i, i < n → f i = 0) : sumN f n = 0 := by
  induction n with
  | zero => rfl
  | succ n ih =>
    show sumN f n + f n = 0
    rw [ih (fun i hi => h i (by omega)), h n (by omega)]; rfl
theorem sumN_comm {A : Nat → Nat → Int} (m : Nat) : ∀ n, sumN (fun w => sumN (fun h => A h w) n) m = sumN (fun h => sumN (fun w => A h w) m) n := by
  intro n
  induction n with
  | zero => exact sumN_0 m (fun _ _ => rfl)
  | succ n ih =>
    show sumN (fun w => sumN (fun h => A h w) n + A n w) m = sumN (fun h => sumN (fun w => A h w) m) n + sumN (fun w => A n w) m
    rw [sumN_add, ih]
theorem sumN_le {f g : Nat → Int} (n : Nat) (h : ∀ i, i < n → f i ≤ g i) : sumN f n ≤ sumN g n := by
  induction n with
  | zero => exact Int.le_refl _
  | succ n ih =>
    have h1 := ih (fun i hi => h i (by omega))
    have h2 := h n (by omega)
    show sumN f n + f n ≤ sumN g n + g n
    omega
theorem sumN_pick {Y : Nat → Int} {a s : Nat} : ∀ c, sumN (fun j => if a = s + j then Y (s + j) else 0) c = if s ≤ a ∧ a < s + c then Y a else 0 := by
  intro c
  induction c with
  | zero => rw [if_neg (by omega)]; rfl
  | succ c ih =>
    show sumN (fun j => if a = s + j then Y (s + j) else 0) c + (if a = s + c then Y (s + c) else 0) = _
    rw [ih]
    by_cases q : a = s + c
    · rw [if_neg (by omega), if_pos q, if_pos (by omega), q]; omega
    · rw [if_neg q]
      by_cases q2 : s ≤ a ∧ a < s + c
      · rw [if_pos q2, if_pos (by omega)]; omega
      · rw [if_neg q2, if_neg (by omega)]; rfl
/-- none but one -/
theorem sumN_one {f : Nat → Int} : ∀ n, (∀ i, i < n → 0 ≤ f i) → sumN f n ≤ 1 → (∀ i, i < n → f i = 0) ∨ ∃ j, j < n ∧ f j = 1 ∧ ∀ i, i < n → i ≠ j → f i = 0 := by
  intro n
  induction n with
  | zero => intro _ _; exact .inl (fun i hi => by omega)
  | succ n ih =>
    intro h1 h2
    have h2 : sumN f n + f n ≤ 1 := h2
    have h3 := h1 n (by omega)
    have h4 := sumN_bd2 (g := f) (lo := 0) (hi := sumN f n + 1000000 + f n) n
    have h5 : 0 ≤ sumN f n := by
      have := sumN_le (f := fun _ => 0) (g := f) n (fun i hi => h1 i (by omega))
      rw [sumN_0 (f := fun _ => 0) n (fun _ _ => rfl)] at this
      exact this
    rcases ih (fun i hi => h1 i (by omega)) (by omega) with q | ⟨j, q1, q2, q3⟩
    · have h6 := sumN_0 n q
      by_cases c : f n = 0
      · refine .inl (fun i hi => ?_)
        by_cases z : i = n
        · rw [z]; exact c
        · exact q i (by omega)
      · exact .inr ⟨n, by omega, by omega, fun i hi hn => q i (by omega)⟩
    · have h6 := sumN_upd (g := fun _ => 0) (g2 := f) (x := 1) (m := j) n q1 (by rw [q2]; rfl) q3
      rw [sumN_0 (f := fun _ => 0) n (fun _ _ => rfl)] at h6
      refine .inr ⟨j, by omega, q2, fun i hi hn => ?_⟩
      by_cases z : i = n
      · rw [z]; omega
      · exact q3 i (by omega) hn
/-- the dual: a flow with a potential that is 0 at both ends is cheapest -/
theorem dual {U V : Nat → Nat} {P : Nat → Int} {K : Nat} {R π cap g : Nat → Int} {val valg : Int} (hG : GR U V P K) (hR : ∀ e, e < 2 * K → 0 ≤ R e) (hs : ∀ j, j < K → R (2 * j) + R (2 * j + 1) = cap j) (hv : ∀ φ, sF U V K R φ = val * (φ 1 - φ 0)) (hP : PV U V P K R π) (h0 : π 0 = 0) (h1 : π 1 = 0) (hg : ∀ k, k < K → 0 ≤ g k ∧ g k ≤ cap k) (hgv : ∀ φ : Nat → Int, sumN (fun k => g k * (φ (V (2 * k)) - φ (U (2 * k)))) K = valg * (φ 1 - φ 0)) : sP_ P K R ≤ sumN (fun k => g k * P (2 * k)) K := by
  obtain ⟨g1, g2, g3⟩ := hG
  have t : sumN (fun k => R (2 * k + 1) * P (2 * k) + g k * (π (V (2 * k)) - π (U (2 * k)))) K ≤ sumN (fun k => g k * P (2 * k) + R (2 * k + 1) * (π (V (2 * k)) - π (U (2 * k)))) K := by
    apply sumN_le
    intro k hk
    show R (2 * k + 1) * P (2 * k) + g k * (π (V (2 * k)) - π (U (2 * k))) ≤ g k * P (2 * k) + R (2 * k + 1) * (π (V (2 * k)) - π (U (2 * k)))
    obtain ⟨p1, p2, p3⟩ := g3 k hk
    have r0 := hs k hk
    have r1 := hR (2 * k) (by omega)
    have r2 := hR (2 * k + 1) (by omega)
    have r3 := hg k hk
    have f1 := hP (2 * k) (by omega)
    have f2 := hP (2 * k + 1) (by omega)
    rw [p1, p2, p3] at f2
    have key : 0 ≤ (g k - R (2 * k + 1)) * (P (2 * k) - (π (V (2 * k)) - π (U (2 * k)))) := by
      rcases (by omega : g k = R (2 * k + 1) ∨ R (2 * k + 1) < g k ∨ g k < R (2 * k + 1)) with q | q | q
      · rw [q, Int.sub_self, Int.zero_mul]; exact Int.le_refl _
      · have := f1 (by omega)
        exact Int.mul_nonneg (by omega) (by omega)
      · have := f2 (by omega)
        have z := Int.mul_nonneg (a := R (2 * k + 1) - g k) (b := (π (V (2 * k)) - π (U (2 * k))) - P (2 * k)) (by omega) (by omega)
        rw [show (g k - R (2 * k + 1)) * (P (2 * k) - (π (V (2 * k)) - π (U (2 * k)))) = (R (2 * k + 1) - g k) * ((π (V (2 * k)) - π (U (2 * k))) - P (2 * k)) by
          rw [← Int.neg_sub (R (2 * k + 1)) (g k), ← Int.neg_sub (π (V (2 * k)) - π (U (2 * k))) (P (2 * k)), Int.neg_mul_neg]]
        exact z
    rw [Int.sub_mul, Int.mul_sub (g k) (P (2 * k)), Int.mul_sub (R (2 * k + 1)) (P (2 * k))] at key
    omega
  rw [sumN_add, sumN_add, hgv, h0, h1] at t
  have hv' := hv π
  rw [h0, h1] at hv'
  unfold sF at hv'
  rw [hv'] at t
  unfold sP_
  simp at t
  exact t
