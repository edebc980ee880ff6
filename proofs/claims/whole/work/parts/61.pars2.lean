/-! the rules' text: both readers, sign by sign -/
theorem wh_eqv {S R : Type} {f : S → Option (S ⊕ R)} {s s2 : S} (h : f s = f s2) : wh f s = wh f s2 := by
  have key : ∀ a b : S, f a = f b → ∀ r, wh f a = some r → wh f b = some r := by
    intro a b hab r hr
    obtain ⟨n, hn⟩ := wh_to hr
    cases n with
    | zero => cases hn
    | succ n =>
      apply wh_of (n := n + 1)
      unfold whN at hn ⊢
      rw [← hab]; exact hn
  cases h1 : wh f s with
  | some r => exact (key s s2 h r h1).symm
  | none =>
    cases h2 : wh f s2 with
    | none => rfl
    | some r => rw [key s2 s h.symm r h2] at h1; cases h1
theorem bnd_id {α S : Type} (f : Option (α × S)) : bnd f (fun r s => some (r, s)) = f := by
  cases f with
  | none => rfl
  | some x => rfl
def LW (V : Prop) (σc σm : St) (O T o a k d : Nat) : Prop :=
  (o = 0 ∨ o = 1) ∧ (a = 0 ∨ a = 1) ∧ (o = 1 → gI σm 1344 0 O = 124 ∧ b01 (gI σm 1346 0 T)) ∧ (a = 1 → gI σm 1344 0 (O + o) = 38 ∧ b01 (gI σm 1346 0 (T + o))) ∧ (∀ j, j < k → gI σm 1344 0 (O + o + a + j) = 33) ∧
  b01 (gI σc 401 0 d) ∧ b01 (gI σc 402 0 d) ∧ gI σc 403 0 d = ((k % 2 : Nat) : Int) ∧ (V → gI σc 401 0 d = (if o = 1 then gI σm 1346 0 T else 0) ∧ gI σc 402 0 d = (if a = 1 then gI σm 1346 0 (T + o) else 1))
theorem LW.mono {V : Prop} {σc σm σc2 σm2 : St} {O T o a k d : Nat} (h : LW V σc σm O T o a k d) (h1 : gI σc2 401 0 d = gI σc 401 0 d) (h2 : gI σc2 402 0 d = gI σc 402 0 d) (h3 : gI σc2 403 0 d = gI σc 403 0 d) (h4 : ∀ e, e < O + o + a + k → gI σm2 1344 0 e = gI σm 1344 0 e) (h5 : ∀ e, e < T + o + a → gI σm2 1346 0 e = gI σm 1346 0 e) : LW V σc2 σm2 O T o a k d := by
  obtain ⟨l1, l2, l3, l4, l5, l6, l7, l8, l9⟩ := h
  refine ⟨l1, l2, fun q => ?_, fun q => ?_, fun j hj => ?_, by rw [h1]; exact l6, by rw [h2]; exact l7, by rw [h3]; exact l8, fun v => ?_⟩
  · rw [h4 _ (by omega), h5 _ (by omega)]; exact l3 q
  · rw [h4 _ (by omega), h5 _ (by omega)]; exact l4 q
  · rw [h4 _ (by omega)]; exact l5 j hj
  · obtain ⟨v1, v2⟩ := l9 v
    rw [h1, h2, v1, v2]
    constructor
    · split
      · rw [h5 _ (by omega)]
      · rfl
    · split
      · rw [h5 _ (by omega)]
      · rfl
def STK (V : Prop) (σc σm : St) : List (Nat × Nat × Nat) → Nat → Nat → Nat → Prop
  | [], d, O, T => d = 0 ∧ O = 0 ∧ T = 0
  | x :: L, d, O, T => ∃ d' O' T', d = d' + 1 ∧ O = O' + x.1 + x.2.1 + x.2.2 + 1 ∧ T = T' + x.1 + x.2.1 ∧ gI σm 1344 0 (O' + x.1 + x.2.1 + x.2.2) = 40 ∧ LW V σc σm O' T' x.1 x.2.1 x.2.2 d' ∧ STK V σc σm L d' O' T'
theorem STK.mono {V : Prop} {σc σm σc2 σm2 : St} {L : List (Nat × Nat × Nat)} {d O T : Nat} (h : STK V σc σm L d O T) (h1 : ∀ e, e < d → gI σc2 401 0 e = gI σc 401 0 e) (h2 : ∀ e, e < d → gI σc2 402 0 e = gI σc 402 0 e) (h3 : ∀ e, e < d → gI σc2 403 0 e = gI σc 403 0 e) (h4 : ∀ e, e < O → gI σm2 1344 0 e = gI σm 1344 0 e) (h5 : ∀ e, e < T → gI σm2 1346 0 e = gI σm 1346 0 e) : STK V σc2 σm2 L d O T := by
  induction L generalizing d O T with
  | nil => exact h
  | cons x L ih =>
    obtain ⟨d', O', T', e1, e2, e3, e4, e5, e6⟩ := h
    refine ⟨d', O', T', e1, e2, e3, by rw [h4 _ (by omega)]; exact e4, e5.mono (h1 _ (by omega)) (h2 _ (by omega)) (h3 _ (by omega)) (fun e he => h4 e (by omega)) (fun e he => h5 e (by omega)), ih e6 (fun e he => h1 e (by omega)) (fun e he => h2 e (by omega)) (fun e he => h3 e (by omega)) (fun e he => h4 e (by omega)) (fun e he => h5 e (by omega))⟩
theorem STK.top {V : Prop} {σc σm : St} {L : List (Nat × Nat × Nat)} {d O T : Nat} (h : STK V σc σm L d O T) : O = 0 ∨ gI σm 1344 0 (O - 1) = 40 := by
  cases L with
  | nil => exact Or.inl h.2.1
  | cons x L =>
    obtain ⟨d', O', T', e1, e2, e3, e4, e5, e6⟩ := h
    rw [e2, Nat.add_sub_cancel]
    exact Or.inr e4
def WO (V : Prop) (σc σm : St) (p : Nat) (L : List (Nat × Nat × Nat)) (D O T o a k : Nat) : Prop :=
  gI σc 405 0 0 = 0 ∧ gI σc 404 0 0 = (D : Int) ∧ gI σm 1342 0 0 = (p : Int) ∧ gI σm 1343 0 0 = ((O + o + a + k : Nat) : Int) ∧ gI σm 1345 0 0 = ((T + o + a : Nat) : Int) ∧ D ≤ p ∧ O + o + a + k ≤ p ∧ T + o + a ≤ p ∧ LW V σc σm O T o a k D ∧ STK V σc σm L D O T
def JS (V : Prop) (σc σm : St) (p : Nat) (L : List (Nat × Nat × Nat)) (D O T o a k : Nat) : Prop :=
  gI σc 405 0 0 = 4 ∧ gI σc 404 0 0 = (D : Int) ∧ gI σm 1342 0 0 = (p : Int) ∧ gI σm 1343 0 0 = ((O + o + a + k : Nat) : Int) ∧ gI σm 1345 0 0 = ((T + o + a + 1 : Nat) : Int) ∧ D ≤ p ∧ O + o + a + k ≤ p ∧ T + o + a + 1 ≤ p ∧
  ((o = 0 ∨ o = 1) ∧ (a = 0 ∨ a = 1) ∧ (o = 1 → gI σm 1344 0 O = 124 ∧ b01 (gI σm 1346 0 T)) ∧ (a = 1 → gI σm 1344 0 (O + o) = 38 ∧ b01 (gI σm 1346 0 (T + o))) ∧ (∀ j, j < k → gI σm 1344 0 (O + o + a + j) = 33) ∧ b01 (gI σm 1346 0 (T + o + a)) ∧
  b01 (gI σc 401 0 D) ∧ b01 (gI σc 402 0 D) ∧ gI σc 403 0 D = 0 ∧ (V → gI σc 401 0 D = (if o = 1 then gI σm 1346 0 T else 0) ∧ gI σc 402 0 D = an (if a = 1 then gI σm 1346 0 (T + o) else 1) (xk (gI σm 1346 0 (T + o + a)) k))) ∧ STK V σc σm L D O T
/-- the class, sign by sign -/
theorem endN_no {σ : St} (h : gI σ 405 0 0 ≠ 3) : fX3_endNumber σ = some ((), σ) := by
  unfold fX3_endNumber
  rw [if_neg h]
theorem take_no {σ : St} {b : Int} (h : gI σ 405 0 0 ≠ 3) : fX3_take b σ = fX3_take_j29 b σ := by
  unfold fX3_take
  rw [if_neg h]
theorem take_sp {σ : St} (h : gI σ 405 0 0 ≠ 3) : fX3_take 32 σ = some (1, σ) := by
  rw [take_no h]
  unfold fX3_take_j29
  rw [endN_no h, bnd_some, if_pos rfl]
theorem take_0 {σ : St} {b : Int} (h : gI σ 405 0 0 = 0) (hb : b ≠ 32) : fX3_take b σ = fX3_takeOne b σ := by
  rw [take_no (by omega)]
  unfold fX3_take_j29
  rw [endN_no (by omega), bnd_some, if_neg hb, if_pos h, bnd_id]
theorem take_1 {σ : St} {b : Int} (h : gI σ 405 0 0 = 1) (hb : b ≠ 32) : fX3_take b σ = fX3_takeSign b σ := by
  rw [take_no (by omega)]
  unfold fX3_take_j29
  rw [endN_no (by omega), bnd_some, if_neg hb, if_neg (by omega), if_pos h, bnd_id]
theorem isDig {b : Int} : fX3_isDigit b = some (b2i (48 ≤ b ∧ b ≤ 57)) := by
  unfold fX3_isDigit
  rw [within_eq]; rfl
theorem take_2 {σ : St} {b : Int} (h : gI σ 405 0 0 = 2) (hb : b ≠ 32) : fX3_take b σ = if 48 ≤ b ∧ b ≤ 57 then bnd (fX3_takeDigit b σ) (fun r31 σ33 => if r31 = 0 then (some (0, σ33)) else (some (1, σ33))) else some (0, σ) := by
  rw [take_no (by omega)]
  unfold fX3_take_j29
  rw [endN_no (by omega), bnd_some, if_neg hb, if_neg (by omega), if_neg (by omega), if_pos h, isDig, bnkI]
theorem take_4 {σ : St} {b : Int} (h : gI σ 405 0 0 = 4) (hb : b ≠ 32) : fX3_take b σ = fX3_takeJoint b σ := by
  rw [take_no (by omega)]
  unfold fX3_take_j29
  rw [endN_no (by omega), bnd_some, if_neg hb, if_neg (by omega), if_neg (by omega), if_neg (by omega), bnd_id]
noncomputable def KC (R : Nat) : (Int × St) ⊕ St → Option (Int × St) := fun e => Sum.elim (fun a0 => fX3_read_j32 a0.1 a0.2) (fun b0 => fX3_read_j40 R b0) e
noncomputable def KM : St ⊕ (St ⊕ (Int × St)) → Option (Int × St) := fun e => Sum.elim (fun a0 => fX12_readRule_j93 a0) (fun b0 => Sum.elim (fun a1 => fX12_readRule_j174 a1) (fun b1 => fX12_readRule_j182 b1.1 b1.2) b0) e
noncomputable def WC (R p : Nat) (σ : St) : Option ((Int × St) ⊕ St) := wh (fun s => fX3_read_l11 R s.1 s.2) (((p : Int), σ))
theorem WC_step {σ σ2 : St} {R n p : Nat} {B : Nat → Int} (hb : TXB R n B) (ht : TXC σ R n B) (hp : p < n) (h : fX3_take (B p) σ = some (1, σ2)) : WC R p σ = WC R (p + 1) σ2 := by
  obtain ⟨b1, b2, b3⟩ := hb
  unfold WC
  apply wh_stp
  show fX3_read_l11 R (p : Int) σ = some (.inl (((p + 1 : Nat) : Int), σ2))
  unfold fX3_read_l11
  rw [ht.1, if_neg (by omega), ck_x (by omega) (by omega), Int.toNat_natCast, ht.2 p hp, h, bnd_some, if_neg (by decide), ck_i (by omega) (by omega)]; rfl
theorem WC_bad {σ σ2 : St} {R n p : Nat} {B : Nat → Int} (hb : TXB R n B) (ht : TXC σ R n B) (hp : p < n) (h : fX3_take (B p) σ = some (0, σ2)) : bnk (WC R p σ) (KC R) = some ((p : Int), σ2) := by
  obtain ⟨b1, b2, b3⟩ := hb
  unfold WC
  have e : fX3_read_l11 R (p : Int) σ = some (.inr (.inl ((p : Int), σ2))) := by
    unfold fX3_read_l11
    rw [ht.1, if_neg (by omega), ck_x (by omega) (by omega), Int.toNat_natCast, ht.2 p hp, h, bnd_some, if_pos rfl]
  exact bnk_of (wh_inr e) rfl
theorem WC_end {σ : St} {R n : Nat} {B : Nat → Int} (ht : TXC σ R n B) : bnk (WC R n σ) (KC R) = fX3_read_j40 R σ := by
  unfold WC
  have e : fX3_read_l11 R (n : Int) σ = some (.inr (.inr σ)) := by
    unfold fX3_read_l11
    rw [ht.1, if_pos (Int.le_refl _)]
  exact bnk_of (wh_inr e) rfl
theorem WC_skip {σ : St} {R n : Nat} {B : Nat → Int} (hb : TXB R n B) (ht : TXC σ R n B) (h : gI σ 405 0 0 ≠ 3) : ∀ m p q, p + m = q → q ≤ n → (∀ e, p ≤ e → e < q → B e = 32) → WC R p σ = WC R q σ := by
  intro m
  induction m with
  | zero => intro p q h1 h2 h3; have : p = q := by omega
            rw [this]
  | succ m ih =>
    intro p q h1 h2 h3
    rw [WC_step hb ht (by omega) (by rw [h3 p (by omega) (by omega)]; exact take_sp h)]
    exact ih (p + 1) q (by omega) h2 (fun e h4 h5 => h3 e (by omega) h5)
theorem endN_j40 {σ : St} {R n : Nat} {B : Nat → Int} (ht : TXC σ R n B) (h : gI σ 405 0 0 ≠ 3) (h4 : gI σ 405 0 0 ≠ 4) : fX3_read_j40 R σ = some ((n : Int), σ) := by
  unfold fX3_read_j40
  rw [endN_no h, bnd_some, if_neg h4, ht.1]
/-- what ends a number -/
def cmpV (s v x : Int) : Int := if s = 60 then (if x ≤ v then 0 else 1) else (if s = 62 then (if v ≤ x then 0 else 1) else (if v = x then 1 else 0))
theorem b01_cmp (s v x : Int) : b01 (cmpV s v x) := by
  unfold cmpV b01
  repeat' split
  all_goals omega
theorem endOne_c {σ : St} {D k : Nat} {v : Int} (hD : D < 81) (h4 : gI σ 404 0 0 = (D : Int)) (h3 : gI σ 403 0 D = ((k % 2 : Nat) : Int)) (hv : b01 v) : fX3_endOne v σ = some ((), sI (sI (sI σ 402 0 D (an (gI σ 402 0 D) (xk v k))) 403 0 D 0) 405 0 0 4) := by
  unfold fX3_endOne fX3_endOne_j37 fX3_endOne_j38
  rw [h4, ck_x (by omega) (by omega), Int.toNat_natCast, h3]
  unfold an
  by_cases c : gI σ 402 0 D = 0
  · rw [if_pos c, if_pos c, ck_x (by omega) (by omega), ck_b (Or.inl rfl), ck_x (by omega) (by omega)]
  · rw [if_neg c, if_neg c, ck_x (by omega) (by omega)]
    have e : v = ((k % 2 : Nat) : Int) ↔ xk v k = 0 := by
      unfold xk nt
      have : k % 2 < 2 := Nat.mod_lt _ (by decide)
      rcases hv with h | h
      · by_cases q : k % 2 = 0
        · rw [if_pos q]; omega
        · rw [if_neg q, if_pos h]; omega
      · by_cases q : k % 2 = 0
        · rw [if_pos q]; omega
        · rw [if_neg q, if_neg (by omega)]; omega
    by_cases q : v = ((k % 2 : Nat) : Int)
    · rw [if_pos q, if_pos (e.mp q), ck_x (by omega) (by omega), ck_b (Or.inl rfl), ck_x (by omega) (by omega)]
    · rw [if_neg q, if_neg (fun z => q (e.mpr z)), ck_x (by omega) (by omega), ck_b (Or.inr rfl), ck_x (by omega) (by omega)]
theorem cmp_c {σ : St} {v : Nat} (hv : v < 8) (h6 : gI σ 406 0 0 = (v : Int)) : fX3_compares σ = some (cmpV (gI σ 407 0 0) (gI σ 400 0 v) (gI σ 408 0 0)) := by
  unfold fX3_compares cmpV
  rw [h6, ck_x (by omega) (by omega), Int.toNat_natCast]
  repeat' split
  all_goals rfl
/-- digits -/
def digN (B : Nat → Int) (q : Nat) : Nat → Int
  | 0 => 0
  | c + 1 => 10 * digN B q c + B (q + c) - 48
theorem digN_bd {B : Nat → Int} {q : Nat} : ∀ c, c ≤ 4 → (∀ e, e < c → 48 ≤ B (q + e) ∧ B (q + e) ≤ 57) → 0 ≤ digN B q c ∧ digN B q c ≤ 9999 ∧ digN B q c + 1 ≤ 10 ^ c := by
  intro c hc h
  have key : ∀ c, (∀ e, e < c → 48 ≤ B (q + e) ∧ B (q + e) ≤ 57) → 0 ≤ digN B q c ∧ digN B q c + 1 ≤ 10 ^ c := by
    intro c
    induction c with
    | zero => intro _; unfold digN; exact ⟨by decide, by decide⟩
    | succ c ih =>
      intro h
      have h1 := ih (fun e he => h e (by omega))
      have h2 := h c (by omega)
      unfold digN
      rw [Int.pow_succ]
      omega
  have h1 := key c h
  have h2 : (10 : Int) ^ c ≤ 10000 := by
    have : c = 0 ∨ c = 1 ∨ c = 2 ∨ c = 3 ∨ c = 4 := by omega
    rcases this with q | q | q | q | q <;> rw [q] <;> decide
  omega
theorem dig_ex {B : Nat → Int} {n q : Nat} (hq : q < n) (h : 48 ≤ B q ∧ B q ≤ 57) : ∃ c, 1 ≤ c ∧ c ≤ 4 ∧ q + c ≤ n ∧ (∀ e, e < c → 48 ≤ B (q + e) ∧ B (q + e) ≤ 57) ∧ (4 ≤ c ∨ q + c = n ∨ ¬ (48 ≤ B (q + c) ∧ B (q + c) ≤ 57)) := by
  have key : ∀ m, 1 ≤ m → m ≤ 4 → (q + m ≤ n ∧ ∀ e, e < m → 48 ≤ B (q + e) ∧ B (q + e) ≤ 57) ∨ ∃ c, 1 ≤ c ∧ c ≤ 4 ∧ q + c ≤ n ∧ (∀ e, e < c → 48 ≤ B (q + e) ∧ B (q + e) ≤ 57) ∧ (4 ≤ c ∨ q + c = n ∨ ¬ (48 ≤ B (q + c) ∧ B (q + c) ≤ 57)) := by
    intro m
    induction m with
    | zero => intro h1; omega
    | succ m ih =>
      intro _ h2
      by_cases z : m = 0
      · subst z
        refine Or.inl ⟨by omega, fun e he => ?_⟩
        have : e = 0 := by omega
        rw [this]; exact h
      · rcases ih (by omega) (by omega) with ⟨h3, h4⟩ | h3
        · by_cases c : q + m = n
          · exact Or.inr ⟨m, by omega, by omega, h3, h4, Or.inr (Or.inl c)⟩
          · by_cases d : 48 ≤ B (q + m) ∧ B (q + m) ≤ 57
            · refine Or.inl ⟨by omega, fun e he => ?_⟩
              by_cases y : e = m
              · rw [y]; exact d
              · exact h4 e (by omega)
            · exact Or.inr ⟨m, by omega, by omega, h3, h4, Or.inr (Or.inr d)⟩
        · exact Or.inr h3
  rcases key 4 (by omega) (by omega) with ⟨h1, h2⟩ | h1
  · exact ⟨4, by omega, by omega, h1, h2, Or.inl (by omega)⟩
  · exact h1
theorem takeDig {σ : St} {x d : Int} {b : Int} (h8 : gI σ 408 0 0 = x) (h9 : gI σ 409 0 0 = d) (hx : 0 ≤ x ∧ x ≤ 9999) (hd : 0 ≤ d ∧ d ≤ 4) (hb : 48 ≤ b ∧ b ≤ 57) : fX3_takeDigit b σ = some (1, sI (sI (sI σ 408 0 0 (10 * x + b - 48)) 409 0 0 (d + 1)) 405 0 0 3) := by
  unfold fX3_takeDigit
  rw [h8, h9, ck_i (by omega) (by omega), ck_i (by omega) (by omega), ck_i (by omega) (by omega), ck_i (by omega) (by omega), Int.mul_comm x 10]
theorem digs_c {σ : St} {R n : Nat} {B : Nat → Int} (hb : TXB R n B) (ht : TXC σ R n B) {q : Nat} (h5 : gI σ 405 0 0 = 2) (h8 : gI σ 408 0 0 = 0) (h9 : gI σ 409 0 0 = 0) : ∀ c, 1 ≤ c → c ≤ 4 → q + c ≤ n → (∀ e, e < c → 48 ≤ B (q + e) ∧ B (q + e) ≤ 57) → ∃ σd, WC R q σ = WC R (q + c) σd ∧ Ex [405, 408, 409] σ σd ∧ gI σd 408 0 0 = digN B q c ∧ gI σd 409 0 0 = (c : Int) ∧ gI σd 405 0 0 = 3 := by
  intro c
  induction c with
  | zero => intro h; omega
  | succ c ih =>
    intro _ h2 h3 h4
    by_cases z : c = 0
    · subst z
      have hd := h4 0 (by omega)
      rw [Nat.add_zero] at hd
      have e1 : fX3_take (B q) σ = some (1, sI (sI (sI σ 408 0 0 (10 * 0 + B q - 48)) 409 0 0 (0 + 1)) 405 0 0 3) := by
        rw [take_2 h5 (by omega), if_pos hd, takeDig h8 h9 (by omega) (by omega) hd, bnd_some, if_neg (by decide)]
      refine ⟨_, WC_step hb ht (by omega) e1, ((Ex.rf.sI (by decide)).sI (by decide)).sI (by decide), ?_, ?_, gs⟩
      · rw [ii (by omega), ii (by omega), gs]; rfl
      · rw [ii (by omega), gs]; rfl
    · obtain ⟨σd, g1, g2, g3, g4, g5⟩ := ih (by omega) (by omega) (by omega) (fun e he => h4 e (by omega))
      have hd := h4 c (by omega)
      have hn := digN_bd (B := B) (q := q) c (by omega) (fun e he => h4 e (by omega))
      have e1 : fX3_take (B (q + c)) σd = some (1, sI (sI (sI σd 408 0 0 (10 * digN B q c + B (q + c) - 48)) 409 0 0 ((c : Int) + 1)) 405 0 0 3) := by
        unfold fX3_take
        rw [if_pos g5, isDig, bnkI, if_pos hd, g4, if_neg (by omega), takeDig g3 g4 (by omega) (by omega) hd, bnd_some]
      refine ⟨_, g1.trans (WC_step hb (ht.ex g2 (by decide) (by decide)) (by omega) e1), ((g2.sI (by decide)).sI (by decide)).sI (by decide), ?_, ?_, gs⟩
      · rw [ii (by omega), ii (by omega), gs]; rfl
      · rw [ii (by omega), gs]; rfl
theorem digs_m {σ : St} {r n : Nat} {B : Nat → Int} (hb : TXB r n B) (hm : TXM σ r n B) {q c : Nat} {v s : Int} (h1 : 1 ≤ c) (h2 : c ≤ 4) (h3 : q + c ≤ n) (h4 : ∀ e, e < c → 48 ≤ B (q + e) ∧ B (q + e) ≤ 57) (h5 : 4 ≤ c ∨ q + c = n ∨ ¬ (48 ≤ B (q + c) ∧ B (q + c) ≤ 57)) : wh (fun z => fX12_takeAsking_l85 (r : Int) v s z.1 z.2.1 z.2.2) ((0, 0, sI σ 1342 0 0 (q : Int))) = some (digN B q c, sI σ 1342 0 0 ((q + c : Nat) : Int)) := by
  obtain ⟨b1, b2, b3⟩ := hb
  have hw := wh_seq (f := fun z => fX12_takeAsking_l85 (r : Int) v s z.1 z.2.1 z.2.2) (r := (digN B q c, sI σ 1342 0 0 ((q + c : Nat) : Int))) c (fun e => (digN B q e, (e : Int), sI σ 1342 0 0 ((q + e : Nat) : Int))) ?_ ?_
  · exact hw
  · intro e he
    have hd := h4 e he
    have hn := digN_bd (B := B) (q := q) e (by omega) (fun e' he' => h4 e' (by omega))
    have t : (80 * (r : Int) + ((q + e : Nat) : Int)).toNat = 80 * r + (q + e) := by omega
    show fX12_takeAsking_l85 (r : Int) v s (digN B q e) (e : Int) (sI σ 1342 0 0 ((q + e : Nat) : Int)) = some (.inl (10 * digN B q e + B (q + e) - 48, ((e + 1 : Nat) : Int), sI σ 1342 0 0 ((q + (e + 1) : Nat) : Int)))
    unfold fX12_takeAsking_l85
    rw [if_neg (by omega), ck_x (by omega) (by omega), Int.toNat_natCast, ii (by omega), hm.1, gs, if_neg (by omega), ck_i (by omega) (by omega), ck_i (by omega) (by omega), ck_x (by omega) (by omega), t, ii (by omega), hm.2 _ (by omega), in_eq, bnkI, if_pos hd, ck_i (by omega) (by omega), ck_i (by omega) (by omega), ck_i (by omega) (by omega), ck_x (by omega) (by omega), ck_i (by omega) (by omega), ck_i (by omega) (by omega), ck_i (by omega) (by omega), ck_i (by omega) (by omega), sI_sI]; rfl
  · have t : (80 * (r : Int) + ((q + c : Nat) : Int)).toNat = 80 * r + (q + c) := by omega
    show fX12_takeAsking_l85 (r : Int) v s (digN B q c) (c : Int) (sI σ 1342 0 0 ((q + c : Nat) : Int)) = _
    unfold fX12_takeAsking_l85
    by_cases y : 4 ≤ c
    · rw [if_pos (by omega)]
    · rw [if_neg (by omega), ck_x (by omega) (by omega), Int.toNat_natCast, ii (by omega), hm.1, gs]
      by_cases y2 : q + c = n
      · rw [if_pos (by omega)]
      · rw [if_neg (by omega), ck_i (by omega) (by omega), ck_i (by omega) (by omega), ck_x (by omega) (by omega), t, ii (by omega), hm.2 _ (by omega), in_eq, bnkI, if_neg (by rcases h5 with h | h | h; exact absurd h y; exact absurd h y2; exact h)]
theorem letter_cm (b : Int) : (∃ v : Nat, v < 8 ∧ fX3_letterIndex b = some (v : Int) ∧ fX12_letterValue b = some (v : Int)) ∨ (fX3_letterIndex b = some (-1) ∧ fX12_letterValue b = some (-9)) := by
  unfold fX3_letterIndex fX12_letterValue
  by_cases c1 : b = 102
  · rw [if_pos c1, if_pos c1]; exact Or.inl ⟨3, by decide, rfl, rfl⟩
  rw [if_neg c1, if_neg c1]
  by_cases c2 : b = 107
  · rw [if_pos c2, if_pos c2]; exact Or.inl ⟨7, by decide, rfl, rfl⟩
  rw [if_neg c2, if_neg c2]
  by_cases c3 : b = 108
  · rw [if_pos c3, if_pos c3]; exact Or.inl ⟨2, by decide, rfl, rfl⟩
  rw [if_neg c3, if_neg c3]
  by_cases c4 : b = 111
  · rw [if_pos c4, if_pos c4]; exact Or.inl ⟨4, by decide, rfl, rfl⟩
  rw [if_neg c4, if_neg c4]
  by_cases c5 : b = 112
  · rw [if_pos c5, if_pos c5]; exact Or.inl ⟨1, by decide, rfl, rfl⟩
  rw [if_neg c5, if_neg c5]
  by_cases c6 : b = 115
  · rw [if_pos c6, if_pos c6]; exact Or.inl ⟨0, by decide, rfl, rfl⟩
  rw [if_neg c6, if_neg c6]
  by_cases c7 : b = 117
  · rw [if_pos c7, if_pos c7]; exact Or.inl ⟨5, by decide, rfl, rfl⟩
  rw [if_neg c7, if_neg c7]
  by_cases c8 : b = 120
  · rw [if_pos c8, if_pos c8]; exact Or.inl ⟨6, by decide, rfl, rfl⟩
  rw [if_neg c8, if_neg c8]
  exact Or.inr ⟨rfl, rfl⟩
