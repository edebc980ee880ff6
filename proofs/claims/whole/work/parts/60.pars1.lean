/-! the rules' text: helps, the two piles -/
theorem wh_stp {S R : Type} {f : S → Option (S ⊕ R)} {s s2 : S} (h : f s = some (.inl s2)) : wh f s = wh f s2 := by
  cases hw : wh f s2 with
  | some r => exact wh_inl h hw
  | none =>
    cases hv : wh f s with
    | none => rfl
    | some r =>
      obtain ⟨n, hn⟩ := wh_to hv
      cases n with
      | zero => cases hn
      | succ n =>
        unfold whN at hn
        rw [h] at hn
        rw [wh_of hn] at hw
        cases hw
theorem up3_up3 {α : Type} (f : Nat → Nat → Nat → α) (c j e : Nat) (v w : α) : up3 (up3 f c j e v) c j e w = up3 f c j e w := by
  funext c2 j2 e2
  unfold up3
  split <;> rfl
theorem sI_sI (σ : St) (c j e : Nat) (v w : Int) : sI (sI σ c j e v) c j e w = sI σ c j e w := by
  unfold sI
  rw [up3_up3]
theorem sI_self {σ : St} {c j e : Nat} {v : Int} (h : gI σ c j e = v) : sI σ c j e v = σ := by
  unfold sI
  have : up3 σ.1 c j e v = σ.1 := by
    funext c2 j2 e2
    unfold up3
    split
    · next q => rw [q.1, q.2.1, q.2.2]; exact h.symm
    · rfl
  rw [this]
/-- a rule's text: n bytes -/
def TXC (σ : St) (r n : Nat) (B : Nat → Int) : Prop := gI σ 703 r 0 = (n : Int) ∧ ∀ e, e < n → gI σ 702 r e = B e
def TXM (σ : St) (r n : Nat) (B : Nat → Int) : Prop := gI σ 1340 0 r = (n : Int) ∧ ∀ e, e < n → gI σ 1341 0 (80 * r + e) = B e
def TXB (r n : Nat) (B : Nat → Int) : Prop := r < 6 ∧ n ≤ 80 ∧ ∀ e, e < n → 1 ≤ B e ∧ B e ≤ 255
theorem TXC.ex {σ σ2 : St} {r n : Nat} {B : Nat → Int} {S : List Nat} (h : TXC σ r n B) (hx : Ex S σ σ2) (h1 : 703 ∉ S) (h2 : 702 ∉ S) : TXC σ2 r n B := by
  unfold TXC at h ⊢
  simp only [hx.i h1, hx.i h2]
  exact h
theorem TXM.ex {σ σ2 : St} {r n : Nat} {B : Nat → Int} {S : List Nat} (h : TXM σ r n B) (hx : Ex S σ σ2) (h1 : 1340 ∉ S) (h2 : 1341 ∉ S) : TXM σ2 r n B := by
  unfold TXM at h ⊢
  simp only [hx.i h1, hx.i h2]
  exact h
/-- where the next byte is that is no space -/
theorem skip_ex (B : Nat → Int) (n p : Nat) (hp : p ≤ n) : ∃ q, p ≤ q ∧ q ≤ n ∧ (∀ e, p ≤ e → e < q → B e = 32) ∧ (q = n ∨ B q ≠ 32) := by
  obtain ⟨m, rfl⟩ : ∃ m, n = p + m := ⟨n - p, by omega⟩
  clear hp
  induction m generalizing p with
  | zero => exact ⟨p, by omega, by omega, fun e h1 h2 => by omega, Or.inl rfl⟩
  | succ m ih =>
    by_cases c : B p = 32
    · obtain ⟨q, h1, h2, h3, h4⟩ := ih (p + 1)
      refine ⟨q, by omega, by omega, fun e h5 h6 => ?_, by rcases h4 with h | h; exact Or.inl (by omega); exact Or.inr h⟩
      by_cases d : e = p
      · rw [d]; exact c
      · exact h3 e (by omega) h6
    · exact ⟨p, by omega, by omega, fun e h1 h2 => by omega, Or.inr c⟩
theorem peek_m {σ : St} {r n : Nat} {B : Nat → Int} (hb : TXB r n B) (hm : TXM σ r n B) {p q : Nat} (hat : gI σ 1342 0 0 = (p : Int)) (h1 : p ≤ q) (h2 : q ≤ n) (h3 : ∀ e, p ≤ e → e < q → B e = 32) (h4 : q = n ∨ B q ≠ 32) : fX12_peek (r : Int) σ = some (if q < n then B q else 0, sI σ 1342 0 0 (q : Int)) := by
  obtain ⟨b1, b2, b3⟩ := hb
  have key : ∀ m p, p + m = q → (∀ e, p ≤ e → e < q → B e = 32) → wh (fun s => fX12_peek_l0 (r : Int) s) (sI σ 1342 0 0 (p : Int)) = some (sI σ 1342 0 0 (q : Int)) := by
    intro m
    induction m with
    | zero =>
      intro p hp _
      have : p = q := by omega
      subst this
      apply wh_inr
      have t : (80 * (r : Int) + (p : Int)).toNat = 80 * r + p := by omega
      show fX12_peek_l0 (r : Int) (sI σ 1342 0 0 (p : Int)) = _
      unfold fX12_peek_l0
      rw [ck_x (by omega) (by omega), Int.toNat_natCast, ii (by omega), hm.1, gs]
      by_cases c : p = n
      · rw [if_pos (by omega)]
      · rw [if_neg (by omega), ck_i (by omega) (by omega), ck_i (by omega) (by omega), ck_x (by omega) (by omega), t, ii (by omega), hm.2 p (by omega), if_neg (by rcases h4 with h | h; exact absurd h c; exact h)]
    | succ m ih =>
      intro p hp hs
      have t : (80 * (r : Int) + (p : Int)).toNat = 80 * r + p := by omega
      have e1 : fX12_peek_l0 (r : Int) (sI σ 1342 0 0 (p : Int)) = some (.inl (sI σ 1342 0 0 ((p + 1 : Nat) : Int))) := by
        unfold fX12_peek_l0
        rw [ck_x (by omega) (by omega), Int.toNat_natCast, ii (by omega), hm.1, gs, if_neg (by omega), ck_i (by omega) (by omega), ck_i (by omega) (by omega), ck_x (by omega) (by omega), t, ii (by omega), hm.2 p (by omega), if_pos (hs p (by omega) (by omega)), ck_i (by omega) (by omega), sI_sI]; rfl
      exact wh_inl e1 (ih (p + 1) (by omega) (fun e h5 h6 => hs e (by omega) h6))
  have k0 := key (q - p) p (by omega) h3
  rw [sI_self hat] at k0
  have t : (80 * (r : Int) + (q : Int)).toNat = 80 * r + q := by omega
  unfold fX12_peek fX12_peek_j0 fX12_peek_j45
  rw [k0, bnk_some, ck_x (by omega) (by omega), Int.toNat_natCast, ii (by omega), hm.1, gs]
  by_cases c : q < n
  · rw [if_neg (by omega), if_pos c, ck_i (by omega) (by omega), ck_i (by omega) (by omega), ck_x (by omega) (by omega), t, ii (by omega), hm.2 q c]
  · rw [if_pos (by omega), if_neg c]
/-- one sign taken off the pile -/
def b01 (x : Int) : Prop := x = 0 ∨ x = 1
def nt (x : Int) : Int := if x = 0 then 1 else 0
def an (x y : Int) : Int := if x = 0 then 0 else if y = 0 then 0 else 1
def oo (x y : Int) : Int := if x = 0 then (if y = 0 then 0 else 1) else 1
theorem b01_nt (x : Int) : b01 (nt x) := by unfold nt b01; split <;> omega
theorem b01_an (x y : Int) : b01 (an x y) := by unfold an b01; split; omega; split <;> omega
theorem b01_oo (x y : Int) : b01 (oo x y) := by unfold oo b01; split; split <;> omega; omega
theorem cl_not {σ : St} {c : Int} {w m : Nat} (h1 : gI σ 1343 0 0 = ((w + 1 : Nat) : Int)) (h2 : gI σ 1345 0 0 = ((m + 1 : Nat) : Int)) (hw : w < 84) (hm : m < 84) (h3 : gI σ 1344 0 w = 33) (hc : c ≤ 3) : fX12_closeTo_l0 c σ = some (.inl (sI (sI σ 1343 0 0 (w : Int)) 1346 0 m (nt (gI σ 1346 0 m)))) := by
  have t1 : (((w + 1 : Nat) : Int) - 1) = (w : Int) := by omega
  have t2 : (((m + 1 : Nat) : Int) - 1) = (m : Int) := by omega
  unfold fX12_closeTo_l0 fX12_closeTo_j80 fX12_closeTo_j168 fX12_binds
  rw [h1, h2, if_neg (by omega), t1, t2, ck_i (by omega) (by omega), ck_x (by omega) (by omega), Int.toNat_natCast, h3, if_pos rfl, bnk_some, if_neg (by omega), ck_i (by omega) (by omega), ck_i (by omega) (by omega), ck_x (by omega) (by omega), ck_x (by omega) (by omega), if_pos rfl, ck_i (by omega) (by omega), Int.toNat_natCast]
  unfold nt
  by_cases q : gI σ 1346 0 m = 0
  · rw [if_pos q, if_pos q, ck_x (by omega) (by omega), ck_b (Or.inr rfl)]
  · rw [if_neg q, if_neg q, ck_x (by omega) (by omega), ck_b (Or.inl rfl)]
theorem cl_and {σ : St} {c : Int} {w m : Nat} (h1 : gI σ 1343 0 0 = ((w + 1 : Nat) : Int)) (h2 : gI σ 1345 0 0 = ((m + 2 : Nat) : Int)) (hw : w < 84) (hm : m + 1 < 84) (h3 : gI σ 1344 0 w = 38) (hc : c ≤ 2) : fX12_closeTo_l0 c σ = some (.inl (sI (sI (sI σ 1343 0 0 (w : Int)) 1345 0 0 ((m + 1 : Nat) : Int)) 1346 0 m (an (gI σ 1346 0 m) (gI σ 1346 0 (m + 1))))) := by
  have t1 : (((w + 1 : Nat) : Int) - 1) = (w : Int) := by omega
  have t2 : (((m + 2 : Nat) : Int) - 1) = ((m + 1 : Nat) : Int) := by omega
  have t3 : (((m + 1 : Nat) : Int) - 1) = (m : Int) := by omega
  unfold fX12_closeTo_l0 fX12_closeTo_j140 fX12_closeTo_j162 fX12_closeTo_j167 fX12_closeTo_j168 fX12_binds
  rw [h1, h2, if_neg (by omega), t1, t2, t3, ck_i (by omega) (by omega), ck_x (by omega) (by omega), Int.toNat_natCast, h3, if_neg (by decide), if_pos rfl, bnk_some, if_neg (by omega), ck_i (by omega) (by omega), ck_i (by omega) (by omega), ck_x (by omega) (by omega), ck_x (by omega) (by omega), if_neg (by decide), ck_i (by omega) (by omega), ck_i (by omega) (by omega), ck_x (by omega) (by omega), if_pos rfl, ck_i (by omega) (by omega), ck_x (by omega) (by omega), Int.toNat_natCast, Int.toNat_natCast]
  unfold an
  by_cases q : gI σ 1346 0 m = 0
  · rw [if_pos q, if_pos q, ck_x (by omega) (by omega), ck_b (Or.inl rfl)]
  · rw [if_neg q, if_neg q]
    by_cases q2 : gI σ 1346 0 (m + 1) = 0
    · rw [if_pos q2, if_pos q2, ck_x (by omega) (by omega), ck_b (Or.inl rfl)]
    · rw [if_neg q2, if_neg q2, ck_x (by omega) (by omega), ck_b (Or.inr rfl)]
theorem cl_or {σ : St} {c : Int} {w m : Nat} (h1 : gI σ 1343 0 0 = ((w + 1 : Nat) : Int)) (h2 : gI σ 1345 0 0 = ((m + 2 : Nat) : Int)) (hw : w < 84) (hm : m + 1 < 84) (h3 : gI σ 1344 0 w = 124) (hc : c ≤ 1) : fX12_closeTo_l0 c σ = some (.inl (sI (sI (sI σ 1343 0 0 (w : Int)) 1345 0 0 ((m + 1 : Nat) : Int)) 1346 0 m (oo (gI σ 1346 0 m) (gI σ 1346 0 (m + 1))))) := by
  have t1 : (((w + 1 : Nat) : Int) - 1) = (w : Int) := by omega
  have t2 : (((m + 2 : Nat) : Int) - 1) = ((m + 1 : Nat) : Int) := by omega
  have t3 : (((m + 1 : Nat) : Int) - 1) = (m : Int) := by omega
  unfold fX12_closeTo_l0 fX12_closeTo_j140 fX12_closeTo_j162 fX12_closeTo_j167 fX12_closeTo_j168 fX12_binds
  rw [h1, h2, if_neg (by omega), t1, t2, t3, ck_i (by omega) (by omega), ck_x (by omega) (by omega), Int.toNat_natCast, h3, if_neg (by decide), if_neg (by decide), if_pos rfl, bnk_some, if_neg (by omega), ck_i (by omega) (by omega), ck_i (by omega) (by omega), ck_x (by omega) (by omega), ck_x (by omega) (by omega), if_neg (by decide), ck_i (by omega) (by omega), ck_i (by omega) (by omega), ck_x (by omega) (by omega), if_neg (by decide), ck_i (by omega) (by omega), ck_x (by omega) (by omega), Int.toNat_natCast, Int.toNat_natCast]
  unfold oo
  by_cases q : gI σ 1346 0 m = 0
  · rw [if_pos q, if_pos q]
    by_cases q2 : gI σ 1346 0 (m + 1) = 0
    · rw [if_pos q2, if_pos q2, ck_x (by omega) (by omega), ck_b (Or.inl rfl)]
    · rw [if_neg q2, if_neg q2, ck_x (by omega) (by omega), ck_b (Or.inr rfl)]
  · rw [if_neg q, if_neg q, ck_x (by omega) (by omega), ck_b (Or.inr rfl)]
theorem cl_stop {σ : St} {c : Int} {w : Nat} (h1 : gI σ 1343 0 0 = (w : Int)) (hw : w ≤ 84) (h2 : w = 0 ∨ (gI σ 1344 0 (w - 1) = 40 ∧ 1 ≤ c) ∨ (gI σ 1344 0 (w - 1) = 124 ∧ 2 ≤ c)) : fX12_closeTo_l0 c σ = some (.inr σ) := by
  unfold fX12_closeTo_l0 fX12_binds
  rw [h1]
  by_cases q : w = 0
  · rw [if_pos (by omega)]
  · have t : ((w : Int) - 1).toNat = w - 1 := by omega
    rw [if_neg (by omega), ck_i (by omega) (by omega), ck_x (by omega) (by omega), t]
    rcases h2 with h | h | h
    · exact absurd h q
    · rw [h.1, if_neg (by decide), if_neg (by decide), if_neg (by decide), bnk_some, if_pos (by omega)]
    · rw [h.1, if_neg (by decide), if_neg (by decide), if_pos rfl, bnk_some, if_pos (by omega)]
def xk (t : Int) (k : Nat) : Int := if k % 2 = 0 then t else nt t
theorem nt_nt {x : Int} (h : b01 x) : nt (nt x) = x := by
  rcases h with h | h <;> rw [h] <;> rfl
theorem xk_s {t : Int} (h : b01 t) (k : Nat) : xk (nt t) k = xk t (k + 1) := by
  unfold xk
  by_cases c : k % 2 = 0
  · rw [if_pos c, if_neg (by omega)]
  · rw [if_neg c, if_pos (by omega), nt_nt h]
theorem b01_xk {t : Int} (h : b01 t) (k : Nat) : b01 (xk t k) := by
  unfold xk
  split
  · exact h
  · exact b01_nt t
/-- all the ! of a level -/
theorem cl_nots {c : Int} (hc : c ≤ 3) {w m : Nat} (hm : m < 84) : ∀ (k : Nat) (σ : St), w + k ≤ 84 → gI σ 1343 0 0 = ((w + k : Nat) : Int) → gI σ 1345 0 0 = ((m + 1 : Nat) : Int) → (∀ j, j < k → gI σ 1344 0 (w + j) = 33) → b01 (gI σ 1346 0 m) → ∃ σ', wh (fun s => fX12_closeTo_l0 c s) σ = wh (fun s => fX12_closeTo_l0 c s) σ' ∧ Ex [1343, 1346] σ σ' ∧ gI σ' 1343 0 0 = (w : Int) ∧ gI σ' 1346 0 m = xk (gI σ 1346 0 m) k ∧ ∀ e, e ≠ m → gI σ' 1346 0 e = gI σ 1346 0 e := by
  intro k
  induction k with
  | zero => intro σ h1 h2 h3 h4 h5; exact ⟨σ, rfl, Ex.rf, h2, rfl, fun e _ => rfl⟩
  | succ k ih =>
    intro σ h1 h2 h3 h4 h5
    have s1 := cl_not (σ := σ) (c := c) (w := w + k) (m := m) h2 h3 (by omega) hm (h4 k (by omega)) hc
    obtain ⟨σ', g1, g2, g3, g4, g5⟩ := ih (sI (sI σ 1343 0 0 ((w + k : Nat) : Int)) 1346 0 m (nt (gI σ 1346 0 m))) (by omega) (by rw [ii (by omega), gs]) (by rw [ii (by omega), ii (by omega), h3]) (fun j hj => by rw [ii (by omega), ii (by omega)]; exact h4 j (by omega)) (by rw [gs]; exact b01_nt _)
    refine ⟨σ', (wh_stp s1).trans g1, ((Ex.rf.sI (by decide)).sI (by decide)).trans g2, g3, ?_, fun e he => ?_⟩
    · rw [g4, gs, xk_s h5]
    · rw [g5 e he, ii (by omega), ii (by omega)]
/-- a level closed down to its & (c = 2), or wholly (c = 1) -/
theorem closeA {σ : St} {c : Int} {O T o a k : Nat} (hc : c = 1 ∨ c = 2) (ho : o = 0 ∨ o = 1) (ha : a = 0 ∨ a = 1) (hO : O + o + a + k ≤ 84) (hT : T + o + a < 84) (h1 : gI σ 1343 0 0 = ((O + o + a + k : Nat) : Int)) (h2 : gI σ 1345 0 0 = ((T + o + a + 1 : Nat) : Int)) (hk : ∀ j, j < k → gI σ 1344 0 (O + o + a + j) = 33) (hA : a = 1 → gI σ 1344 0 (O + o) = 38) (ht : b01 (gI σ 1346 0 (T + o + a))) : ∃ σ', wh (fun s => fX12_closeTo_l0 c s) σ = wh (fun s => fX12_closeTo_l0 c s) σ' ∧ Ex [1343, 1345, 1346] σ σ' ∧ gI σ' 1343 0 0 = ((O + o : Nat) : Int) ∧ gI σ' 1345 0 0 = ((T + o + 1 : Nat) : Int) ∧ gI σ' 1346 0 (T + o) = (if a = 1 then an (gI σ 1346 0 (T + o)) (xk (gI σ 1346 0 (T + o + a)) k) else xk (gI σ 1346 0 (T + o + a)) k) ∧ ∀ e, e < T + o → gI σ' 1346 0 e = gI σ 1346 0 e := by
  obtain ⟨σ1, g1, g2, g3, g4, g5⟩ := cl_nots (c := c) (w := O + o + a) (m := T + o + a) (by omega) hT k σ hO h1 h2 hk ht
  rcases ha with ha | ha
  · subst ha
    refine ⟨σ1, g1, g2.mono (by decide), g3, by rw [g2.i (c := 1345) (by decide), h2], ?_, fun e he => g5 e (by omega)⟩
    rw [if_neg (by decide)]
    exact g4
  · subst ha
    have s1 := cl_and (σ := σ1) (c := c) (w := O + o) (m := T + o) (by rw [g3]) (by rw [g2.i (c := 1345) (by decide), h2]) (by omega) (by omega) (by rw [g2.i (c := 1344) (by decide)]; exact hA rfl) (by omega)
    refine ⟨_, g1.trans (wh_stp s1), (((g2.mono (by decide)).sI (by decide)).sI (by decide)).sI (by decide), by rw [ii (by omega), ii (by omega), gs], by rw [ii (by omega), gs], ?_, fun e he => ?_⟩
    · rw [gs, if_pos rfl, g4, g5 _ (by omega)]
    · rw [ii (by omega), ii (by omega), ii (by omega), g5 e (by omega)]
theorem close2 {σ : St} {O T o a k : Nat} (ho : o = 0 ∨ o = 1) (ha : a = 0 ∨ a = 1) (hO : O + o + a + k ≤ 84) (hT : T + o + a < 84) (h1 : gI σ 1343 0 0 = ((O + o + a + k : Nat) : Int)) (h2 : gI σ 1345 0 0 = ((T + o + a + 1 : Nat) : Int)) (hk : ∀ j, j < k → gI σ 1344 0 (O + o + a + j) = 33) (hA : a = 1 → gI σ 1344 0 (O + o) = 38) (hB : o = 1 → gI σ 1344 0 O = 124) (hz : O = 0 ∨ gI σ 1344 0 (O - 1) = 40) (ht : b01 (gI σ 1346 0 (T + o + a))) : ∃ σ', fX12_closeTo 2 σ = some ((), σ') ∧ Ex [1343, 1345, 1346] σ σ' ∧ gI σ' 1343 0 0 = ((O + o : Nat) : Int) ∧ gI σ' 1345 0 0 = ((T + o + 1 : Nat) : Int) ∧ gI σ' 1346 0 (T + o) = (if a = 1 then an (gI σ 1346 0 (T + o)) (xk (gI σ 1346 0 (T + o + a)) k) else xk (gI σ 1346 0 (T + o + a)) k) ∧ ∀ e, e < T + o → gI σ' 1346 0 e = gI σ 1346 0 e := by
  obtain ⟨σ1, g1, g2, g3, g4, g5, g6⟩ := closeA (c := 2) (Or.inr rfl) ho ha hO hT h1 h2 hk hA ht
  refine ⟨σ1, ?_, g2, g3, g4, g5, g6⟩
  have s1 := cl_stop (σ := σ1) (c := 2) (w := O + o) g3 (by omega) (by
    rcases ho with q | q
    · subst q
      rcases hz with z | z
      · exact Or.inl (by omega)
      · by_cases y : O = 0
        · exact Or.inl (by omega)
        · exact Or.inr (Or.inl ⟨by rw [g2.i (c := 1344) (by decide)]; exact z, by decide⟩)
    · subst q
      exact Or.inr (Or.inr ⟨by rw [g2.i (c := 1344) (by decide)]; exact hB rfl, by decide⟩))
  unfold fX12_closeTo fX12_closeTo_j0 fX12_closeTo_j171
  rw [g1, wh_inr s1]; rfl
theorem close1 {σ : St} {O T o a k : Nat} (ho : o = 0 ∨ o = 1) (ha : a = 0 ∨ a = 1) (hO : O + o + a + k ≤ 84) (hT : T + o + a < 84) (h1 : gI σ 1343 0 0 = ((O + o + a + k : Nat) : Int)) (h2 : gI σ 1345 0 0 = ((T + o + a + 1 : Nat) : Int)) (hk : ∀ j, j < k → gI σ 1344 0 (O + o + a + j) = 33) (hA : a = 1 → gI σ 1344 0 (O + o) = 38) (hB : o = 1 → gI σ 1344 0 O = 124) (hz : O = 0 ∨ gI σ 1344 0 (O - 1) = 40) (ht : b01 (gI σ 1346 0 (T + o + a))) : ∃ σ', fX12_closeTo 1 σ = some ((), σ') ∧ Ex [1343, 1345, 1346] σ σ' ∧ gI σ' 1343 0 0 = (O : Int) ∧ gI σ' 1345 0 0 = ((T + 1 : Nat) : Int) ∧ gI σ' 1346 0 T = (if o = 1 then oo (gI σ 1346 0 T) (if a = 1 then an (gI σ 1346 0 (T + o)) (xk (gI σ 1346 0 (T + o + a)) k) else xk (gI σ 1346 0 (T + o + a)) k) else (if a = 1 then an (gI σ 1346 0 (T + o)) (xk (gI σ 1346 0 (T + o + a)) k) else xk (gI σ 1346 0 (T + o + a)) k)) ∧ ∀ e, e < T → gI σ' 1346 0 e = gI σ 1346 0 e := by
  obtain ⟨σ1, g1, g2, g3, g4, g5, g6⟩ := closeA (c := 1) (Or.inl rfl) ho ha hO hT h1 h2 hk hA ht
  rcases ho with q | q
  · subst q
    have s1 := cl_stop (σ := σ1) (c := 1) (w := O) g3 (by omega) (by
      rcases hz with z | z
      · exact Or.inl z
      · exact Or.inr (Or.inl ⟨by rw [g2.i (c := 1344) (by decide)]; exact z, by decide⟩))
    refine ⟨σ1, ?_, g2, g3, g4, ?_, fun e he => g6 e (by omega)⟩
    · unfold fX12_closeTo fX12_closeTo_j0 fX12_closeTo_j171
      rw [g1, wh_inr s1]; rfl
    · rw [if_neg (by decide)]; exact g5
  · subst q
    have s0 := cl_or (σ := σ1) (c := 1) (w := O) (m := T) g3 g4 (by omega) (by omega) (by rw [g2.i (c := 1344) (by decide)]; exact hB rfl) (by decide)
    have hx : Ex [1343, 1345, 1346] σ (sI (sI (sI σ1 1343 0 0 (O : Int)) 1345 0 0 ((T + 1 : Nat) : Int)) 1346 0 T (oo (gI σ1 1346 0 T) (gI σ1 1346 0 (T + 1)))) := ((g2.sI (by decide)).sI (by decide)).sI (by decide)
    have s1 := cl_stop (σ := sI (sI (sI σ1 1343 0 0 (O : Int)) 1345 0 0 ((T + 1 : Nat) : Int)) 1346 0 T (oo (gI σ1 1346 0 T) (gI σ1 1346 0 (T + 1)))) (c := 1) (w := O) (by rw [ii (by omega), ii (by omega), gs]) (by omega) (by
      rcases hz with z | z
      · exact Or.inl z
      · exact Or.inr (Or.inl ⟨by rw [hx.i (c := 1344) (by decide)]; exact z, by decide⟩))
    refine ⟨_, ?_, hx, by rw [ii (by omega), ii (by omega), gs], by rw [ii (by omega), gs], ?_, fun e he => ?_⟩
    · unfold fX12_closeTo fX12_closeTo_j0 fX12_closeTo_j171
      rw [g1, wh_stp s0, wh_inr s1]; rfl
    · rw [gs, if_pos rfl, g5, g6 T (by omega)]
    · rw [ii (by omega), ii (by omega), ii (by omega), g6 e (by omega)]
