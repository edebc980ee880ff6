/-! the model's search for the best row -/
def thv (p : Nat → Nat) (m t : Nat) : Nat := (9 * vm (dg p m) m + (8 - t)) * 9 ^ (8 - m)
theorem th_t {p : Nat → Nat} {m t t2 : Nat} (h : t ≤ t2) : thv p m t2 ≤ thv p m t := by
  unfold thv
  exact Nat.mul_le_mul_right _ (by omega)
theorem th_push {p p2 : Nat → Nat} {m t : Nat} (hm : m ≤ 7) (ht : t ≤ 7) (hc : ∀ e, e < m → p2 e = p e) (ht2 : p2 m = t) : thv p2 (m + 1) 0 < thv p m t := by
  unfold thv
  rw [vm_ext hc ht2, show 8 - m = 8 - (m + 1) + 1 by omega, Nat.pow_succ]
  have h1 : 0 < 9 ^ (8 - (m + 1)) := Nat.pow_pos (by decide)
  generalize 9 ^ (8 - (m + 1)) = X at h1
  rw [Nat.mul_comm X 9, ← Nat.mul_assoc]
  exact Nat.mul_lt_mul_of_pos_right (by omega) h1
theorem th_pop {p : Nat → Nat} {m n : Nat} (hm : m ≤ 7) (hp : p m ≤ 7) : thv p m (p m + 1) ≤ thv p (m + 1) n := by
  unfold thv
  rw [vm_ext (p := p) (p2 := p) (m := m) (t := p m) (fun e he => rfl) rfl, show 8 - m = 8 - (m + 1) + 1 by omega, Nat.pow_succ]
  generalize 9 ^ (8 - (m + 1)) = X
  rw [Nat.mul_comm X 9, ← Nat.mul_assoc]
  exact Nat.mul_le_mul_right _ (by omega)
/-- where the search stands -/
def DFS (σ : St) (l d : Int) (bv : Nat → Int) (τ : St) (p : Nat → Nat) (m t : Nat) : Prop :=
  LsM σ l d bv τ (gN σ 8) ∧ (∀ e, e < m → gI τ 1363 0 e = (p e : Int)) ∧ OKr (gN σ 8) (mayB σ l d bv) (apV σ) p m ∧ jlen (gN σ 8) p (feetV σ) m ≤ gI σ 501 0 0 ∧
  ∃ (br : Nat → Nat) (bk : Nat), gI τ 1365 0 0 = (bk : Int) ∧ (∀ j, j < bk → gI τ 1364 0 j = (br j : Int)) ∧ BST (gN σ 8) (mayB σ l d bv) (apV σ) (feetV σ) (wthV σ) (gI σ 500 0 0) (gI σ 501 0 0) (setN (msB σ l d bv) (gN σ 8)) (gI τ 1366 0 0) br bk (PRr p m t)
theorem wthV_bd {σ : St} {i : Nat} (hR : RR σ) (hi : i < gN σ 8) : 0 ≤ wthV σ i ∧ wthV σ i ≤ 999 := by
  obtain ⟨y1, y2, y3, y4, y5, y6, y7, y8, z1, z2, z3, z4, -⟩ := hR.2.2.2.2.1.2.2.2.1 i hi
  unfold wthV
  split
  · omega
  · rw [idivI (by omega) (by omega)]
    omega
theorem follow_m {σ τ : St} {l d : Int} {bv : Nat → Int} {p : Nat → Nat} {m t : Nat} (hR : RR σ) (h : DFS σ l d bv τ p m t) (ht : t < gN σ 8) {t2 : Nat} (ht2 : t2 < gN σ 8) : fX12_mayFollow (m : Int) ((jset (gN σ 8) p m : Nat) : Int) (jlen (gN σ 8) p (feetV σ) m) (t2 : Int) τ = some (if mayB σ l d bv t2 = true ∧ ¬ (jset (gN σ 8) p m).testBit t2 = true ∧ (m = 0 ∨ apV σ (8 * p (m - 1) + t2) = 0) ∧ jlen (gN σ 8) p (feetV σ) m + feetV σ t2 ≤ gI σ 501 0 0 then 1 else 0) := by
  obtain ⟨h1, h2, h3, h4, -⟩ := h
  have hn := hR.2.2.2.2.1.2.2.1
  have hm := h3.k8 hn
  obtain ⟨y1, y2, y3, y4, y5, y6⟩ := hR.2.2.2.2.2.2.2.2.1
  have hjl := jset_lt (n := gN σ 8) (s := p) m
  have h256 : 2 ^ gN σ 8 ≤ 2 ^ 8 := Nat.pow_le_pow_right (by omega) hn
  have hfb := feetV_bd hR ht2
  have hlb := jlen_bd (n := gN σ 8) (s := p) (F := feetV σ) (fun i hi => feetV_bd hR hi) m
  obtain ⟨w1, w2, w3⟩ := h1.2.2 t2 ht2
  have key : ∀ b : Int, (b = 0 ∨ b = 1) → fX12_mayFollow_j31 ((jset (gN σ 8) p m : Nat) : Int) (jlen (gN σ 8) p (feetV σ) m) (t2 : Int) b τ = some (if mayB σ l d bv t2 = true ∧ ¬ (jset (gN σ 8) p m).testBit t2 = true ∧ b = 0 ∧ jlen (gN σ 8) p (feetV σ) m + feetV σ t2 ≤ gI σ 501 0 0 then 1 else 0) := by
    intro b hb
    unfold fX12_mayFollow_j31
    rw [ck_x (by omega) (by omega), Int.toNat_natCast, w1, w2, iandshr (by omega) (by omega), h1.1.i (c := 1356) (by decide), y2]
    by_cases c1 : mayB σ l d bv t2 = true
    · rw [if_neg (by rw [b2i_pos c1]; decide)]
      by_cases c2 : (jset (gN σ 8) p m).testBit t2 = true
      · rw [if_neg (by rw [b2i_pos c2]; decide), if_neg (fun z => z.2.1 c2)]
      · rw [if_pos (b2i_neg c2)]
        by_cases c3 : b = 0
        · rw [if_pos c3, ck_x (by omega) (by omega), ck_i (by omega) (by omega)]
          by_cases c4 : jlen (gN σ 8) p (feetV σ) m + feetV σ t2 ≤ gI σ 501 0 0
          · rw [if_neg (by omega), if_pos ⟨c1, c2, c3, c4⟩]
          · rw [if_pos (by omega), if_neg (fun z => c4 z.2.2.2)]
        · rw [if_neg c3, if_neg (fun z => c3 z.2.2.1)]
    · rw [if_pos (b2i_neg c1), if_neg (fun z => c1 z.1)]
  unfold fX12_mayFollow fX12_mayFollow_j30
  by_cases c : m = 0
  · rw [if_pos (by omega), key 0 (Or.inl rfl)]
    apply congrArg some
    by_cases q : mayB σ l d bv t2 = true ∧ ¬ (jset (gN σ 8) p m).testBit t2 = true ∧ (0 : Int) = 0 ∧ jlen (gN σ 8) p (feetV σ) m + feetV σ t2 ≤ gI σ 501 0 0
    · rw [if_pos q, if_pos ⟨q.1, q.2.1, Or.inl c, q.2.2.2⟩]
    · rw [if_neg q, if_neg (fun z => q ⟨z.1, z.2.1, rfl, z.2.2.2⟩)]
  · have hpm := (h3.1 (m - 1) (by omega)).1
    have t1 : ((m : Int) - 1).toNat = m - 1 := by omega
    have t3 : (8 * (p (m - 1) : Int) + (t2 : Int)).toNat = 8 * p (m - 1) + t2 := by omega
    rw [if_neg (by omega), ck_i (by omega) (by omega), ck_x (by omega) (by omega), t1, h2 (m - 1) (by omega), ck_i (by omega) (by omega), ck_i (by omega) (by omega), ck_x (by omega) (by omega), t3, h1.1.i (c := 1357) (by decide), key 0 (Or.inl rfl), key 1 (Or.inr rfl)]
    show (if apV σ (8 * p (m - 1) + t2) = 0 then _ else _) = _
    by_cases c2 : apV σ (8 * p (m - 1) + t2) = 0
    · rw [if_pos c2]
      apply congrArg some
      by_cases q : mayB σ l d bv t2 = true ∧ ¬ (jset (gN σ 8) p m).testBit t2 = true ∧ (0 : Int) = 0 ∧ jlen (gN σ 8) p (feetV σ) m + feetV σ t2 ≤ gI σ 501 0 0
      · rw [if_pos q, if_pos ⟨q.1, q.2.1, Or.inr c2, q.2.2.2⟩]
      · rw [if_neg q, if_neg (fun z => q ⟨z.1, z.2.1, rfl, z.2.2.2⟩)]
    · rw [if_neg c2, if_neg (fun z => absurd z.2.2.1 (by decide)), if_neg (fun z => by rcases z.2.2.1 with w | w; exact c w; exact c2 w)]
/-- the next that may follow -/
theorem next_m {σ τ : St} {l d : Int} {bv : Nat → Int} {p : Nat → Nat} {m t : Nat} (hR : RR σ) (h : DFS σ l d bv τ p m t) (ht : t ≤ gN σ 8) : ∃ t2, t ≤ t2 ∧ t2 ≤ gN σ 8 ∧ wh (fun s => fX12_layReel_l39 (m : Int) ((jset (gN σ 8) p m : Nat) : Int) (jlen (gN σ 8) p (feetV σ) m) (jlen (gN σ 8) p (wthV σ) m) 1 τ s) (t : Int) = some (t2 : Int) ∧ DFS σ l d bv τ p m t2 ∧ (t2 = gN σ 8 ∨ FOL (gN σ 8) (mayB σ l d bv) (apV σ) (feetV σ) (gI σ 501 0 0) p m t2) := by
  have hn := hR.2.2.2.2.1.2.2.1
  have key : ∀ i t, t + i = gN σ 8 → DFS σ l d bv τ p m t → ∃ t2, t ≤ t2 ∧ t2 ≤ gN σ 8 ∧ wh (fun s => fX12_layReel_l39 (m : Int) ((jset (gN σ 8) p m : Nat) : Int) (jlen (gN σ 8) p (feetV σ) m) (jlen (gN σ 8) p (wthV σ) m) 1 τ s) (t : Int) = some (t2 : Int) ∧ DFS σ l d bv τ p m t2 ∧ (t2 = gN σ 8 ∨ FOL (gN σ 8) (mayB σ l d bv) (apV σ) (feetV σ) (gI σ 501 0 0) p m t2) := by
    intro i
    induction i with
    | zero =>
      intro t hi h
      have : t = gN σ 8 := by omega
      subst this
      refine ⟨gN σ 8, Nat.le_refl _, Nat.le_refl _, wh_inr ?_, h, Or.inl rfl⟩
      show fX12_layReel_l39 _ _ _ _ _ τ (gN σ 8 : Int) = _
      unfold fX12_layReel_l39
      rw [h.1.1.i (c := 1326) (by decide), hR.2.2.2.2.1.1, if_pos (Int.le_refl _)]
    | succ i ih =>
      intro t hi h
      have ht : t < gN σ 8 := by omega
      have hf := follow_m hR h ht ht
      by_cases c : FOL (gN σ 8) (mayB σ l d bv) (apV σ) (feetV σ) (gI σ 501 0 0) p m t
      · rw [if_pos (by exact c)] at hf
        refine ⟨t, Nat.le_refl _, by omega, wh_inr ?_, h, Or.inr c⟩
        show fX12_layReel_l39 _ _ _ _ _ τ (t : Int) = _
        unfold fX12_layReel_l39
        rw [h.1.1.i (c := 1326) (by decide), hR.2.2.2.2.1.1, if_neg (by omega), hf, bnk_some, if_neg (by decide)]
      · rw [if_neg (by exact c)] at hf
        have h2 : DFS σ l d bv τ p m (t + 1) := by
          obtain ⟨g1, g2, g3, g4, br, bk, g5, g6, g7⟩ := h
          exact ⟨g1, g2, g3, g4, br, bk, g5, g6, BST_iff g7 (fun r k hv => step1 hn (fun i hi => (feetV_bd hR hi).1) g3 ht c hv)⟩
        obtain ⟨t2, k1, k2, k3, k4, k5⟩ := ih (t + 1) (by omega) h2
        refine ⟨t2, by omega, k2, ?_, k4, k5⟩
        refine wh_inl ?_ k3
        show fX12_layReel_l39 _ _ _ _ _ τ (t : Int) = some (.inl ((t + 1 : Nat) : Int))
        unfold fX12_layReel_l39
        rw [h.1.1.i (c := 1326) (by decide), hR.2.2.2.2.1.1, if_neg (by omega), hf, bnk_some, if_pos rfl, ck_i (by omega) (by omega)]; rfl
  exact key (gN σ 8 - t) t (by omega) h
/-- a row kept -/
def kpS (τ : St) : Nat → St
  | 0 => τ
  | e + 1 => sI (kpS τ e) 1364 0 e (gI (kpS τ e) 1363 0 e)
theorem kpS_p (τ : St) (e : Nat) : Ex [1364] τ (kpS τ e) ∧ ∀ j, j < e → gI (kpS τ e) 1364 0 j = gI τ 1363 0 j := by
  induction e with
  | zero => exact ⟨Ex.rf, fun j hj => by omega⟩
  | succ e ih =>
    obtain ⟨h1, h2⟩ := ih
    refine ⟨h1.sI (by decide), fun j hj => ?_⟩
    show gI (sI (kpS τ e) 1364 0 e (gI (kpS τ e) 1363 0 e)) 1364 0 j = _
    by_cases q : j = e
    · rw [q, gs, h1.i (c := 1363) (by decide)]
    · rw [ii (by omega)]; exact h2 j (by omega)
theorem keep_m {τ : St} {k : Nat} {s x w : Int} (hk : k ≤ 8) : ∃ τ', fX12_keep (k : Int) s x w τ = some ((), τ') ∧ Ex [1364, 1365, 1366] τ τ' ∧ ((gI τ 1355 0 0 ≤ x ∧ iand s (gI τ 1362 0 0) = gI τ 1362 0 0 ∧ gI τ 1366 0 0 < w) → gI τ' 1366 0 0 = w ∧ gI τ' 1365 0 0 = (k : Int) ∧ ∀ j, j < k → gI τ' 1364 0 j = gI τ 1363 0 j) ∧ (¬ (gI τ 1355 0 0 ≤ x ∧ iand s (gI τ 1362 0 0) = gI τ 1362 0 0 ∧ gI τ 1366 0 0 < w) → τ' = τ) := by
  unfold fX12_keep fX12_keep_j70
  by_cases c1 : gI τ 1355 0 0 ≤ x
  · rw [if_neg (by omega)]
    by_cases c2 : iand s (gI τ 1362 0 0) = gI τ 1362 0 0
    · rw [if_pos c2]
      by_cases c3 : gI τ 1366 0 0 < w
      · rw [if_neg (by omega)]
        have hx0 : Ex [1364, 1365, 1366] τ (sI (sI τ 1366 0 0 w) 1365 0 0 (k : Int)) := (Ex.rf.sI (by decide)).sI (by decide)
        have v63 : ∀ e, gI (sI (sI τ 1366 0 0 w) 1365 0 0 (k : Int)) 1363 0 e = gI τ 1363 0 e := fun e => by rw [ii (by omega), ii (by omega)]
        have v66 : gI (sI (sI τ 1366 0 0 w) 1365 0 0 (k : Int)) 1366 0 0 = w := by rw [ii (by omega), gs]
        have v65 : gI (sI (sI τ 1366 0 0 w) 1365 0 0 (k : Int)) 1365 0 0 = (k : Int) := gs
        generalize sI (sI τ 1366 0 0 w) 1365 0 0 (k : Int) = τ1 at hx0 v63 v65 v66
        obtain ⟨h1, h2⟩ := kpS_p τ1 k
        refine ⟨kpS τ1 k, ?_, hx0.trans (h1.mono (by decide)), fun _ => ⟨by rw [h1.i (c := 1366) (by decide)]; exact v66, by rw [h1.i (c := 1365) (by decide)]; exact v65, fun j hj => by rw [h2 j hj, v63]⟩, fun z => absurd ⟨c1, c2, c3⟩ z⟩
        unfold fX12_keep_j44 fX12_keep_j70
        have hw := wh_seq (f := fun z => fX12_keep_l44 (k : Int) z.1 z.2) (r := kpS τ1 k) k (fun e => ((e : Int), kpS τ1 e)) ?_ ?_
        · exact bnk_of hw rfl
        · intro e he
          show fX12_keep_l44 (k : Int) (e : Int) (kpS τ1 e) = some (.inl ((e : Int) + 1, sI (kpS τ1 e) 1364 0 e (gI (kpS τ1 e) 1363 0 e)))
          unfold fX12_keep_l44
          rw [if_neg (by omega), ck_x (by omega) (by omega), ck_x (by omega) (by omega), ck_i (by omega) (by omega), Int.toNat_natCast]
        · show fX12_keep_l44 (k : Int) (k : Int) (kpS τ1 k) = _
          unfold fX12_keep_l44
          rw [if_pos (Int.le_refl _)]
      · rw [if_pos (by omega)]
        exact ⟨τ, rfl, Ex.rf, fun z => absurd z.2.2 c3, fun _ => rfl⟩
    · rw [if_neg c2]
      exact ⟨τ, rfl, Ex.rf, fun z => absurd z.2.1 c2, fun _ => rfl⟩
  · rw [if_pos (by omega)]
    exact ⟨τ, rfl, Ex.rf, fun z => absurd z.1 c1, fun _ => rfl⟩
def SRm : List Nat := [1363, 1364, 1365, 1366]
theorem LsM.ex {σ τ τ2 : St} {l d : Int} {bv : Nat → Int} {k : Nat} (h : LsM σ l d bv τ k) (hx : Ex SRm τ τ2) : LsM σ l d bv τ2 k := by
  obtain ⟨h1, h2, h3⟩ := h
  refine ⟨h1.trans (AgM.of hx (by decide)), by rw [hx.i (c := 1362) (by decide)]; exact h2, fun i hi => ?_⟩
  rw [hx.i (c := 1359) (by decide), hx.i (c := 1360) (by decide), hx.i (c := 1361) (by decide)]
  exact h3 i hi
theorem jsetb {n : Nat} {r : Nat → Nat} {m : Nat} (h1 : r m < n) (h2 : ¬ (jset n r m).testBit (r m) = true) (hn : n ≤ 8) : iand ((jset n r (m + 1) : Nat) : Int) (ixor (ishl 1 (r m : Int)) (-1)) = ((jset n r m : Nat) : Int) := by
  have hjl := jset_lt (n := n) (s := r) (m + 1)
  have h256 : 2 ^ n ≤ 2 ^ 8 := Nat.pow_le_pow_right (by omega) hn
  obtain ⟨v, e1, e2, e3⟩ := clr_nat (a := jset n r (m + 1)) (k := r m) (by omega) (by omega)
  rw [e1]
  have : v = jset n r m := by
    apply Nat.eq_of_testBit_eq
    intro i
    rw [e3 i]
    show (((if r m < n then jset n r m ||| 2 ^ r m else jset n r m)).testBit i && decide (i ≠ r m)) = _
    rw [if_pos h1, Nat.testBit_or, Nat.testBit_two_pow]
    by_cases q : i = r m
    · have : (jset n r m).testBit i = false := by rw [q]; simpa using h2
      rw [this]
      simp [q]
    · have : ¬ r m = i := fun z => q z.symm
      simp [q, this]
  rw [this]
theorem dfs_m {σ : St} {l d : Int} {bv : Nat → Int} (hR : RR σ) : ∀ M τ p m t, thv p m t * 16 + m < M → t ≤ gN σ 8 → DFS σ l d bv τ p m t → ∃ (τ' : St) (br : Nat → Nat) (bk : Nat), wh (fun s => fX12_layReel_l34 s.1 s.2.1 s.2.2.1 s.2.2.2.1 s.2.2.2.2.1 s.2.2.2.2.2.1 s.2.2.2.2.2.2) (((m : Int), ((jset (gN σ 8) p m : Nat) : Int), jlen (gN σ 8) p (feetV σ) m, jlen (gN σ 8) p (wthV σ) m, (t : Int), 1, τ)) = some τ' ∧ Ex SRm τ τ' ∧ gI τ' 1365 0 0 = (bk : Int) ∧ (∀ j, j < bk → gI τ' 1364 0 j = (br j : Int)) ∧ BST (gN σ 8) (mayB σ l d bv) (apV σ) (feetV σ) (wthV σ) (gI σ 500 0 0) (gI σ 501 0 0) (setN (msB σ l d bv) (gN σ 8)) (gI τ' 1366 0 0) br bk (fun _ _ => True) := by
  have hn := hR.2.2.2.2.1.2.2.1
  obtain ⟨y1, y2, y3, y4, y5, y6⟩ := hR.2.2.2.2.2.2.2.2.1
  have h256 : 2 ^ gN σ 8 ≤ 2 ^ 8 := Nat.pow_le_pow_right (by omega) hn
  intro M
  induction M with
  | zero => intro τ p m t hM; omega
  | succ M ih =>
    intro τ p m t hM ht h
    obtain ⟨t2, k1, k2, k3, k4, k5⟩ := next_m hR h ht
    have hth := th_t (p := p) (m := m) k1
    obtain ⟨g1, g2, g3, g4, br, bk, g5, g6, g7⟩ := id k4
    have hm8 := g3.k8 hn
    have hlb := jlen_bd (n := gN σ 8) (s := p) (F := feetV σ) (fun i hi => feetV_bd hR hi) m
    have hwb := jlen_bd (n := gN σ 8) (s := p) (F := wthV σ) (fun i hi => by have := wthV_bd hR hi; omega) m
    have hjl := jset_lt (n := gN σ 8) (s := p) m
    have l34 : fX12_layReel_l34 (m : Int) ((jset (gN σ 8) p m : Nat) : Int) (jlen (gN σ 8) p (feetV σ) m) (jlen (gN σ 8) p (wthV σ) m) (t : Int) 1 τ = fX12_layReel_j68 (m : Int) ((jset (gN σ 8) p m : Nat) : Int) (jlen (gN σ 8) p (feetV σ) m) (jlen (gN σ 8) p (wthV σ) m) (t2 : Int) 1 τ := by
      unfold fX12_layReel_l34 fX12_layReel_j39
      rw [if_neg (by decide), k3, bnk_some]
    have n26 : gI τ 1326 0 0 = (gN σ 8 : Int) := by rw [g1.1.i (c := 1326) (by decide)]; exact hR.2.2.2.2.1.1
    by_cases c : t2 = gN σ 8
    · by_cases c2 : m = 0
      · -- the end
        subst c2
        have e1 : fX12_layReel_l34 ((0 : Nat) : Int) ((jset (gN σ 8) p 0 : Nat) : Int) (jlen (gN σ 8) p (feetV σ) 0) (jlen (gN σ 8) p (wthV σ) 0) (t : Int) 1 τ = some (.inl (((0 : Nat) : Int), ((jset (gN σ 8) p 0 : Nat) : Int), jlen (gN σ 8) p (feetV σ) 0, jlen (gN σ 8) p (wthV σ) 0, (t2 : Int), 0, τ)) := by
          rw [l34]
          unfold fX12_layReel_j68
          rw [n26, if_pos (by omega), if_pos (by decide)]
        refine ⟨τ, br, bk, ?_, Ex.rf, g5, g6, BST_iff g7 (fun r k hv => ?_)⟩
        · refine wh_inl e1 (wh_inr ?_)
          show fX12_layReel_l34 _ _ _ _ _ 0 τ = _
          unfold fX12_layReel_l34
          rw [if_pos rfl]
        · rw [c]
          exact ⟨fun _ => prA hn hv.2.1 (fun e he => (hv.1.1 e he).1), fun _ => trivial⟩
      · -- back
        obtain ⟨m2, rfl⟩ : ∃ m2, m = m2 + 1 := ⟨m - 1, by omega⟩
        obtain ⟨q1, q2⟩ := g3.1 m2 (by omega)
        have hpm : gI τ 1363 0 m2 = (p m2 : Int) := g2 m2 (by omega)
        obtain ⟨w1, w2, w3⟩ := g1.2.2 (p m2) q1
        have f1 := feetV_bd hR q1
        have f2 := wthV_bd hR q1
        have lF : jlen (gN σ 8) p (feetV σ) (m2 + 1) = jlen (gN σ 8) p (feetV σ) m2 + feetV σ (p m2) := by
          show (if p m2 < gN σ 8 then _ else _) = _
          rw [if_pos q1]
        have lW : jlen (gN σ 8) p (wthV σ) (m2 + 1) = jlen (gN σ 8) p (wthV σ) m2 + wthV σ (p m2) := by
          show (if p m2 < gN σ 8 then _ else _) = _
          rw [if_pos q1]
        have e1 : fX12_layReel_l34 ((m2 + 1 : Nat) : Int) ((jset (gN σ 8) p (m2 + 1) : Nat) : Int) (jlen (gN σ 8) p (feetV σ) (m2 + 1)) (jlen (gN σ 8) p (wthV σ) (m2 + 1)) (t : Int) 1 τ = some (.inl ((m2 : Int), ((jset (gN σ 8) p m2 : Nat) : Int), jlen (gN σ 8) p (feetV σ) m2, jlen (gN σ 8) p (wthV σ) m2, ((p m2 + 1 : Nat) : Int), 1, τ)) := by
          rw [l34]
          have t1 : ((m2 + 1 : Nat) : Int) + -1 = (m2 : Int) := by omega
          unfold fX12_layReel_j68
          rw [n26, if_pos (by omega), if_neg (by omega), t1, ck_i (by omega) (by omega), ck_x (by omega) (by omega), Int.toNat_natCast, hpm, Int.toNat_natCast, w2, w3, ck_x (by omega) (by omega), ck_i (by omega) (by omega), ck_x (by omega) (by omega), ck_i (by omega) (by omega), ck_i (by omega) (by omega), jsetb q1 q2 hn, lF, lW, show jlen (gN σ 8) p (feetV σ) m2 + feetV σ (p m2) - feetV σ (p m2) = jlen (gN σ 8) p (feetV σ) m2 by omega, show jlen (gN σ 8) p (wthV σ) m2 + wthV σ (p m2) - wthV σ (p m2) = jlen (gN σ 8) p (wthV σ) m2 by omega]; rfl
        have hpop := th_pop (p := p) (m := m2) (n := gN σ 8) (by omega) (by omega)
        obtain ⟨τ', br2, bk2, z1, z2, z3, z4, z5⟩ := ih τ p m2 (p m2 + 1) (by rw [c] at hth; omega) (by omega) ⟨g1, fun e he => g2 e (by omega), g3.pre (by omega), by omega, br, bk, g5, g6, BST_iff g7 (fun r k hv => by rw [c]; exact step3 hn (fun e he => (g3.1 e he).1) (fun e he => (hv.1.1 e he).1))⟩
        exact ⟨τ', br2, bk2, wh_inl e1 z1, z2, z3, z4, z5⟩
    · -- on
      have ht2 : t2 < gN σ 8 := by omega
      have hf : FOL (gN σ 8) (mayB σ l d bv) (apV σ) (feetV σ) (gI σ 501 0 0) p m t2 := by rcases k5 with z | z; exact absurd z c; exact z
      obtain ⟨v1, v2, v3, v4⟩ := hf
      have hc2 : ∀ e, e < m → (fun e => if e = m then t2 else p e) e = p e := fun e he => if_neg (by omega)
      have hm2 : (fun e => if e = m then t2 else p e) m = t2 := if_pos rfl
      generalize (fun e => if e = m then t2 else p e) = p2 at hc2 hm2
      have js : jset (gN σ 8) p2 m = jset (gN σ 8) p m := jset_c m hc2
      have ok2 : OKr (gN σ 8) (mayB σ l d bv) (apV σ) p2 (m + 1) := by
        have g3' := g3.c (fun e he => (hc2 e he).symm)
        refine ⟨fun e he => ?_, fun e he => ?_, fun e he => ?_⟩
        · by_cases q : e = m
          · rw [q, hm2, js]; exact ⟨ht2, v2⟩
          · exact g3'.1 e (by omega)
        · by_cases q : e = m
          · rw [q, hm2]; exact v1
          · exact g3'.2.1 e (by omega)
        · by_cases q : e + 1 = m
          · rw [hc2 e (by omega), q, hm2]
            rcases v3 with z | z
            · omega
            · rw [show m - 1 = e by omega] at z; exact z
          · exact g3'.2.2 e (by omega)
      have hm7 := ok2.k8 hn
      obtain ⟨w1, w2, w3⟩ := g1.2.2 t2 ht2
      have f1 := feetV_bd hR ht2
      have f2 := wthV_bd hR ht2
      have lF : jlen (gN σ 8) p2 (feetV σ) (m + 1) = jlen (gN σ 8) p (feetV σ) m + feetV σ t2 := by
        show (if p2 m < gN σ 8 then jlen (gN σ 8) p2 (feetV σ) m + feetV σ (p2 m) else _) = _
        rw [hm2, if_pos ht2, jlen_c m hc2]
      have lW : jlen (gN σ 8) p2 (wthV σ) (m + 1) = jlen (gN σ 8) p (wthV σ) m + wthV σ t2 := by
        show (if p2 m < gN σ 8 then jlen (gN σ 8) p2 (wthV σ) m + wthV σ (p2 m) else _) = _
        rw [hm2, if_pos ht2, jlen_c m hc2]
      have jS : jset (gN σ 8) p2 (m + 1) = jset (gN σ 8) p m ||| 2 ^ t2 := by
        show (if p2 m < gN σ 8 then jset (gN σ 8) p2 m ||| 2 ^ p2 m else _) = _
        rw [hm2, if_pos ht2, js]
      have h2p : 2 ^ t2 ≤ 2 ^ 8 := Nat.pow_le_pow_right (by omega) (by omega)
      have hx1 : Ex SRm τ (sI τ 1363 0 m (t2 : Int)) := Ex.rf.sI (by decide)
      have r63 : ∀ e, e < m + 1 → gI (sI τ 1363 0 m (t2 : Int)) 1363 0 e = (p2 e : Int) := fun e he => by
        by_cases q : e = m
        · rw [q, gs, hm2]
        · rw [ii (by omega), g2 e (by omega), hc2 e (by omega)]
      have r55 : gI (sI τ 1363 0 m (t2 : Int)) 1355 0 0 = gI σ 500 0 0 := by rw [ii (by omega), g1.1.i (c := 1355) (by decide)]; exact y1
      have r62 : gI (sI τ 1363 0 m (t2 : Int)) 1362 0 0 = ((setN (msB σ l d bv) (gN σ 8) : Nat) : Int) := by rw [ii (by omega)]; exact g1.2.1
      have r66 : gI (sI τ 1363 0 m (t2 : Int)) 1366 0 0 = gI τ 1366 0 0 := ii (by omega)
      obtain ⟨τ1, e2, e3, e4, e5⟩ := keep_m (τ := sI τ 1363 0 m (t2 : Int)) (k := m + 1) (s := ((jset (gN σ 8) p2 (m + 1) : Nat) : Int)) (x := jlen (gN σ 8) p2 (feetV σ) (m + 1)) (w := jlen (gN σ 8) p2 (wthV σ) (m + 1)) (by omega)
      rw [r55, r62, r66] at e4 e5
      have e1 : fX12_layReel_l34 (m : Int) ((jset (gN σ 8) p m : Nat) : Int) (jlen (gN σ 8) p (feetV σ) m) (jlen (gN σ 8) p (wthV σ) m) (t : Int) 1 τ = some (.inl (((m + 1 : Nat) : Int), ((jset (gN σ 8) p2 (m + 1) : Nat) : Int), jlen (gN σ 8) p2 (feetV σ) (m + 1), jlen (gN σ 8) p2 (wthV σ) (m + 1), ((0 : Nat) : Int), 1, τ1)) := by
        rw [l34]
        unfold fX12_layReel_j68
        rw [n26, if_neg (by omega), ck_x (by omega) (by omega), ck_i (by omega) (by omega), ck_x (by omega) (by omega), Int.toNat_natCast, w2, w3, ck_i (by omega) (by omega), ck_x (by omega) (by omega), ck_i (by omega) (by omega), show ishl 1 (t2 : Int) = ((2 ^ t2 : Nat) : Int) from ishl_one ⟨t2, by omega⟩, ior_nat (by omega) (by omega), Int.toNat_natCast, ← jS, ← lF, ← lW, show (m : Int) + 1 = ((m + 1 : Nat) : Int) from rfl, e2, bnd_some]; rfl
      have hadd := BST_add (P := PRr p m t2) (Q := PRr p2 (m + 1) 0) (p2 := p2) (m2 := m + 1) g7 (fun i hi => (wthV_bd hR hi).1) (fun r k hv => step2 hn (fun e he => (g3.1 e he).1) (fun e he => (hv.1.1 e he).1) ht2 hc2 hm2) (fun r k hP => pr_gt hm8 (by omega) hc2 hm2 hP)
      have hpush := th_push (p := p) (p2 := p2) (m := m) (t := t2) (by omega) (by omega) hc2 hm2
      have hxx : Ex SRm τ τ1 := hx1.trans (e3.mono (by decide))
      have hrow : ∀ e, e < m + 1 → gI τ1 1363 0 e = (p2 e : Int) := fun e he => by rw [e3.i (c := 1363) (by decide)]; exact r63 e he
      have hcond : VLr (gN σ 8) (mayB σ l d bv) (apV σ) (feetV σ) (gI σ 500 0 0) (gI σ 501 0 0) (setN (msB σ l d bv) (gN σ 8)) p2 (m + 1) ∧ gI τ 1366 0 0 < jlen (gN σ 8) p2 (wthV σ) (m + 1) ↔ gI σ 500 0 0 ≤ jlen (gN σ 8) p2 (feetV σ) (m + 1) ∧ iand ((jset (gN σ 8) p2 (m + 1) : Nat) : Int) ((setN (msB σ l d bv) (gN σ 8) : Nat) : Int) = ((setN (msB σ l d bv) (gN σ 8) : Nat) : Int) ∧ gI τ 1366 0 0 < jlen (gN σ 8) p2 (wthV σ) (m + 1) := by
        constructor
        · rintro ⟨⟨z1, z2, z3, z4, z5⟩, z6⟩
          exact ⟨z3, z5, z6⟩
        · rintro ⟨z1, z2, z3⟩
          exact ⟨⟨ok2, by omega, z1, by omega, z2⟩, z3⟩
      have hinv : DFS σ l d bv τ1 p2 (m + 1) 0 := by
        refine ⟨g1.ex hxx, hrow, ok2, by omega, ?_⟩
        by_cases q : gI σ 500 0 0 ≤ jlen (gN σ 8) p2 (feetV σ) (m + 1) ∧ iand ((jset (gN σ 8) p2 (m + 1) : Nat) : Int) ((setN (msB σ l d bv) (gN σ 8) : Nat) : Int) = ((setN (msB σ l d bv) (gN σ 8) : Nat) : Int) ∧ gI τ 1366 0 0 < jlen (gN σ 8) p2 (wthV σ) (m + 1)
        · obtain ⟨z1, z2, z3⟩ := e4 q
          refine ⟨p2, m + 1, z2, fun j hj => by rw [z3 j hj]; exact r63 j hj, ?_⟩
          rw [z1]
          exact hadd.1 (hcond.mpr q)
        · have z := e5 q
          refine ⟨br, bk, by rw [z, ii (by omega)]; exact g5, fun j hj => by rw [z, ii (by omega)]; exact g6 j hj, ?_⟩
          rw [z, r66]
          exact hadd.2 (fun w => q (hcond.mp w))
      obtain ⟨τ', br2, bk2, z1, z2, z3, z4, z5⟩ := ih τ1 p2 (m + 1) 0 (by omega) (by omega) hinv
      exact ⟨τ', br2, bk2, wh_inl e1 z1, hxx.trans z2, z3, z4, z5⟩
/-- the model's best row -/
theorem reel_m {σ τ : St} {l d : Int} {bv : Nat → Int} (hR : RR σ) (hl : 0 ≤ l ∧ l ≤ 4) (hb : BV σ l d bv) (ha : AgM σ τ) : ∃ (τ' : St) (br : Nat → Nat) (bk : Nat), fX12_layReel l d τ = some ((), τ') ∧ Ex (SLm ++ SRm) τ τ' ∧ gI τ' 1365 0 0 = (bk : Int) ∧ (∀ j, j < bk → gI τ' 1364 0 j = (br j : Int)) ∧ BST (gN σ 8) (mayB σ l d bv) (apV σ) (feetV σ) (wthV σ) (gI σ 500 0 0) (gI σ 501 0 0) (setN (msB σ l d bv) (gN σ 8)) (gI τ' 1366 0 0) br bk (fun _ _ => True) := by
  obtain ⟨τ1, m1, m2, m3⟩ := may_m hR hl hb ha
  obtain ⟨y1, y2, y3, y4, y5, y6⟩ := hR.2.2.2.2.2.2.2.2.1
  have hx : Ex SRm τ1 (sI (sI τ1 1366 0 0 (-9)) 1365 0 0 0) := (Ex.rf.sI (by decide)).sI (by decide)
  obtain ⟨τ', br, bk, z1, z2, z3, z4, z5⟩ := dfs_m (bv := bv) (l := l) (d := d) hR _ (sI (sI τ1 1366 0 0 (-9)) 1365 0 0 0) (fun _ => 0) 0 0 (Nat.lt_succ_self _) (by omega) (by
    refine ⟨m3.ex hx, fun e he => by omega, ⟨fun e he => by omega, fun e he => by omega, fun e he => by omega⟩, ?_, fun _ => 0, 0, gs, fun j hj => by omega, ?_⟩
    · show (0 : Int) ≤ _
      omega
    · rw [ii (by omega), gs]
      exact Or.inl ⟨rfl, rfl, fun r k hv => prN hv.2.1⟩)
  refine ⟨τ', br, bk, ?_, (m2.mono (fun c hc => List.mem_append_left _ hc)).trans ((hx.trans z2).mono (fun c hc => List.mem_append_right _ hc)), z3, z4, z5⟩
  unfold fX12_layReel fX12_layReel_j34 fX12_layReel_j203
  rw [m1, bnd_some]
  exact bnk_of z1 rfl
