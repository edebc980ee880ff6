/-! the two searches -/
theorem awV_ex {S : List Nat} {σ σ2 : St} (hx : Ex S σ σ2) (hd : ∀ c ∈ [1102, 1103, 1104, 1105, 1106], c ∉ S) (l : Int) : awV σ2 l = awV σ l := by
  funext i x
  unfold awV
  rw [hx.i (hd 1102 (by decide)), hx.i (hd 1103 (by decide)), hx.i (hd 1104 (by decide)), hx.i (hd 1105 (by decide)), hx.i (hd 1106 (by decide))]
def swS (c : Nat) (f t : Nat → Nat) (A : Nat → Int → Int) (σ : St) : Nat → St
  | 0 => σ
  | k + 1 => if gI (swS c f t A σ k) c 0 (t k) ≤ A k (gI (swS c f t A σ k) c 0 (f k)) then swS c f t A σ k else sI (swS c f t A σ k) c 0 (t k) (A k (gI (swS c f t A σ k) c 0 (f k)))
theorem swS_p (c : Nat) (f t : Nat → Nat) (A : Nat → Int → Int) (σ : St) (k : Nat) : Ex [c] σ (swS c f t A σ k) ∧ ∀ v, gI (swS c f t A σ k) c 0 v = sw f t A (fun v => gI σ c 0 v) k v := by
  induction k with
  | zero => exact ⟨Ex.rf, fun v => rfl⟩
  | succ k ih =>
    obtain ⟨h1, h2⟩ := ih
    show Ex [c] σ (if gI (swS c f t A σ k) c 0 (t k) ≤ A k (gI (swS c f t A σ k) c 0 (f k)) then swS c f t A σ k else sI (swS c f t A σ k) c 0 (t k) (A k (gI (swS c f t A σ k) c 0 (f k)))) ∧ ∀ v, gI (if gI (swS c f t A σ k) c 0 (t k) ≤ A k (gI (swS c f t A σ k) c 0 (f k)) then swS c f t A σ k else sI (swS c f t A σ k) c 0 (t k) (A k (gI (swS c f t A σ k) c 0 (f k)))) c 0 v = rl f t A (sw f t A (fun v => gI σ c 0 v) k) k v
    unfold rl
    rw [h2, h2]
    split
    · exact ⟨h1, h2⟩
    · refine ⟨h1.sI (List.mem_singleton.mpr rfl), fun v => ?_⟩
      show gI (sI _ c 0 (t k) _) c 0 v = if v = t k then _ else _
      rw [gI_sI]
      by_cases q : v = t k
      · rw [if_pos ⟨rfl, rfl, q⟩, if_pos q]
      · rw [if_neg (fun z => q z.2.2), if_neg q]; exact h2 v
def swT (c n : Nat) (f t : Nat → Nat) (A : Nat → Int → Int) (σ : St) : Nat → St
  | 0 => σ
  | r + 1 => swS c f t A (swT c n f t A σ r) n
theorem swT_p (c n : Nat) (f t : Nat → Nat) (A : Nat → Int → Int) (σ : St) (r : Nat) : Ex [c] σ (swT c n f t A σ r) ∧ (fun v => gI (swT c n f t A σ r) c 0 v) = swI n f t A (fun v => gI σ c 0 v) r := by
  induction r with
  | zero => exact ⟨Ex.rf, rfl⟩
  | succ r ih =>
    obtain ⟨h1, h2⟩ := ih
    obtain ⟨h3, h4⟩ := swS_p c f t A (swT c n f t A σ r) n
    refine ⟨h1.trans h3, ?_⟩
    show (fun v => gI (swS c f t A (swT c n f t A σ r) n) c 0 v) = sw f t A (swI n f t A (fun v => gI σ c 0 v) r) n
    rw [← h2]
    exact funext h4
/-- an array filled with one number -/
def flS (c : Nat) (x : Int) (σ : St) : Nat → St
  | 0 => σ
  | k + 1 => sI (flS c x σ k) c 0 k x
theorem flS_p (c : Nat) (x : Int) (σ : St) (k : Nat) : Ex [c] σ (flS c x σ k) ∧ ∀ v, gI (flS c x σ k) c 0 v = if v < k then x else gI σ c 0 v := by
  induction k with
  | zero => exact ⟨Ex.rf, fun v => by rw [if_neg (by omega)]; rfl⟩
  | succ k ih =>
    refine ⟨ih.1.sI (List.mem_singleton.mpr rfl), fun v => ?_⟩
    show gI (sI (flS c x σ k) c 0 k x) c 0 v = _
    rw [gI_sI, ih.2]
    by_cases q : v = k
    · rw [if_pos ⟨rfl, rfl, q⟩, if_pos (by omega)]
    · rw [if_neg (fun z => q z.2.2)]
      by_cases q2 : v < k
      · rw [if_pos q2, if_pos (by omega)]
      · rw [if_neg q2, if_neg (by omega)]
theorem fill_c {c n : Nat} {x : Int} {σ : St} (hn : n < 2147483647) : fJ7_fill_53178 c n x σ = some ((), flS c x σ n) := by
  unfold fJ7_fill_53178 fJ7_fill_53178_j5 fJ7_fill_53178_j20
  have hw := wh_seq (f := fun s => fJ7_fill_53178_l5 c n x (n : Int) s.1 s.2) (r := flS c x σ n) n (fun k => ((k : Int), flS c x σ k)) ?_ ?_
  · exact bnk_of hw rfl
  · intro k hk
    show fJ7_fill_53178_l5 c n x (n : Int) (k : Int) (flS c x σ k) = some (.inl ((k : Int) + 1, sI (flS c x σ k) c 0 k x))
    unfold fJ7_fill_53178_l5
    rw [if_neg (by omega), ck_x (by omega) (by omega), ck_i (by omega) (by omega), Int.toNat_natCast]
  · show fJ7_fill_53178_l5 c n x (n : Int) (n : Int) (flS c x σ n) = _
    unfold fJ7_fill_53178_l5
    rw [if_pos (Int.le_refl _)]
theorem stop_ex {σ : St} (hW : RW σ) {l : Int} {p : Nat} {h : Int} (hp : p < 8) (hh : h ≤ 1000000) : ∃ R, R ≤ 7 ∧ cg (wf σ) (wt σ) (awV σ l) (swI (gN σ 10) (wf σ) (wt σ) (awV σ l) (d0 p h) R) (gN σ 10) = 0 ∧ (∀ s, s < R → cg (wf σ) (wt σ) (awV σ l) (swI (gN σ 10) (wf σ) (wt σ) (awV σ l) (d0 p h) s) (gN σ 10) = 1) ∧ swI (gN σ 10) (wf σ) (wt σ) (awV σ l) (d0 p h) (R + 1) = tvD σ l p h := by
  obtain ⟨y1, y2, y3, y4⟩ := hW.hyp l
  obtain ⟨R, h1, h2, h3⟩ := least_ex (fun r => cg (wf σ) (wt σ) (awV σ l) (swI (gN σ 10) (wf σ) (wt σ) (awV σ l) (d0 p h) r) (gN σ 10) = 0) 7 (sw_stop y1 y2 y3 hp hh)
  refine ⟨R, h1, h2, fun s hs => ?_, ?_⟩
  · rcases cg_b (wf σ) (wt σ) (awV σ l) (swI (gN σ 10) (wf σ) (wt σ) (awV σ l) (d0 p h) s) (gN σ 10) with q | q
    · exact absurd q (h3 s hs)
    · exact q
  · have e1 := swI_st h2 1
    have e2 := swI_st h2 (8 - R)
    rw [show R + (8 - R) = 8 by omega] at e2
    unfold tvD
    rw [e1, e2]
theorem sw_ag {n : Nat} {f t : Nat → Nat} {A : Nat → Int → Int} {D1 D2 : Nat → Int} (hf : ∀ i, i < n → f i < 8) (ht : ∀ i, i < n → t i < 8) (h12 : ∀ v, v < 8 → D1 v = D2 v) (k : Nat) (hk : k ≤ n) : ∀ v, v < 8 → sw f t A D1 k v = sw f t A D2 k v := by
  induction k with
  | zero => exact h12
  | succ k ih =>
    intro v hv
    have h1 := ih (by omega)
    show rl f t A (sw f t A D1 k) k v = rl f t A (sw f t A D2 k) k v
    unfold rl
    rw [h1 _ (hf k (by omega)), h1 _ (ht k (by omega))]
    split
    · exact h1 v hv
    · show (if v = t k then _ else _) = (if v = t k then _ else _)
      split
      · rfl
      · exact h1 v hv
theorem cg_ag {n : Nat} {f t : Nat → Nat} {A : Nat → Int → Int} {D1 D2 : Nat → Int} (hf : ∀ i, i < n → f i < 8) (ht : ∀ i, i < n → t i < 8) (h12 : ∀ v, v < 8 → D1 v = D2 v) (k : Nat) (hk : k ≤ n) : cg f t A D1 k = cg f t A D2 k := by
  induction k with
  | zero => rfl
  | succ k ih =>
    show (if sw f t A D1 k (t k) ≤ A k (sw f t A D1 k (f k)) then cg f t A D1 k else 1) = (if sw f t A D2 k (t k) ≤ A k (sw f t A D2 k (f k)) then cg f t A D2 k else 1)
    rw [sw_ag hf ht h12 k (by omega) _ (hf k (by omega)), sw_ag hf ht h12 k (by omega) _ (ht k (by omega)), ih (by omega)]
theorem swI_ag {n : Nat} {f t : Nat → Nat} {A : Nat → Int → Int} {D1 D2 : Nat → Int} (hf : ∀ i, i < n → f i < 8) (ht : ∀ i, i < n → t i < 8) (h12 : ∀ v, v < 8 → D1 v = D2 v) (r : Nat) : ∀ v, v < 8 → swI n f t A D1 r v = swI n f t A D2 r v := by
  induction r with
  | zero => exact h12
  | succ r ih => exact sw_ag hf ht ih n (Nat.le_refl _)
/-- the class's search -/
theorem tr_c {σ : St} (hW : RW σ) {l : Int} (hl : l = 0 ∨ l = 1) {p : Nat} {h : Int} (hp : p < 8) (hh : 0 ≤ h ∧ h ≤ 1000000) : ∃ σ', fX9_travel (p : Int) h l σ = some ((), σ') ∧ Ex [1002] σ σ' ∧ ∀ v, v < 8 → gI σ' 1002 0 v = tvD σ l p h v := by
  obtain ⟨R, r1, r2, r3, r4⟩ := stop_ex hW (l := l) hp hh.2
  obtain ⟨y1, y2, y3, y4⟩ := hW.hyp l
  obtain ⟨f1, f2⟩ := flS_p 1002 1000000 σ 8
  have hx0 : Ex [1002] σ (sI (flS 1002 1000000 σ 8) 1002 0 p h) := f1.sI (by decide)
  have hD0 : ∀ v, v < 8 → gI (sI (flS 1002 1000000 σ 8) 1002 0 p h) 1002 0 v = d0 p h v := by
    intro v hv
    unfold d0
    rw [gI_sI, f2, if_pos hv]
    by_cases q : v = p
    · rw [if_pos ⟨rfl, rfl, q⟩, if_pos q]
    · rw [if_neg (fun z => q z.2.2), if_neg q]
  generalize hσ0 : sI (flS 1002 1000000 σ 8) 1002 0 p h = σ0 at hx0 hD0
  have hag : ∀ r, ∀ v, v < 8 → swI (gN σ 10) (wf σ) (wt σ) (awV σ l) (fun v => gI σ0 1002 0 v) r v = swI (gN σ 10) (wf σ) (wt σ) (awV σ l) (d0 p h) r v := swI_ag y1 y2 hD0
  -- one round
  have inner : ∀ (σ1 : St) (r : Nat), Ex [1002] σ σ1 → (∀ v, v < 8 → 0 ≤ gI σ1 1002 0 v ∧ gI σ1 1002 0 v ≤ 1000000) → wh (fun s => fX9_travel_l40 l (r : Int) s.1 s.2.1 s.2.2) ((0, 0, σ1)) = some (cg (wf σ) (wt σ) (awV σ l) (fun v => gI σ1 1002 0 v) (gN σ 10), swS 1002 (wf σ) (wt σ) (awV σ l) σ1 (gN σ 10)) := by
    intro σ1 r hx1 hb
    obtain ⟨w1, w2, w3, w4, w5⟩ := id hW
    have hw := wh_seq (f := fun s => fX9_travel_l40 l (r : Int) s.1 s.2.1 s.2.2) (r := (cg (wf σ) (wt σ) (awV σ l) (fun v => gI σ1 1002 0 v) (gN σ 10), swS 1002 (wf σ) (wt σ) (awV σ l) σ1 (gN σ 10))) (gN σ 10) (fun k => (cg (wf σ) (wt σ) (awV σ l) (fun v => gI σ1 1002 0 v) k, (k : Int), swS 1002 (wf σ) (wt σ) (awV σ l) σ1 k)) ?_ ?_
    · exact hw
    · intro k hk
      obtain ⟨s1, s2⟩ := swS_p 1002 (wf σ) (wt σ) (awV σ l) σ1 k
      have hx2 : Ex [1002] σ (swS 1002 (wf σ) (wt σ) (awV σ l) σ1 k) := hx1.trans s1
      have hW2 := hW.ex hx2 (dj_use (by decide))
      have hb2 := sw_bd (t := wt σ) (D := fun v => gI σ1 1002 0 v) y1 y4 hb k (by omega)
      have hw1 := hW2.2.2.2.1 k (by rw [hx2.n]; exact hk)
      have hp1 : gP (swS 1002 (wf σ) (wt σ) (awV σ l) σ1 k) 1000 0 k = some k := hw1.1
      have e0 : gI (swS 1002 (wf σ) (wt σ) (awV σ l) σ1 k) 1001 0 0 = (gN σ 10 : Int) := by rw [hx2.i (c := 1001) (by decide), w2]
      have e1 : (gI σ 1100 k 0).toNat = wf σ k := rfl
      have e2 : (gI σ 1101 k 0).toNat = wt σ k := rfl
      obtain ⟨⟨b1, b2, b3⟩, -⟩ := (w4 k hk).wb
      have hfk := y1 k hk
      have ea : awV (swS 1002 (wf σ) (wt σ) (awV σ l) σ1 k) l k (sw (wf σ) (wt σ) (awV σ l) (fun v => gI σ1 1002 0 v) k (wf σ k)) = awV σ l k (sw (wf σ) (wt σ) (awV σ l) (fun v => gI σ1 1002 0 v) k (wf σ k)) := congrFun (congrFun (awV_ex hx2 (dj_use (by decide)) l) k) _
      show fX9_travel_l40 l (r : Int) (cg (wf σ) (wt σ) (awV σ l) (fun v => gI σ1 1002 0 v) k) (k : Int) (swS 1002 (wf σ) (wt σ) (awV σ l) σ1 k) = some (.inl (cg (wf σ) (wt σ) (awV σ l) (fun v => gI σ1 1002 0 v) (k + 1), ((k + 1 : Nat) : Int), swS 1002 (wf σ) (wt σ) (awV σ l) σ1 (k + 1)))
      unfold fX9_travel_l40 fX9_travel_j106
      rw [e0, if_neg (by omega), ck_x (by omega) (by omega), lt_def, Int.toNat_natCast, hp1, mop_s, ck_n (by rw [hx2.n]; exact hk), hx2.i (c := 1100) (by decide), hx2.i (c := 1101) (by decide), ck_x (by omega) (by omega), ck_b hl, e1, e2, s2, s2, arrives_c hw1 (hb2 _ hfk), bnk_some, ea, ck_x (by omega) (by omega), ck_i (by omega) (by omega), ck_x (by omega) (by omega), ck_i (by omega) (by omega)]
      show _ = some (Sum.inl ((if sw (wf σ) (wt σ) (awV σ l) (fun v => gI σ1 1002 0 v) k (wt σ k) ≤ awV σ l k (sw (wf σ) (wt σ) (awV σ l) (fun v => gI σ1 1002 0 v) k (wf σ k)) then cg (wf σ) (wt σ) (awV σ l) (fun v => gI σ1 1002 0 v) k else 1), ((k + 1 : Nat) : Int), (if gI (swS 1002 (wf σ) (wt σ) (awV σ l) σ1 k) 1002 0 (wt σ k) ≤ awV σ l k (gI (swS 1002 (wf σ) (wt σ) (awV σ l) σ1 k) 1002 0 (wf σ k)) then swS 1002 (wf σ) (wt σ) (awV σ l) σ1 k else sI (swS 1002 (wf σ) (wt σ) (awV σ l) σ1 k) 1002 0 (wt σ k) (awV σ l k (gI (swS 1002 (wf σ) (wt σ) (awV σ l) σ1 k) 1002 0 (wf σ k))))))
      rw [s2, s2]
      split
      · rfl
      · rfl
    · obtain ⟨s1, s2⟩ := swS_p 1002 (wf σ) (wt σ) (awV σ l) σ1 (gN σ 10)
      show fX9_travel_l40 l (r : Int) _ (gN σ 10 : Int) (swS 1002 (wf σ) (wt σ) (awV σ l) σ1 (gN σ 10)) = _
      unfold fX9_travel_l40
      rw [(hx1.trans s1).i (c := 1001) (by decide), w2, if_pos (Int.le_refl _)]
  -- all rounds
  have sT : ∀ r, Ex [1002] σ (swT 1002 (gN σ 10) (wf σ) (wt σ) (awV σ l) σ0 r) ∧ ∀ v, v < 8 → gI (swT 1002 (gN σ 10) (wf σ) (wt σ) (awV σ l) σ0 r) 1002 0 v = swI (gN σ 10) (wf σ) (wt σ) (awV σ l) (d0 p h) r v := by
    intro r
    obtain ⟨s1, s2⟩ := swT_p 1002 (gN σ 10) (wf σ) (wt σ) (awV σ l) σ0 r
    refine ⟨hx0.trans s1, fun v hv => ?_⟩
    rw [← hag r v hv, ← s2]
  have hF : ∀ r, cg (wf σ) (wt σ) (awV σ l) (fun v => gI (swT 1002 (gN σ 10) (wf σ) (wt σ) (awV σ l) σ0 r) 1002 0 v) (gN σ 10) = cg (wf σ) (wt σ) (awV σ l) (swI (gN σ 10) (wf σ) (wt σ) (awV σ l) (d0 p h) r) (gN σ 10) := fun r => cg_ag y1 y2 (sT r).2 _ (Nat.le_refl _)
  have outer : wh (fun s => fX9_travel_l22 l s.1 s.2.1 s.2.2) ((1, 0, σ0)) = some (swT 1002 (gN σ 10) (wf σ) (wt σ) (awV σ l) σ0 (R + 1)) := by
    have hw := wh_seq (f := fun s => fX9_travel_l22 l s.1 s.2.1 s.2.2) (r := swT 1002 (gN σ 10) (wf σ) (wt σ) (awV σ l) σ0 (R + 1)) (R + 1) (fun r => ((if r = 0 then (1 : Int) else cg (wf σ) (wt σ) (awV σ l) (swI (gN σ 10) (wf σ) (wt σ) (awV σ l) (d0 p h) (r - 1)) (gN σ 10)), (r : Int), swT 1002 (gN σ 10) (wf σ) (wt σ) (awV σ l) σ0 r)) ?_ ?_
    · exact hw
    · intro r hr
      have hfl : ¬ (if r = 0 then (1 : Int) else cg (wf σ) (wt σ) (awV σ l) (swI (gN σ 10) (wf σ) (wt σ) (awV σ l) (d0 p h) (r - 1)) (gN σ 10)) = 0 := by
        by_cases q : r = 0
        · rw [if_pos q]; decide
        · rw [if_neg q, r3 (r - 1) (by omega)]; decide
      show fX9_travel_l22 l (if r = 0 then (1 : Int) else cg (wf σ) (wt σ) (awV σ l) (swI (gN σ 10) (wf σ) (wt σ) (awV σ l) (d0 p h) (r - 1)) (gN σ 10)) (r : Int) (swT 1002 (gN σ 10) (wf σ) (wt σ) (awV σ l) σ0 r) = some (.inl ((if r + 1 = 0 then (1 : Int) else cg (wf σ) (wt σ) (awV σ l) (swI (gN σ 10) (wf σ) (wt σ) (awV σ l) (d0 p h) (r + 1 - 1)) (gN σ 10)), ((r + 1 : Nat) : Int), swS 1002 (wf σ) (wt σ) (awV σ l) (swT 1002 (gN σ 10) (wf σ) (wt σ) (awV σ l) σ0 r) (gN σ 10)))
      unfold fX9_travel_l22 fX9_travel_j40 fX9_travel_j112
      rw [if_neg (by omega), if_neg hfl, inner _ r (sT r).1 (fun v hv => by rw [(sT r).2 v hv]; exact swI_bd y1 y4 (d0_bd hh) r v hv), bnk_some, ck_i (by omega) (by omega), hF, if_neg (by omega), Nat.add_sub_cancel]
      rfl
    · show fX9_travel_l22 l (if R + 1 = 0 then (1 : Int) else cg (wf σ) (wt σ) (awV σ l) (swI (gN σ 10) (wf σ) (wt σ) (awV σ l) (d0 p h) (R + 1 - 1)) (gN σ 10)) ((R + 1 : Nat) : Int) (swT 1002 (gN σ 10) (wf σ) (wt σ) (awV σ l) σ0 (R + 1)) = _
      unfold fX9_travel_l22
      rw [if_neg (show ¬ R + 1 = 0 by omega), Nat.add_sub_cancel, r2]
      split <;> rfl
  refine ⟨swT 1002 (gN σ 10) (wf σ) (wt σ) (awV σ l) σ0 (R + 1), ?_, (sT (R + 1)).1, fun v hv => ?_⟩
  · unfold fX9_travel fX9_travel_j22 fX9_travel_j118
    rw [fill_c (by omega), bnd_some, ck_x (by omega) (by omega), Int.toNat_natCast, hσ0, outer]; rfl
  · rw [(sT (R + 1)).2 v hv, r4]
/-- the model's search -/
def mS (p : Nat) (h : Int) (σ : St) : Nat → St
  | 0 => σ
  | k + 1 => sI (mS p h σ k) 1309 0 k (d0 p h k)
theorem mS_p (p : Nat) (h : Int) (σ : St) (k : Nat) : Ex [1309] σ (mS p h σ k) ∧ ∀ v, v < k → gI (mS p h σ k) 1309 0 v = d0 p h v := by
  induction k with
  | zero => exact ⟨Ex.rf, fun v hv => by omega⟩
  | succ k ih =>
    refine ⟨ih.1.sI (by decide), fun v hv => ?_⟩
    show gI (sI (mS p h σ k) 1309 0 k (d0 p h k)) 1309 0 v = _
    rw [gI_sI]
    by_cases q : v = k
    · rw [if_pos ⟨rfl, rfl, q⟩, q]
    · rw [if_neg (fun z => q z.2.2)]; exact ih.2 v (by omega)
theorem awV_N {σ : St} {i : Nat} {l : Int} (h : RW1 σ i) : awV σ l i 1000000 = 1000000 := by
  have := awV_bd (l := l) h (Int.le_refl 1000000)
  omega
theorem tr_m {σ : St} (hW : RW σ) {l : Int} (hl : l = 0 ∨ l = 1) {p d : Nat} {h : Int} (hp : p < 8) (hd : d < 8) (hh : 0 ≤ h ∧ h ≤ 1000000) : ∃ σ', fX12_arrives (p : Int) h (d : Int) l σ = some (tvD σ l p h d, σ') ∧ Ex [1309] σ σ' := by
  obtain ⟨R, r1, r2, r3, r4⟩ := stop_ex hW (l := l) hp hh.2
  obtain ⟨y1, y2, y3, y4⟩ := hW.hyp l
  obtain ⟨hx0, hD0⟩ := mS_p p h σ 8
  have hini : wh (fun s => fX12_arrives_l3 (p : Int) h (d : Int) l s.1 s.2) ((0, σ)) = some (mS p h σ 8) := by
    have hw := wh_seq (f := fun s => fX12_arrives_l3 (p : Int) h (d : Int) l s.1 s.2) (r := mS p h σ 8) 8 (fun k => ((k : Int), mS p h σ k)) ?_ ?_
    · exact hw
    · intro k hk
      show fX12_arrives_l3 (p : Int) h (d : Int) l (k : Int) (mS p h σ k) = some (.inl ((k : Int) + 1, sI (mS p h σ k) 1309 0 k (d0 p h k)))
      unfold fX12_arrives_l3 fX12_arrives_j29 d0
      rw [if_neg (by omega), ck_x (by omega) (by omega), ck_i (by omega) (by omega), ck_x (by omega) (by omega), ck_i (by omega) (by omega), Int.toNat_natCast]
      by_cases q : k = p
      · rw [if_pos (by omega), if_pos q]
      · rw [if_neg (by omega), if_neg q]
    · show fX12_arrives_l3 (p : Int) h (d : Int) l (8 : Int) (mS p h σ 8) = _
      unfold fX12_arrives_l3
      rw [if_pos (by omega)]
  generalize mS p h σ 8 = σ0 at hx0 hD0 hini
  have hag : ∀ r, ∀ v, v < 8 → swI (gN σ 10) (wf σ) (wt σ) (awV σ l) (fun v => gI σ0 1309 0 v) r v = swI (gN σ 10) (wf σ) (wt σ) (awV σ l) (d0 p h) r v := swI_ag y1 y2 hD0
  -- one round
  have inner : ∀ (σ1 : St), Ex [1309] σ σ1 → (∀ v, v < 8 → 0 ≤ gI σ1 1309 0 v ∧ gI σ1 1309 0 v ≤ 1000000) → wh (fun s => fX12_arrives_l50 (d : Int) l s.1 s.2.1 s.2.2) ((0, 0, σ1)) = some (cg (wf σ) (wt σ) (awV σ l) (fun v => gI σ1 1309 0 v) (gN σ 10), swS 1309 (wf σ) (wt σ) (awV σ l) σ1 (gN σ 10)) := by
    intro σ1 hx1 hb
    obtain ⟨w1, w2, w3, w4, w5⟩ := id hW
    have hw := wh_seq (f := fun s => fX12_arrives_l50 (d : Int) l s.1 s.2.1 s.2.2) (r := (cg (wf σ) (wt σ) (awV σ l) (fun v => gI σ1 1309 0 v) (gN σ 10), swS 1309 (wf σ) (wt σ) (awV σ l) σ1 (gN σ 10))) (gN σ 10) (fun k => (cg (wf σ) (wt σ) (awV σ l) (fun v => gI σ1 1309 0 v) k, (k : Int), swS 1309 (wf σ) (wt σ) (awV σ l) σ1 k)) ?_ ?_
    · exact hw
    · intro k hk
      obtain ⟨s1, s2⟩ := swS_p 1309 (wf σ) (wt σ) (awV σ l) σ1 k
      have hx2 : Ex [1309] σ (swS 1309 (wf σ) (wt σ) (awV σ l) σ1 k) := hx1.trans s1
      have hW2 := hW.ex hx2 (dj_use (by decide))
      have hb2 := sw_bd (t := wt σ) (D := fun v => gI σ1 1309 0 v) y1 y4 hb k (by omega)
      have hw1 := hW2.2.2.2.1 k (by rw [hx2.n]; exact hk)
      obtain ⟨-, v2, v3, -⟩ := hw1.wb
      have e0 : gI (swS 1309 (wf σ) (wt σ) (awV σ l) σ1 k) 1301 0 0 = (gN σ 10 : Int) := by rw [hx2.i (c := 1301) (by decide), w1]
      have e1 : (gI σ 1100 k 0).toNat = wf σ k := rfl
      have e2 : (gI σ 1101 k 0).toNat = wt σ k := rfl
      obtain ⟨⟨b1, b2, b3⟩, -⟩ := (w4 k hk).wb
      have hfk := y1 k hk
      have ea : awV (swS 1309 (wf σ) (wt σ) (awV σ l) σ1 k) l k (sw (wf σ) (wt σ) (awV σ l) (fun v => gI σ1 1309 0 v) k (wf σ k)) = awV σ l k (sw (wf σ) (wt σ) (awV σ l) (fun v => gI σ1 1309 0 v) k (wf σ k)) := congrFun (congrFun (awV_ex hx2 (dj_use (by decide)) l) k) _
      show fX12_arrives_l50 (d : Int) l (cg (wf σ) (wt σ) (awV σ l) (fun v => gI σ1 1309 0 v) k) (k : Int) (swS 1309 (wf σ) (wt σ) (awV σ l) σ1 k) = some (.inl (cg (wf σ) (wt σ) (awV σ l) (fun v => gI σ1 1309 0 v) (k + 1), ((k + 1 : Nat) : Int), swS 1309 (wf σ) (wt σ) (awV σ l) σ1 (k + 1)))
      have hj : fX12_arrives_j103 (d : Int) l (cg (wf σ) (wt σ) (awV σ l) (fun v => gI σ1 1309 0 v) k) (k : Int) (awV σ l k (sw (wf σ) (wt σ) (awV σ l) (fun v => gI σ1 1309 0 v) k (wf σ k))) (swS 1309 (wf σ) (wt σ) (awV σ l) σ1 k) = some (.inl (cg (wf σ) (wt σ) (awV σ l) (fun v => gI σ1 1309 0 v) (k + 1), ((k + 1 : Nat) : Int), swS 1309 (wf σ) (wt σ) (awV σ l) σ1 (k + 1))) := by
        unfold fX12_arrives_j103 fX12_arrives_j139
        rw [ck_x (by omega) (by omega), Int.toNat_natCast, v3, hx2.i (c := 1101) (by decide), ck_x (by omega) (by omega), e2, s2, ck_i (by omega) (by omega), ck_x (by omega) (by omega), ck_x (by omega) (by omega), ck_i (by omega) (by omega)]
        show _ = some (Sum.inl ((if sw (wf σ) (wt σ) (awV σ l) (fun v => gI σ1 1309 0 v) k (wt σ k) ≤ awV σ l k (sw (wf σ) (wt σ) (awV σ l) (fun v => gI σ1 1309 0 v) k (wf σ k)) then cg (wf σ) (wt σ) (awV σ l) (fun v => gI σ1 1309 0 v) k else 1), ((k + 1 : Nat) : Int), (if gI (swS 1309 (wf σ) (wt σ) (awV σ l) σ1 k) 1309 0 (wt σ k) ≤ awV σ l k (gI (swS 1309 (wf σ) (wt σ) (awV σ l) σ1 k) 1309 0 (wf σ k)) then swS 1309 (wf σ) (wt σ) (awV σ l) σ1 k else sI (swS 1309 (wf σ) (wt σ) (awV σ l) σ1 k) 1309 0 (wt σ k) (awV σ l k (gI (swS 1309 (wf σ) (wt σ) (awV σ l) σ1 k) 1309 0 (wf σ k))))))
        rw [s2, s2]
        split
        · rfl
        · rfl
      unfold fX12_arrives_l50
      rw [e0, if_neg (by omega), ck_x (by omega) (by omega), Int.toNat_natCast, v2, hx2.i (c := 1100) (by decide), ck_x (by omega) (by omega), e1, s2]
      by_cases q : sw (wf σ) (wt σ) (awV σ l) (fun v => gI σ1 1309 0 v) k (wf σ k) = 1000000
      · rw [if_pos q]
        rw [q, awV_N (w4 k hk)] at hj
        exact hj
      · rw [if_neg q, ck_x (by omega) (by omega), ck_x (by omega) (by omega), ck_b hl, by_m hw1 (by omega) (hb2 _ hfk), bnk_some, ea]
        exact hj
    · obtain ⟨s1, s2⟩ := swS_p 1309 (wf σ) (wt σ) (awV σ l) σ1 (gN σ 10)
      show fX12_arrives_l50 (d : Int) l _ (gN σ 10 : Int) (swS 1309 (wf σ) (wt σ) (awV σ l) σ1 (gN σ 10)) = _
      unfold fX12_arrives_l50
      rw [(hx1.trans s1).i (c := 1301) (by decide), w1, if_pos (Int.le_refl _)]
  -- all rounds
  have sT : ∀ r, Ex [1309] σ (swT 1309 (gN σ 10) (wf σ) (wt σ) (awV σ l) σ0 r) ∧ ∀ v, v < 8 → gI (swT 1309 (gN σ 10) (wf σ) (wt σ) (awV σ l) σ0 r) 1309 0 v = swI (gN σ 10) (wf σ) (wt σ) (awV σ l) (d0 p h) r v := by
    intro r
    obtain ⟨s1, s2⟩ := swT_p 1309 (gN σ 10) (wf σ) (wt σ) (awV σ l) σ0 r
    refine ⟨hx0.trans s1, fun v hv => ?_⟩
    rw [← hag r v hv, ← s2]
  have hF : ∀ r, cg (wf σ) (wt σ) (awV σ l) (fun v => gI (swT 1309 (gN σ 10) (wf σ) (wt σ) (awV σ l) σ0 r) 1309 0 v) (gN σ 10) = cg (wf σ) (wt σ) (awV σ l) (swI (gN σ 10) (wf σ) (wt σ) (awV σ l) (d0 p h) r) (gN σ 10) := fun r => cg_ag y1 y2 (sT r).2 _ (Nat.le_refl _)
  have outer : wh (fun s => fX12_arrives_l39 (d : Int) l s.1 s.2) ((1, σ0)) = some (swT 1309 (gN σ 10) (wf σ) (wt σ) (awV σ l) σ0 (R + 1)) := by
    have hw := wh_seq (f := fun s => fX12_arrives_l39 (d : Int) l s.1 s.2) (r := swT 1309 (gN σ 10) (wf σ) (wt σ) (awV σ l) σ0 (R + 1)) (R + 1) (fun r => ((if r = 0 then (1 : Int) else cg (wf σ) (wt σ) (awV σ l) (swI (gN σ 10) (wf σ) (wt σ) (awV σ l) (d0 p h) (r - 1)) (gN σ 10)), swT 1309 (gN σ 10) (wf σ) (wt σ) (awV σ l) σ0 r)) ?_ ?_
    · exact hw
    · intro r hr
      have hfl : ¬ (if r = 0 then (1 : Int) else cg (wf σ) (wt σ) (awV σ l) (swI (gN σ 10) (wf σ) (wt σ) (awV σ l) (d0 p h) (r - 1)) (gN σ 10)) = 0 := by
        by_cases q : r = 0
        · rw [if_pos q]; decide
        · rw [if_neg q, r3 (r - 1) (by omega)]; decide
      show fX12_arrives_l39 (d : Int) l (if r = 0 then (1 : Int) else cg (wf σ) (wt σ) (awV σ l) (swI (gN σ 10) (wf σ) (wt σ) (awV σ l) (d0 p h) (r - 1)) (gN σ 10)) (swT 1309 (gN σ 10) (wf σ) (wt σ) (awV σ l) σ0 r) = some (.inl ((if r + 1 = 0 then (1 : Int) else cg (wf σ) (wt σ) (awV σ l) (swI (gN σ 10) (wf σ) (wt σ) (awV σ l) (d0 p h) (r + 1 - 1)) (gN σ 10)), swS 1309 (wf σ) (wt σ) (awV σ l) (swT 1309 (gN σ 10) (wf σ) (wt σ) (awV σ l) σ0 r) (gN σ 10)))
      unfold fX12_arrives_l39 fX12_arrives_j50 fX12_arrives_j145
      rw [if_neg hfl, inner _ (sT r).1 (fun v hv => by rw [(sT r).2 v hv]; exact swI_bd y1 y4 (d0_bd hh) r v hv), bnk_some, hF, if_neg (by omega), Nat.add_sub_cancel]
    · show fX12_arrives_l39 (d : Int) l (if R + 1 = 0 then (1 : Int) else cg (wf σ) (wt σ) (awV σ l) (swI (gN σ 10) (wf σ) (wt σ) (awV σ l) (d0 p h) (R + 1 - 1)) (gN σ 10)) (swT 1309 (gN σ 10) (wf σ) (wt σ) (awV σ l) σ0 (R + 1)) = _
      unfold fX12_arrives_l39
      rw [if_neg (show ¬ R + 1 = 0 by omega), Nat.add_sub_cancel, r2, if_pos rfl]
  refine ⟨swT 1309 (gN σ 10) (wf σ) (wt σ) (awV σ l) σ0 (R + 1), ?_, (sT (R + 1)).1⟩
  unfold fX12_arrives fX12_arrives_j3 fX12_arrives_j36 fX12_arrives_j39 fX12_arrives_j148
  rw [hini, bnk_some, outer, bnk_some, ck_x (by omega) (by omega), Int.toNat_natCast, (sT (R + 1)).2 d hd, r4]
theorem earliest_c {σ : St} (hW : RW σ) {l : Int} (hl : l = 0 ∨ l = 1) {p d : Nat} {h : Int} (hp : p < 8) (hd : d < 8) (hh : 0 ≤ h ∧ h ≤ 1000000) : ∃ σ', fX9_earliest (p : Int) h (d : Int) l σ = some ((if tvD σ l p h d = 1000000 then -9 else tvD σ l p h d), σ') ∧ Ex [1002] σ σ' := by
  obtain ⟨σ', h1, h2, h3⟩ := tr_c hW hl hp hh
  refine ⟨σ', ?_, h2⟩
  unfold fX9_earliest
  rw [h1, bnd_some, ck_x (by omega) (by omega), Int.toNat_natCast, h3 d hd, ck_x (by omega) (by omega)]
  split <;> rfl
theorem op_3 : OP3 RR := by
  intro a1 a2 a3 a4 ha1 ha2 ha3 ha4 σ hSF hR
  obtain ⟨hT, hW, hS, hF, hY, hA, hL, hG, hE, hC, hH, hQ⟩ := id hR
  by_cases p1 : 0 ≤ a1 ∧ a1 ≤ 7
  · by_cases p3 : 0 ≤ a3 ∧ a3 ≤ 7
    · by_cases p2 : 0 ≤ a2 ∧ a2 ≤ 9999
      · obtain ⟨p, rfl⟩ := Int.eq_ofNat_of_zero_le p1.1
        obtain ⟨d, rfl⟩ := Int.eq_ofNat_of_zero_le p3.1
        obtain ⟨σ1, c1, c2⟩ := earliest_c hW ha4 (p := p) (d := d) (h := a2) (by omega) (by omega) (by omega)
        have hW1 := hW.ex c2 (dj_use (by decide))
        obtain ⟨σ2, m1, m2⟩ := tr_m hW1 ha4 (p := p) (d := d) (h := a2) (by omega) (by omega) (by omega)
        rw [tvD_ex c2 (dj_use (by decide))] at m1
        refine opW (r := if tvD σ a4 p a2 d = 1000000 then -9 else tvD σ a4 p a2 d) (σ1 := σ1) (σ2 := σ2) ?_ ?_ ?_
        · unfold fX11_arrival
          rw [c_isPlace_eq, bnkI, if_pos p1, c_isPlace_eq, bnkI, if_pos p3, c_isHour_eq, bnkI, if_pos p2, c1, bnd_some]
        · unfold fX12_arrival
          rw [m_isPlace_eq, bnkI, if_pos p1, m_isPlace_eq, bnkI, if_pos p3, m_isHour_eq, bnkI, if_pos p2, m1, bnd_some]
          split <;> rfl
        · have hx : Ex [1002, 1309] σ σ2 := (c2.mono (by decide)).trans (m2.mono (by decide))
          exact ⟨hT.ex hx (dj_use (by decide)), hW.ex hx (dj_use (by decide)), hS.ex hx (dj_use (by decide)), hF.ex hx (dj_use (by decide)), hY.ex hx (dj_use (by decide)), hA.ex hx (dj_use (by decide)), hL.ex hx (dj_use (by decide)), hG.ex hx (dj_use (by decide)), hE.ex hx (dj_use (by decide)), hC.ex hx (dj_use (by decide)), hH.ex hx (dj_use (by decide)), hQ.ex hx (dj_use (by decide))⟩
      · refine opW (r := -2) (σ1 := σ) (σ2 := σ) ?_ ?_ hR
        · unfold fX11_arrival
          rw [c_isPlace_eq, bnkI, if_pos p1, c_isPlace_eq, bnkI, if_pos p3, c_isHour_eq, bnkI, if_neg p2]
        · unfold fX12_arrival
          rw [m_isPlace_eq, bnkI, if_pos p1, m_isPlace_eq, bnkI, if_pos p3, m_isHour_eq, bnkI, if_neg p2]
    · refine opW (r := -1) (σ1 := σ) (σ2 := σ) ?_ ?_ hR
      · unfold fX11_arrival
        rw [c_isPlace_eq, bnkI, if_pos p1, c_isPlace_eq, bnkI, if_neg p3]
      · unfold fX12_arrival
        rw [m_isPlace_eq, bnkI, if_pos p1, m_isPlace_eq, bnkI, if_neg p3]
  · refine opW (r := -1) (σ1 := σ) (σ2 := σ) ?_ ?_ hR
    · unfold fX11_arrival
      rw [c_isPlace_eq, bnkI, if_neg p1]
    · unfold fX12_arrival
      rw [m_isPlace_eq, bnkI, if_neg p1]
theorem RS.upd2 {σ σ2 : St} (h : RS σ) (hx : Ex [808, 809, 810, 811, 812, 1318, 1319, 1320, 1321, 1322, 1002, 1309] σ σ2) (hn : ∀ i, i < gN σ 7 → RX (gI σ 1200 0 0) (gI σ2 808 i 0) (gI σ2 1318 0 i) (gI σ 807 i 0) ∧ RX (gI σ 1200 0 0) (gI σ2 809 i 0) (gI σ2 1319 0 i) (gI σ 807 i 0) ∧ RX (gI σ 1200 0 0) (gI σ2 810 i 0) (gI σ2 1320 0 i) (gI σ 807 i 0) ∧ gI σ2 1321 0 i = gI σ2 811 i 0 ∧ gI σ2 1322 0 i = gI σ2 812 i 0 ∧ (-9 ≤ gI σ2 811 i 0 ∧ gI σ2 811 i 0 ≤ 1000000)) : RS σ2 := by
  obtain ⟨s1, s2, s3, s4⟩ := h
  unfold RS RS1
  simp only [hx.i (c := 800) (by decide), hx.i (c := 801) (by decide), hx.i (c := 802) (by decide), hx.i (c := 803) (by decide), hx.i (c := 804) (by decide), hx.i (c := 805) (by decide), hx.i (c := 806) (by decide), hx.i (c := 807) (by decide), hx.i (c := 1200) (by decide), hx.i (c := 1204) (by decide), hx.i (c := 1310) (by decide), hx.i (c := 1311) (by decide), hx.i (c := 1312) (by decide), hx.i (c := 1313) (by decide), hx.i (c := 1314) (by decide), hx.i (c := 1315) (by decide), hx.i (c := 1316) (by decide), hx.i (c := 1317) (by decide), hx.p (c := 1203) (by decide), hx.n 7]
  refine ⟨s1, s2, s3, fun i hi => ?_⟩
  obtain ⟨q1, q2, q3, q4, q5, q6, q7, q8, q9, r1, r2, r3, r4, r5, r6, r7, -⟩ := s4 i hi
  exact ⟨q1, q2, q3, q4, q5, q6, q7, q8, q9, r1, r2, r3, r4, r5, r6, r7, hn i hi⟩
theorem op_6 : OP6 RR := by
  intro a1 ha1 σ hSF hR
  obtain ⟨hT, hW, hS, hF, hY, hA, hL, hG, hE, hC, hH, hQ⟩ := id hR
  obtain ⟨t1, t2, t3⟩ := id hT
  by_cases p : 0 ≤ a1 ∧ a1 < (gN σ 7 : Int)
  · obtain ⟨e1, e2, e3, e4, hs⟩ := shP hS p
    obtain ⟨q1, q2, q3, q4, q5, q6, q7, q8, q9, r1, r2, r3, r4, r5, r6, r7, x1, x2, x3, x4, x5, x6⟩ := id hs
    obtain ⟨o, ho⟩ := Int.eq_ofNat_of_zero_le r1.1
    rw [ho] at r1
    have z0 : (0 : Int) = ((0 : Nat) : Int) := rfl
    by_cases c0 : wv σ a1.toNat (gI σ 1200 0 0) = 1
    · obtain ⟨σ1, c1, c2⟩ := earliest_c hW (l := 0) (Or.inl rfl) (p := o) (d := 0) (h := gI σ 1200 0 0) (by omega) (by omega) (by omega)
      obtain ⟨σ2, c3, c4⟩ := earliest_c (hW.ex c2 (dj_use (by decide))) (l := 1) (Or.inr rfl) (p := o) (d := 0) (h := gI σ 1200 0 0) (by omega) (by omega) (by omega)
      rw [tvD_ex c2 (dj_use (by decide))] at c3
      have b1 := tvD_bd hW (l := 0) (p := o) (h := gI σ 1200 0 0) (by omega) 0 (by omega)
      have b2 := tvD_bd hW (l := 1) (p := o) (h := gI σ 1200 0 0) (by omega) 0 (by omega)
      have hx2 : Ex [1002] σ σ2 := c2.trans c4
      have hcl : ∀ {f : Int → Int → St → Option (Int × St)}, bnd (fX9_earliest (gI σ 801 a1.toNat 0) (gI σ 1200 0 0) 0 0 σ) (fun r11 σ13 => bnd (fX9_earliest (gI σ13 801 a1.toNat 0) (gI σ13 1200 0 0) 0 1 σ13) (fun r17 σ19 => f r11 r17 σ19)) = f (if tvD σ 0 o (gI σ 1200 0 0) 0 = 1000000 then -9 else tvD σ 0 o (gI σ 1200 0 0) 0) (if tvD σ 1 o (gI σ 1200 0 0) 0 = 1000000 then -9 else tvD σ 1 o (gI σ 1200 0 0) 0) σ2 := by
        intro f
        rw [ho, show fX9_earliest (o : Int) (gI σ 1200 0 0) 0 0 σ = _ from c1, bnd_some, c2.i (c := 801) (by decide), c2.i (c := 1200) (by decide), ho, show fX9_earliest (o : Int) (gI σ 1200 0 0) 0 1 σ1 = _ from c3, bnd_some]
      have hmo : ∀ (σa : St), Ex [1002, 808, 811, 812] σ σa → ∃ σb, Ex [1309] σa σb ∧ fX12_send a1 σa = (if tvD σ 0 o (gI σ 1200 0 0) 0 = 1000000 then (some ((-3), σb)) else (if tvD σ 1 o (gI σ 1200 0 0) 0 = 1000000 then (some ((-3), σb)) else (some (tvD σ 0 o (gI σ 1200 0 0) 0, sI (sI (sI σb 1318 0 a1.toNat (gI σ 1200 0 0)) 1321 0 a1.toNat (tvD σ 0 o (gI σ 1200 0 0) 0)) 1322 0 a1.toNat (tvD σ 1 o (gI σ 1200 0 0) 0))))) := by
        intro σa hxa
        have hWa := hW.ex hxa (dj_use (by decide))
        obtain ⟨σb, m1, m2⟩ := tr_m hWa (l := 0) (Or.inl rfl) (p := o) (d := 0) (h := gI σ 1200 0 0) (by omega) (by omega) (by omega)
        obtain ⟨σd, m3, m4⟩ := tr_m (hWa.ex m2 (dj_use (by decide))) (l := 1) (Or.inr rfl) (p := o) (d := 0) (h := gI σ 1200 0 0) (by omega) (by omega) (by omega)
        rw [tvD_ex hxa (dj_use (by decide))] at m1
        rw [tvD_ex m2 (dj_use (by decide)), tvD_ex hxa (dj_use (by decide))] at m3
        have hxd : Ex [1002, 808, 811, 812, 1309] σ σd := ((hxa.mono (by decide)).trans (m2.mono (by decide))).trans (m4.mono (by decide))
        have hxb : Ex [1002, 808, 811, 812, 1309] σ σb := (hxa.mono (by decide)).trans (m2.mono (by decide))
        have hs2 : fX12_whereOf a1 (gI σ 1200 0 0) σd = fX12_whereOf a1 (gI σ 1200 0 0) σ := by
          unfold fX12_whereOf
          simp only [hxd.i (c := 1317) (by decide), hxd.i (c := 1318) (by decide), hxd.i (c := 1319) (by decide), hxd.i (c := 1320) (by decide)]
        have hi2 : fX12_isShot a1 σa = fX12_isShot a1 σ := by
          unfold fX12_isShot
          rw [hxa.i (c := 1310) (by decide)]
        refine ⟨σd, m2.trans m4, ?_⟩
        unfold fX12_send
        rw [hi2, e2, bnk_some, if_neg (by decide), ck_x e4.1 e4.2, hxa.i (c := 1311) (by decide), hxa.i (c := 1300) (by decide), q3, t1, ho, show fX12_arrives (o : Int) (gI σ 1200 0 0) 0 0 σa = _ from m1, bnd_some, ck_x e4.1 e4.2, hxb.i (c := 1311) (by decide), hxb.i (c := 1300) (by decide), q3, t1, ho, show fX12_arrives (o : Int) (gI σ 1200 0 0) 0 1 σb = _ from m3, bnd_some, hxd.i (c := 1300) (by decide), t1, hs2, wv_m t3 hs e4 t3, bnk_some, if_pos c0, ck_x e4.1 e4.2, ck_x e4.1 e4.2, ck_x e4.1 e4.2]
      by_cases d1 : tvD σ 0 o (gI σ 1200 0 0) 0 = 1000000
      · obtain ⟨σb, m1, m2⟩ := hmo σ2 (hx2.mono (by decide))
        rw [if_pos d1] at m2
        refine opW (r := -3) (σ1 := σ2) (σ2 := σb) ?_ m2 ?_
        · unfold fX11_send
          rw [e1, bnk_some, mop_s, ck_n e3, wv_c, bnk_some, if_pos c0, hcl, if_pos d1, if_pos rfl]
        · have hx : Ex [1002, 1309] σ σb := (hx2.mono (by decide)).trans (m1.mono (by decide))
          exact ⟨hT.ex hx (dj_use (by decide)), hW.ex hx (dj_use (by decide)), hS.ex hx (dj_use (by decide)), hF.ex hx (dj_use (by decide)), hY.ex hx (dj_use (by decide)), hA.ex hx (dj_use (by decide)), hL.ex hx (dj_use (by decide)), hG.ex hx (dj_use (by decide)), hE.ex hx (dj_use (by decide)), hC.ex hx (dj_use (by decide)), hH.ex hx (dj_use (by decide)), hQ.ex hx (dj_use (by decide))⟩
      · by_cases d2 : tvD σ 1 o (gI σ 1200 0 0) 0 = 1000000
        · obtain ⟨σb, m1, m2⟩ := hmo σ2 (hx2.mono (by decide))
          rw [if_neg d1, if_pos d2] at m2
          refine opW (r := -3) (σ1 := σ2) (σ2 := σb) ?_ m2 ?_
          · unfold fX11_send
            rw [e1, bnk_some, mop_s, ck_n e3, wv_c, bnk_some, if_pos c0, hcl, if_neg d1, if_pos d2, if_neg (by omega), if_pos rfl]
          · have hx : Ex [1002, 1309] σ σb := (hx2.mono (by decide)).trans (m1.mono (by decide))
            exact ⟨hT.ex hx (dj_use (by decide)), hW.ex hx (dj_use (by decide)), hS.ex hx (dj_use (by decide)), hF.ex hx (dj_use (by decide)), hY.ex hx (dj_use (by decide)), hA.ex hx (dj_use (by decide)), hL.ex hx (dj_use (by decide)), hG.ex hx (dj_use (by decide)), hE.ex hx (dj_use (by decide)), hC.ex hx (dj_use (by decide)), hH.ex hx (dj_use (by decide)), hQ.ex hx (dj_use (by decide))⟩
        · have hx3 : Ex [1002, 808, 811, 812] σ (sI (sI (sI σ2 808 a1.toNat 0 (gI σ 1200 0 0)) 811 a1.toNat 0 (tvD σ 0 o (gI σ 1200 0 0) 0)) 812 a1.toNat 0 (tvD σ 1 o (gI σ 1200 0 0) 0)) := (((hx2.mono (by decide)).sI (by decide)).sI (by decide)).sI (by decide)
          obtain ⟨σb, m1, m2⟩ := hmo _ hx3
          rw [if_neg d1, if_neg d2] at m2
          refine opW (r := tvD σ 0 o (gI σ 1200 0 0) 0) (σ1 := sI (sI (sI σ2 808 a1.toNat 0 (gI σ 1200 0 0)) 811 a1.toNat 0 (tvD σ 0 o (gI σ 1200 0 0) 0)) 812 a1.toNat 0 (tvD σ 1 o (gI σ 1200 0 0) 0)) (σ2 := _) ?_ m2 ?_
          · unfold fX11_send
            rw [e1, bnk_some, mop_s, ck_n e3, wv_c, bnk_some, if_pos c0, hcl, if_neg d1, if_neg d2, if_neg (by omega), if_neg (by omega), hx2.i (c := 1200) (by decide)]
          · have hx4 : Ex [1002, 808, 811, 812, 1309] σ σb := (hx3.mono (by decide)).trans (m1.mono (by decide))
            have g8 : ∀ i, gI σb 808 i 0 = if i = a1.toNat then gI σ 1200 0 0 else gI σ 808 i 0 := fun i => by
              rw [m1.i (c := 808) (by decide), ii (by omega), ii (by omega)]
              by_cases q : i = a1.toNat
              · rw [if_pos q, q, gs]
              · rw [if_neg q, ii (by omega), hx2.i (c := 808) (by decide)]
            have g11 : ∀ i, gI σb 811 i 0 = if i = a1.toNat then tvD σ 0 o (gI σ 1200 0 0) 0 else gI σ 811 i 0 := fun i => by
              rw [m1.i (c := 811) (by decide), ii (by omega)]
              by_cases q : i = a1.toNat
              · rw [if_pos q, q, gs]
              · rw [if_neg q, ii (by omega), ii (by omega), hx2.i (c := 811) (by decide)]
            have g12 : ∀ i, gI σb 812 i 0 = if i = a1.toNat then tvD σ 1 o (gI σ 1200 0 0) 0 else gI σ 812 i 0 := fun i => by
              rw [m1.i (c := 812) (by decide)]
              by_cases q : i = a1.toNat
              · rw [if_pos q, q, gs]
              · rw [if_neg q, ii (by omega), ii (by omega), ii (by omega), hx2.i (c := 812) (by decide)]
            have hx : Ex [1002, 808, 811, 812, 1309, 1318, 1321, 1322] σ (sI (sI (sI σb 1318 0 a1.toNat (gI σ 1200 0 0)) 1321 0 a1.toNat (tvD σ 0 o (gI σ 1200 0 0) 0)) 1322 0 a1.toNat (tvD σ 1 o (gI σ 1200 0 0) 0)) := (((hx4.mono (by decide)).sI (by decide)).sI (by decide)).sI (by decide)
            refine ⟨hT.ex hx (dj_use (by decide)), hW.ex hx (dj_use (by decide)), ?_, hF.ex hx (dj_use (by decide)), hY.ex hx (dj_use (by decide)), hA.ex hx (dj_use (by decide)), hL.ex hx (dj_use (by decide)), hG.ex hx (dj_use (by decide)), hE.ex hx (dj_use (by decide)), hC.ex hx (dj_use (by decide)), hH.ex hx (dj_use (by decide)), hQ.ex hx (dj_use (by decide))⟩
            have k18 : ∀ i, gI (sI (sI (sI σb 1318 0 a1.toNat (gI σ 1200 0 0)) 1321 0 a1.toNat (tvD σ 0 o (gI σ 1200 0 0) 0)) 1322 0 a1.toNat (tvD σ 1 o (gI σ 1200 0 0) 0)) 1318 0 i = if i = a1.toNat then gI σ 1200 0 0 else gI σ 1318 0 i := fun i => by
              rw [ii (by omega), ii (by omega)]
              by_cases q : i = a1.toNat
              · rw [if_pos q, q, gs]
              · rw [if_neg q, ii (by omega), hx4.i (c := 1318) (by decide)]
            have k21 : ∀ i, gI (sI (sI (sI σb 1318 0 a1.toNat (gI σ 1200 0 0)) 1321 0 a1.toNat (tvD σ 0 o (gI σ 1200 0 0) 0)) 1322 0 a1.toNat (tvD σ 1 o (gI σ 1200 0 0) 0)) 1321 0 i = if i = a1.toNat then tvD σ 0 o (gI σ 1200 0 0) 0 else gI σ 1321 0 i := fun i => by
              rw [ii (by omega)]
              by_cases q : i = a1.toNat
              · rw [if_pos q, q, gs]
              · rw [if_neg q, ii (by omega), ii (by omega), hx4.i (c := 1321) (by decide)]
            have k22 : ∀ i, gI (sI (sI (sI σb 1318 0 a1.toNat (gI σ 1200 0 0)) 1321 0 a1.toNat (tvD σ 0 o (gI σ 1200 0 0) 0)) 1322 0 a1.toNat (tvD σ 1 o (gI σ 1200 0 0) 0)) 1322 0 i = if i = a1.toNat then tvD σ 1 o (gI σ 1200 0 0) 0 else gI σ 1322 0 i := fun i => by
              by_cases q : i = a1.toNat
              · rw [if_pos q, q, gs]
              · rw [if_neg q, ii (by omega), ii (by omega), ii (by omega), hx4.i (c := 1322) (by decide)]
            have k8 : ∀ i, gI (sI (sI (sI σb 1318 0 a1.toNat (gI σ 1200 0 0)) 1321 0 a1.toNat (tvD σ 0 o (gI σ 1200 0 0) 0)) 1322 0 a1.toNat (tvD σ 1 o (gI σ 1200 0 0) 0)) 808 i 0 = if i = a1.toNat then gI σ 1200 0 0 else gI σ 808 i 0 := fun i => by
              rw [ii (by omega), ii (by omega), ii (by omega), g8]
            have k11 : ∀ i, gI (sI (sI (sI σb 1318 0 a1.toNat (gI σ 1200 0 0)) 1321 0 a1.toNat (tvD σ 0 o (gI σ 1200 0 0) 0)) 1322 0 a1.toNat (tvD σ 1 o (gI σ 1200 0 0) 0)) 811 i 0 = if i = a1.toNat then tvD σ 0 o (gI σ 1200 0 0) 0 else gI σ 811 i 0 := fun i => by
              rw [ii (by omega), ii (by omega), ii (by omega), g11]
            have k12 : ∀ i, gI (sI (sI (sI σb 1318 0 a1.toNat (gI σ 1200 0 0)) 1321 0 a1.toNat (tvD σ 0 o (gI σ 1200 0 0) 0)) 1322 0 a1.toNat (tvD σ 1 o (gI σ 1200 0 0) 0)) 812 i 0 = if i = a1.toNat then tvD σ 1 o (gI σ 1200 0 0) 0 else gI σ 812 i 0 := fun i => by
              rw [ii (by omega), ii (by omega), ii (by omega), g12]
            generalize (sI (sI (sI σb 1318 0 a1.toNat (gI σ 1200 0 0)) 1321 0 a1.toNat (tvD σ 0 o (gI σ 1200 0 0) 0)) 1322 0 a1.toNat (tvD σ 1 o (gI σ 1200 0 0) 0)) = σz at hx k8 k11 k12 k18 k21 k22
            refine RS.upd2 hS (hx.mono (by decide)) (fun i hi => ?_)
            obtain ⟨q1, q2, q3, q4, q5, q6, q7, q8, q9, r1, r2, r3, r4, r5, r6, r7, x1, x2, x3, x4, x5, x6⟩ := hS.2.2.2 i hi
            rw [hx.i (c := 809) (by decide), hx.i (c := 1319) (by decide), hx.i (c := 810) (by decide), hx.i (c := 1320) (by decide), k8, k11, k12, k18, k21, k22]
            by_cases q : i = a1.toNat
            · rw [if_pos q, if_pos q, if_pos q, if_pos q, if_pos q, if_pos q]
              exact ⟨Or.inr ⟨rfl, r7.2, Int.le_refl _⟩, x2, x3, rfl, rfl, by omega, by omega⟩
            · rw [if_neg q, if_neg q, if_neg q, if_neg q, if_neg q, if_neg q]
              exact ⟨x1, x2, x3, x4, x5, x6⟩
    · have hW0 := hW
      obtain ⟨σb, m1, m2⟩ := tr_m hW (l := 0) (Or.inl rfl) (p := o) (d := 0) (h := gI σ 1200 0 0) (by omega) (by omega) (by omega)
      obtain ⟨σd, m3, m4⟩ := tr_m (hW.ex m2 (dj_use (by decide))) (l := 1) (Or.inr rfl) (p := o) (d := 0) (h := gI σ 1200 0 0) (by omega) (by omega) (by omega)
      have hxd : Ex [1309] σ σd := m2.trans m4
      have hs2 : fX12_whereOf a1 (gI σ 1200 0 0) σd = fX12_whereOf a1 (gI σ 1200 0 0) σ := by
        unfold fX12_whereOf
        simp only [hxd.i (c := 1317) (by decide), hxd.i (c := 1318) (by decide), hxd.i (c := 1319) (by decide), hxd.i (c := 1320) (by decide)]
      refine opW (r := -3) (σ1 := σ) (σ2 := σd) ?_ ?_ ?_
      · unfold fX11_send
        rw [e1, bnk_some, mop_s, ck_n e3, wv_c, bnk_some, if_neg c0]
      · unfold fX12_send
        rw [e2, bnk_some, if_neg (by decide), ck_x e4.1 e4.2, q3, t1, ho, show fX12_arrives (o : Int) (gI σ 1200 0 0) 0 0 σ = _ from m1, bnd_some, ck_x e4.1 e4.2, m2.i (c := 1311) (by decide), m2.i (c := 1300) (by decide), q3, t1, ho, show fX12_arrives (o : Int) (gI σ 1200 0 0) 0 1 σb = _ from m3, bnd_some, hxd.i (c := 1300) (by decide), t1, hs2, wv_m t3 hs e4 t3, bnk_some, if_neg c0]
      · exact ⟨hT.ex hxd (dj_use (by decide)), hW.ex hxd (dj_use (by decide)), hS.ex hxd (dj_use (by decide)), hF.ex hxd (dj_use (by decide)), hY.ex hxd (dj_use (by decide)), hA.ex hxd (dj_use (by decide)), hL.ex hxd (dj_use (by decide)), hG.ex hxd (dj_use (by decide)), hE.ex hxd (dj_use (by decide)), hC.ex hxd (dj_use (by decide)), hH.ex hxd (dj_use (by decide)), hQ.ex hxd (dj_use (by decide))⟩
  · obtain ⟨e1, e2⟩ := shN hS p
    refine opW (r := -1) (σ1 := σ) (σ2 := σ) ?_ ?_ hR
    · unfold fX11_send; rw [e1]; rfl
    · unfold fX12_send; rw [e2]; rfl
