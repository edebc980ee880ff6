/-! men and events: the class's plan -/
theorem cvP_0 (σ : St) (m : Nat) : cvP (chM σ) m 0 := by
  induction m with
  | zero => rfl
  | succ m ih => exact ⟨0, Nat.zero_and 0, chM_0 σ m, by rw [Nat.xor_zero]; exact ih⟩
theorem cvP_s {σ : St} {m S : Nat} : cvP (chM σ) (m + 1) S ↔ (cvP (chM σ) m S ∨ ∃ o, 0 < o ∧ o &&& S = o ∧ chM σ m o = true ∧ cvP (chM σ) m (S ^^^ o)) := by
  constructor
  · rintro ⟨o, h1, h2, h3⟩
    by_cases c : o = 0
    · rw [c, Nat.xor_zero] at h3; exact Or.inl h3
    · exact Or.inr ⟨o, by omega, h1, h2, h3⟩
  · rintro (h | ⟨o, h0, h1, h2, h3⟩)
    · exact ⟨0, Nat.zero_and S, chM_0 σ m, by rw [Nat.xor_zero]; exact h⟩
    · exact ⟨o, h1, h2, h3⟩
def T109 (σ τ : St) (m : Nat) : Prop := ∀ S, S < 2 ^ evN σ → TF (gI τ 109 0 S) (cvP (chM σ) m S)
theorem addMan_c {σ τ : St} {m : Nat} (hR : RR σ) (ha : Ag σ τ) (h7 : T107 σ τ) (h9 : T109 σ τ m) (hm : gI σ 100 0 m ≠ -9) : ∃ τ', fX0_addMan ((setN (rchB σ (gI σ 100 0 m) (gI σ 101 0 m)) (evN σ) : Nat) : Int) τ = some ((), τ') ∧ Ex [108, 109] τ τ' ∧ T109 σ τ' (m + 1) := by
  have hC := hR.2.2.2.2.2.2.2.2.2.1
  obtain ⟨c1, c2, c3, c4, c5, c6⟩ := hC.ev
  have h256 : 2 ^ evN σ ≤ 2 ^ 8 := Nat.pow_le_pow_right (by omega) c3
  have hsh : ishl 1 (evN σ : Int) = ((2 ^ evN σ : Nat) : Int) := ishl_one ⟨evN σ, by omega⟩
  have h1p : 1 ≤ 2 ^ evN σ := Nat.one_le_two_pow
  obtain ⟨τ1, a1, a2, a3⟩ := addA_c (st := rchB σ (gI σ 100 0 m) (gI σ 101 0 m)) hR ha h7
  have hch : ∀ S, chM σ m S = chB (rchB σ (gI σ 100 0 m) (gI σ 101 0 m)) (nxB σ) S (evN σ) := by
    intro S
    unfold chM
    rw [if_neg hm]
  have key : ∀ S, S < 2 ^ evN σ → ∀ τ2, Ex [109] τ1 τ2 → (∀ e, e ≤ S → TF (gI τ2 109 0 e) (cvP (chM σ) m e)) → (∀ e, S < e → e < 2 ^ evN σ → TF (gI τ2 109 0 e) (cvP (chM σ) (m + 1) e)) → ∃ τ', wh (fun s => fX0_addMan_l39 s.1 s.2) (((S : Int), τ2)) = some τ' ∧ Ex [109] τ1 τ' ∧ T109 σ τ' (m + 1) := by
    intro S
    induction S with
    | zero =>
      intro hS τ2 hx hl hh
      refine ⟨τ2, wh_inr ?_, hx, fun e he => ?_⟩
      · show fX0_addMan_l39 ((0 : Nat) : Int) τ2 = _
        unfold fX0_addMan_l39
        rw [if_pos (by decide)]
      · by_cases q : e = 0
        · subst q
          exact (hl 0 (Nat.le_refl _)).c ⟨fun _ => cvP_0 σ (m + 1), fun _ => cvP_0 σ m⟩
        · exact hh e (by omega) he
    | succ S ih =>
      intro hS τ2 hx hl hh
      obtain ⟨τ3, i1, i2, i3, i4⟩ := addI_c (τ := τ2) (S := S + 1) (Q := cvP (chM σ) m) (one := chM σ m) (by omega) (by omega) (fun o z1 z2 => by rw [hx.i (c := 108) (by decide), a3 o z1 (by omega), hch]) hl
      obtain ⟨τ', k1, k2⟩ := ih (by omega) τ3 (hx.trans i2) (fun e he => by rw [i3 e (by omega)]; exact hl e (by omega)) (fun e z1 z2 => by
        by_cases q : e = S + 1
        · rw [q]; exact i4.c cvP_s.symm
        · rw [i3 e q]; exact hh e (by omega) z2)
      refine ⟨τ', wh_inl ?_ k1, k2⟩
      show fX0_addMan_l39 ((S + 1 : Nat) : Int) τ2 = some (.inl ((S : Int), τ3))
      unfold fX0_addMan_l39 fX0_addMan_j45 fX0_addMan_j98
      rw [if_neg (by omega), i1, bnk_some, ck_i (by omega) (by omega), show ((S + 1 : Nat) : Int) + -1 = (S : Int) by omega]
  obtain ⟨τ', k1, k2, k3⟩ := key (2 ^ evN σ - 1) (by omega) τ1 Ex.rf (fun e he => by rw [a2.i (c := 109) (by decide)]; exact h9 e (by omega)) (fun e z1 z2 => by omega)
  refine ⟨τ', ?_, (a2.mono (by decide)).trans (k2.mono (by decide)), k3⟩
  unfold fX0_addMan fX0_addMan_j2 fX0_addMan_j30 fX0_addMan_j39 fX0_addMan_j104
  rw [a1, bnk_some, a2.i (c := 102) (by decide), ha.i (c := 102) (by decide), c1, hsh, ck_i (by omega) (by omega), show ((2 ^ evN σ : Nat) : Int) - 1 = ((2 ^ evN σ - 1 : Nat) : Int) by omega, k1]
  rfl
theorem cvP_none {σ : St} {m S : Nat} (hm : gI σ 100 0 m = -9) : cvP (chM σ) (m + 1) S ↔ cvP (chM σ) m S := by
  rw [cvP_s]
  constructor
  · rintro (h | ⟨o, h0, h1, h2, h3⟩)
    · exact h
    · unfold chM at h2
      rw [if_pos hm, decide_eq_true_iff] at h2
      omega
  · intro h; exact Or.inl h
/-- the best to be covered -/
def CBS (σ : St) (L : Nat) (W A U : Int) : Prop := (∃ S, S < L ∧ cvP (chM σ) 4 S ∧ wrV σ S (evN σ) = W) ∧ (∀ S, S < L → cvP (chM σ) 4 S → wrV σ S (evN σ) ≤ W) ∧ ∃ a u : Nat, A = (a : Int) ∧ U = (u : Int) ∧ a < 256 ∧ u < 256 ∧ (∀ i, a.testBit i = true ↔ ∀ S, S < L → cvP (chM σ) 4 S → wrV σ S (evN σ) = W → (evS σ S (evN σ)).testBit i = true) ∧ (∀ i, u.testBit i = true ↔ ∃ S, S < L ∧ cvP (chM σ) 4 S ∧ wrV σ S (evN σ) = W ∧ (evS σ S (evN σ)).testBit i = true)
theorem wr_bd {σ : St} (h : RC σ) (S : Nat) (k : Nat) (hk : k ≤ evN σ) : 0 ≤ wrV σ S k ∧ wrV σ S k ≤ 999 * k := by
  obtain ⟨c1, c2, c3, c4, c5, c6⟩ := h.ev
  have := sumN_bd2 (g := fun r => if S.testBit r = true then gI σ 105 0 (evB σ r) else 0) (lo := 0) (hi := 999) k (fun i hi => by
    have h1 := (c6 (evB σ i) (c4 i (by omega)).2).2.2.2.2.2
    show 0 ≤ (if S.testBit i = true then gI σ 105 0 (evB σ i) else 0) ∧ (if S.testBit i = true then gI σ 105 0 (evB σ i) else 0) ≤ 999
    split <;> omega)
  unfold wrV
  omega
theorem offer_c {σ τ : St} {S : Nat} (hR : RR σ) (ha : Ag σ τ) (hS : S < 2 ^ evN σ) : fX0_offer (S : Int) τ = fX0_offer_j59 (wrV σ S (evN σ)) ((evS σ S (evN σ) : Nat) : Int) τ := by
  have hC := hR.2.2.2.2.2.2.2.2.2.1
  obtain ⟨c1, c2, c3, c4, c5, c6⟩ := hC.ev
  have h256 : 2 ^ evN σ ≤ 2 ^ 8 := Nat.pow_le_pow_right (by omega) c3
  unfold fX0_offer fX0_offer_j7
  have hw := wh_seq (f := fun s => fX0_offer_l7 (S : Int) τ s.1 s.2.1 s.2.2) (r := (wrV σ S (evN σ), ((evS σ S (evN σ) : Nat) : Int))) (evN σ) (fun r => (wrV σ S r, ((evS σ S r : Nat) : Int), (r : Int))) ?_ ?_
  · exact bnk_of hw rfl
  · intro r hr
    obtain ⟨b1, b2⟩ := c4 r hr
    have hb := wr_bd hC S r (by omega)
    have he := evS_lt hC S r (by omega)
    have h5 := (c6 (evB σ r) b2).2.2.2.2.2
    show fX0_offer_l7 (S : Int) τ (wrV σ S r) ((evS σ S r : Nat) : Int) (r : Int) = some (.inl (wrV σ S r + (if S.testBit r = true then gI σ 105 0 (evB σ r) else 0), (((if S.testBit r = true then evS σ S r ||| 2 ^ evB σ r else evS σ S r : Nat)) : Int), ((r + 1 : Nat) : Int)))
    unfold fX0_offer_l7 fX0_offer_j53
    rw [ha.i (c := 102) (by decide), c1, if_neg (by omega), hasM_eq (by omega) (by omega), bnkI]
    by_cases c : S.testBit r = true
    · rw [if_pos c, if_pos c, if_pos c, ck_x (by omega) (by omega), Int.toNat_natCast, ha.i (c := 106) (by decide), b1, ck_x (by omega) (by omega), Int.toNat_natCast, ha.i (c := 105) (by decide), ck_i (by omega) (by omega), ck_x (by omega) (by omega), wM1 (by omega) (by omega), bnk_some, ck_i (by omega) (by omega)]; rfl
    · rw [if_neg c, if_neg c, if_neg c, ck_i (by omega) (by omega), Int.add_zero]; rfl
  · show fX0_offer_l7 (S : Int) τ _ _ (evN σ : Int) = _
    unfold fX0_offer_l7
    rw [ha.i (c := 102) (by decide), c1, if_pos (Int.le_refl _)]
theorem CBS_step {σ : St} {S : Nat} {W A U : Int} (hC : RC σ) (h : CBS σ S W A U) (hev : evS σ S (evN σ) < 256) : (¬ cvP (chM σ) 4 S → CBS σ (S + 1) W A U) ∧ (cvP (chM σ) 4 S → (wrV σ S (evN σ) < W → CBS σ (S + 1) W A U) ∧ (wrV σ S (evN σ) = W → CBS σ (S + 1) W (iand A ((evS σ S (evN σ) : Nat) : Int)) (ior U ((evS σ S (evN σ) : Nat) : Int))) ∧ (W < wrV σ S (evN σ) → CBS σ (S + 1) (wrV σ S (evN σ)) ((evS σ S (evN σ) : Nat) : Int) ((evS σ S (evN σ) : Nat) : Int))) := by
  obtain ⟨⟨S0, z1, z2, z3⟩, h2, a, u, h3, h4, h5, h6, h7, h8⟩ := h
  have ext : ∀ (hno : ¬ (cvP (chM σ) 4 S ∧ wrV σ S (evN σ) = W)) (hle : cvP (chM σ) 4 S → wrV σ S (evN σ) ≤ W), CBS σ (S + 1) W A U := by
    intro hno hle
    refine ⟨⟨S0, by omega, z2, z3⟩, fun S' s1 s2 => ?_, a, u, h3, h4, h5, h6, fun i => ?_, fun i => ?_⟩
    · by_cases q : S' = S
      · rw [q] at s2 ⊢; exact hle s2
      · exact h2 S' (by omega) s2
    · rw [h7 i]
      constructor
      · intro w S' s1 s2 s3
        by_cases q : S' = S
        · rw [q] at s2 s3; exact absurd ⟨s2, s3⟩ hno
        · exact w S' (by omega) s2 s3
      · intro w S' s1 s2 s3; exact w S' (by omega) s2 s3
    · rw [h8 i]
      constructor
      · rintro ⟨S', s1, s2, s3, s4⟩; exact ⟨S', by omega, s2, s3, s4⟩
      · rintro ⟨S', s1, s2, s3, s4⟩
        by_cases q : S' = S
        · rw [q] at s2 s3; exact absurd ⟨s2, s3⟩ hno
        · exact ⟨S', by omega, s2, s3, s4⟩
  refine ⟨fun hn => ext (fun z => hn z.1) (fun z => absurd z hn), fun hc => ⟨fun hlt => ext (fun z => by omega) (fun _ => by omega), fun heq => ?_, fun hgt => ?_⟩⟩
  · have ho : u ||| evS σ S (evN σ) < 2 ^ 8 := Nat.or_lt_two_pow (by omega) (by omega)
    have han : a &&& evS σ S (evN σ) ≤ a := Nat.and_le_left
    refine ⟨⟨S0, by omega, z2, z3⟩, fun S' s1 s2 => ?_, a &&& evS σ S (evN σ), u ||| evS σ S (evN σ), by rw [h3]; exact iand_nat (by omega) (by omega), by rw [h4]; exact ior_nat (by omega) (by omega), by omega, by omega, fun i => ?_, fun i => ?_⟩
    · by_cases q : S' = S
      · rw [q]; omega
      · exact h2 S' (by omega) s2
    · rw [Nat.testBit_and, Bool.and_eq_true, h7 i]
      constructor
      · rintro ⟨w1, w2⟩ S' s1 s2 s3
        by_cases q : S' = S
        · rw [q]; exact w2
        · exact w1 S' (by omega) s2 s3
      · intro w
        exact ⟨fun S' s1 s2 s3 => w S' (by omega) s2 s3, w S (by omega) hc heq⟩
    · rw [Nat.testBit_or, Bool.or_eq_true, h8 i]
      constructor
      · rintro (⟨S', s1, s2, s3, s4⟩ | w)
        · exact ⟨S', by omega, s2, s3, s4⟩
        · exact ⟨S, by omega, hc, heq, w⟩
      · rintro ⟨S', s1, s2, s3, s4⟩
        by_cases q : S' = S
        · rw [q] at s4; exact Or.inr s4
        · exact Or.inl ⟨S', by omega, s2, s3, s4⟩
  · refine ⟨⟨S, by omega, hc, rfl⟩, fun S' s1 s2 => ?_, evS σ S (evN σ), evS σ S (evN σ), rfl, rfl, hev, hev, fun i => ?_, fun i => ?_⟩
    · by_cases q : S' = S
      · rw [q]; exact Int.le_refl _
      · have := h2 S' (by omega) s2; omega
    · constructor
      · intro w S' s1 s2 s3
        by_cases q : S' = S
        · rw [q]; exact w
        · have := h2 S' (by omega) s2; omega
      · intro w; exact w S (by omega) hc rfl
    · constructor
      · intro w; exact ⟨S, by omega, hc, rfl, w⟩
      · rintro ⟨S', s1, s2, s3, s4⟩
        by_cases q : S' = S
        · rw [q] at s4; exact s4
        · have := h2 S' (by omega) s2; omega
theorem choose_c {σ τ : St} (hR : RR σ) (ha : Ag σ τ) (h9 : T109 σ τ 4) : ∃ τ', fX0_chooseBest τ = some ((), τ') ∧ Ex [110, 111, 112] τ τ' ∧ CBS σ (2 ^ evN σ) (gI τ' 110 0 0) (gI τ' 111 0 0) (gI τ' 112 0 0) := by
  have hC := hR.2.2.2.2.2.2.2.2.2.1
  obtain ⟨c1, c2, c3, c4, c5, c6⟩ := hC.ev
  have h256 : 2 ^ evN σ ≤ 2 ^ 8 := Nat.pow_le_pow_right (by omega) c3
  have hsh : ishl 1 (evN σ : Int) = ((2 ^ evN σ : Nat) : Int) := ishl_one ⟨evN σ, by omega⟩
  have h1p : 1 ≤ 2 ^ evN σ := Nat.one_le_two_pow
  have key : ∀ m S, S + m = 2 ^ evN σ → 0 < S → ∀ τ1, Ex [110, 111, 112] τ τ1 → CBS σ S (gI τ1 110 0 0) (gI τ1 111 0 0) (gI τ1 112 0 0) → ∃ τ', wh (fun s => fX0_chooseBest_l17 s.1 s.2) (((S : Int), τ1)) = some τ' ∧ Ex [110, 111, 112] τ τ' ∧ CBS σ (2 ^ evN σ) (gI τ' 110 0 0) (gI τ' 111 0 0) (gI τ' 112 0 0) := by
    intro m
    induction m with
    | zero =>
      intro S hS h0 τ1 hx hb
      have : S = 2 ^ evN σ := by omega
      rw [← this]
      refine ⟨τ1, wh_inr ?_, hx, hb⟩
      show fX0_chooseBest_l17 (S : Int) τ1 = _
      unfold fX0_chooseBest_l17
      rw [hx.i (c := 102) (by decide), ha.i (c := 102) (by decide), c1, hsh, if_pos (by omega)]
    | succ m ih =>
      intro S hS h0 τ1 hx hb
      have a1 := ha.trans (Ag.of hx (by decide))
      have hev := evS_lt hC S (evN σ) (Nat.le_refl _)
      obtain ⟨s1, s2⟩ := CBS_step hC hb (by omega)
      have ht : gI τ1 109 0 S = gI τ 109 0 S := hx.i (by decide) _ _
      have hTF := h9 S (by omega)
      have step : ∀ τ2, Ex [110, 111, 112] τ1 τ2 → CBS σ (S + 1) (gI τ2 110 0 0) (gI τ2 111 0 0) (gI τ2 112 0 0) → fX0_chooseBest_l17 (S : Int) τ1 = some (.inl (((S + 1 : Nat) : Int), τ2)) → ∃ τ', wh (fun s => fX0_chooseBest_l17 s.1 s.2) (((S : Int), τ1)) = some τ' ∧ Ex [110, 111, 112] τ τ' ∧ CBS σ (2 ^ evN σ) (gI τ' 110 0 0) (gI τ' 111 0 0) (gI τ' 112 0 0) := by
        intro τ2 x1 x2 x3
        obtain ⟨τ', k1, k2⟩ := ih (S + 1) (by omega) (by omega) τ2 (hx.trans x1) x2
        exact ⟨τ', wh_inl x3 k1, k2⟩
      have pre : ∀ {X : Option ((Int × St) ⊕ St)}, (if gI τ 109 0 S = 0 then (fX0_chooseBest_j41 (S : Int) τ1) else (bnd (fX0_offer_j59 (wrV σ S (evN σ)) ((evS σ S (evN σ) : Nat) : Int) τ1) (fun _ σ13 => fX0_chooseBest_j41 (S : Int) σ13))) = X → fX0_chooseBest_l17 (S : Int) τ1 = X := by
        intro X hX
        unfold fX0_chooseBest_l17
        rw [hx.i (c := 102) (by decide), ha.i (c := 102) (by decide), c1, hsh, if_neg (by omega), ck_x (by omega) (by omega), Int.toNat_natCast, ht, offer_c hR a1 (by omega)]
        exact hX
      have j41 : ∀ τ2, fX0_chooseBest_j41 (S : Int) τ2 = some (.inl (((S + 1 : Nat) : Int), τ2)) := by
        intro τ2
        unfold fX0_chooseBest_j41
        rw [ck_i (by omega) (by omega)]; rfl
      by_cases c : cvP (chM σ) 4 S
      · have hnz : ¬ gI τ 109 0 S = 0 := fun z => (hTF.z.mp z) c
        obtain ⟨q1, q2, q3⟩ := s2 c
        by_cases d1 : wrV σ S (evN σ) ≤ gI τ1 110 0 0
        · by_cases d2 : wrV σ S (evN σ) = gI τ1 110 0 0
          · refine step (sI (sI τ1 111 0 0 (iand (gI τ1 111 0 0) ((evS σ S (evN σ) : Nat) : Int))) 112 0 0 (ior (gI τ1 112 0 0) ((evS σ S (evN σ) : Nat) : Int))) ((Ex.rf.sI (by decide)).sI (by decide)) ?_ (pre ?_)
            · rw [ii (by omega), ii (by omega), ii (by omega), gs, gs]
              exact q2 d2
            · unfold fX0_offer_j59
              rw [if_neg hnz, if_pos d1, if_pos d2, bnd_some, j41]
          · refine step τ1 Ex.rf (q1 (by omega)) (pre ?_)
            unfold fX0_offer_j59
            rw [if_neg hnz, if_pos d1, if_neg d2, bnd_some, j41]
        · refine step (sI (sI (sI τ1 110 0 0 (wrV σ S (evN σ))) 111 0 0 ((evS σ S (evN σ) : Nat) : Int)) 112 0 0 ((evS σ S (evN σ) : Nat) : Int)) (((Ex.rf.sI (by decide)).sI (by decide)).sI (by decide)) ?_ (pre ?_)
          · rw [ii (by omega), ii (by omega), gs, ii (by omega), gs, gs]
            exact q3 (by omega)
          · unfold fX0_offer_j59
            rw [if_neg hnz, if_neg d1, bnd_some, j41]
      · exact step τ1 Ex.rf (s1 c) (pre (by rw [if_pos (hTF.z.mpr c), j41]))
  have hx0 : Ex [110, 111, 112] τ (sI (sI (sI τ 110 0 0 0) 111 0 0 0) 112 0 0 0) := ((Ex.rf.sI (by decide)).sI (by decide)).sI (by decide)
  have w0 : wrV σ 0 (evN σ) = 0 := by
    rw [ws_we hC 0 (evN σ) (Nat.le_refl _)]
    have e0 : ∀ k, evS σ 0 k = 0 := by
      intro k
      induction k with
      | zero => rfl
      | succ k ih =>
        show (if (0 : Nat).testBit k = true then _ else evS σ 0 k) = 0
        rw [if_neg (by rw [Nat.zero_testBit]; decide), ih]
    rw [e0]
    exact (ws_we hC 0 0 (Nat.zero_le _)).symm
  have e00 : ∀ k, evS σ 0 k = 0 := by
    intro k
    induction k with
    | zero => rfl
    | succ k ih =>
      show (if (0 : Nat).testBit k = true then _ else evS σ 0 k) = 0
      rw [if_neg (by rw [Nat.zero_testBit]; decide), ih]
  obtain ⟨τ', k1, k2, k3⟩ := key (2 ^ evN σ - 1) 1 (by omega) (by omega) (sI (sI (sI τ 110 0 0 0) 111 0 0 0) 112 0 0 0) hx0 (by
    rw [ii (by omega), ii (by omega), gs, ii (by omega), gs, gs]
    refine ⟨⟨0, by omega, cvP_0 σ 4, w0⟩, fun S s1 s2 => ?_, 0, 0, rfl, rfl, by omega, by omega, fun i => ?_, fun i => ?_⟩
    · have : S = 0 := by omega
      rw [this, w0]; exact Int.le_refl _
    · rw [Nat.zero_testBit]
      constructor
      · intro z; cases z
      · intro z
        have := z 0 (by omega) (cvP_0 σ 4) w0
        rw [e00, Nat.zero_testBit] at this
        exact this
    · rw [Nat.zero_testBit]
      constructor
      · intro z; cases z
      · rintro ⟨S, s1, s2, s3, s4⟩
        have : S = 0 := by omega
        rw [this, e00, Nat.zero_testBit] at s4
        exact s4)
  refine ⟨τ', ?_, k2, k3⟩
  unfold fX0_chooseBest fX0_chooseBest_j17 fX0_chooseBest_j47
  exact bnk_of k1 rfl
def SPl : List Nat := [107, 108, 109, 110, 111, 112, 1002]
theorem plan_c {σ τ : St} (hR : RR σ) (ha : Ag σ τ) : ∃ τ', fX0_plan τ = some ((), τ') ∧ Ex SPl τ τ' ∧ CBS σ (2 ^ evN σ) (gI τ' 110 0 0) (gI τ' 111 0 0) (gI τ' 112 0 0) := by
  have hC := hR.2.2.2.2.2.2.2.2.2.1
  obtain ⟨c1, c2, c3, c4, c5, c6⟩ := hC.ev
  have h256 : 2 ^ evN σ ≤ 2 ^ 8 := Nat.pow_le_pow_right (by omega) c3
  -- the next ones
  have key1 : ∀ m r, r + m = evN σ → ∀ τ1, Ex [107, 1002] τ τ1 → (∀ q, q < r → gI τ1 107 0 q = ((setN (nxB σ q) (evN σ) : Nat) : Int)) → ∃ τ', wh (fun s => fX0_plan_l2 s.1 s.2) (((r : Int), τ1)) = some τ' ∧ Ex [107, 1002] τ τ' ∧ T107 σ τ' := by
    intro m
    induction m with
    | zero =>
      intro r hr τ1 hx h7
      have : r = evN σ := by omega
      refine ⟨τ1, wh_inr ?_, hx, fun q hq => h7 q (by omega)⟩
      show fX0_plan_l2 (r : Int) τ1 = _
      unfold fX0_plan_l2
      rw [hx.i (c := 102) (by decide), ha.i (c := 102) (by decide), c1, if_pos (by omega)]
    | succ m ih =>
      intro r hr τ1 hx h7
      obtain ⟨b1, b2⟩ := c4 r (by omega)
      obtain ⟨e1, e2, e3, e4, e5, e6⟩ := c6 (evB σ r) b2
      have a1 := ha.trans (Ag.of hx (by decide))
      obtain ⟨τ2, r1, r2⟩ := reach_c hR a1 e4 e5
      obtain ⟨τ', k1, k2⟩ := ih (r + 1) (by omega) (sI τ2 107 0 r ((setN (nxB σ r) (evN σ) : Nat) : Int)) ((hx.trans (r2.mono (by decide))).sI (by decide)) (fun q hq => by
        by_cases z : q = r
        · rw [z, gs]
        · rw [ii (by omega), r2.i (c := 107) (by decide)]; exact h7 q (by omega))
      refine ⟨τ', wh_inl ?_ k1, k2⟩
      show fX0_plan_l2 (r : Int) τ1 = some (.inl (((r + 1 : Nat) : Int), sI τ2 107 0 r ((setN (nxB σ r) (evN σ) : Nat) : Int)))
      unfold fX0_plan_l2
      rw [a1.i (c := 102) (by decide), c1, if_neg (by omega), ck_x (by omega) (by omega), Int.toNat_natCast, a1.i (c := 106) (by decide), b1, ck_x (by omega) (by omega), ck_x (by omega) (by omega), Int.toNat_natCast, a1.i (c := 103) (by decide), a1.i (c := 104) (by decide), r1, bnd_some, ck_x (by omega) (by omega), ck_i (by omega) (by omega)]; rfl
  obtain ⟨τ1, p1, p2, p3⟩ := key1 (evN σ) 0 (by omega) τ Ex.rf (fun q hq => by omega)
  -- none done yet
  have key2 : ∀ m S, S + m = 256 → ∀ τ2, Ex [109] τ1 τ2 → (∀ e, e < S → gI τ2 109 0 e = if e = 0 then 1 else 0) → ∃ τ', wh (fun s => fX0_plan_l48 s.1 s.2) (((S : Int), τ2)) = some τ' ∧ Ex [109] τ1 τ' ∧ ∀ e, e < 256 → gI τ' 109 0 e = if e = 0 then 1 else 0 := by
    intro m
    induction m with
    | zero =>
      intro S hS τ2 hx h9
      refine ⟨τ2, wh_inr ?_, hx, fun e he => h9 e (by omega)⟩
      show fX0_plan_l48 (S : Int) τ2 = _
      unfold fX0_plan_l48
      rw [if_pos (by omega)]
    | succ m ih =>
      intro S hS τ2 hx h9
      obtain ⟨τ', k1, k2⟩ := ih (S + 1) (by omega) (sI τ2 109 0 S (if S = 0 then 1 else 0)) (hx.sI (by decide)) (fun e he => by
        by_cases q : e = S
        · rw [q, gs]
        · rw [ii (by omega)]; exact h9 e (by omega))
      refine ⟨τ', wh_inl ?_ k1, k2⟩
      show fX0_plan_l48 (S : Int) τ2 = some (.inl (((S + 1 : Nat) : Int), sI τ2 109 0 S (if S = 0 then 1 else 0)))
      unfold fX0_plan_l48 fX0_plan_j69
      by_cases q : S = 0
      · rw [if_neg (by omega), if_pos (by omega), if_pos q, ck_x (by omega) (by omega), ck_b (Or.inr rfl), ck_i (by omega) (by omega), Int.toNat_natCast]; rfl
      · rw [if_neg (by omega), if_neg (by omega), if_neg q, ck_x (by omega) (by omega), ck_b (Or.inl rfl), ck_i (by omega) (by omega), Int.toNat_natCast]; rfl
  obtain ⟨τ2, q1, q2, q3⟩ := key2 256 0 (by omega) τ1 Ex.rf (fun e he => by omega)
  have t9 : T109 σ τ2 0 := by
    intro S hS
    rw [q3 S (by omega)]
    by_cases z : S = 0
    · rw [if_pos z]; exact Or.inl ⟨rfl, z⟩
    · rw [if_neg z]; exact Or.inr ⟨rfl, z⟩
  have hx2 : Ex [107, 109, 1002] τ τ2 := (p2.mono (by decide)).trans (q2.mono (by decide))
  have t7 : T107 σ τ2 := fun r hr => by rw [q2.i (c := 107) (by decide)]; exact p3 r hr
  -- the men
  have key3 : ∀ i m, m + i = 4 → ∀ τ3, Ex [108, 109, 1002] τ2 τ3 → T109 σ τ3 m → ∃ τ', wh (fun s => fX0_plan_l78 s.1 s.2) (((m : Int), τ3)) = some τ' ∧ Ex [108, 109, 1002] τ2 τ' ∧ T109 σ τ' 4 := by
    intro i
    induction i with
    | zero =>
      intro m hm τ3 hx h9
      have : m = 4 := by omega
      subst this
      refine ⟨τ3, wh_inr ?_, hx, h9⟩
      show fX0_plan_l78 ((4 : Nat) : Int) τ3 = _
      unfold fX0_plan_l78
      rw [if_pos (by decide)]
    | succ i ih =>
      intro m hm τ3 hx h9
      obtain ⟨m1, m2, m3, m4⟩ := hC.1 m (by omega)
      have a3 := (ha.trans (Ag.of hx2 (by decide))).trans (Ag.of hx (by decide))
      by_cases c : gI σ 100 0 m = -9
      · obtain ⟨τ', k1, k2⟩ := ih (m + 1) (by omega) τ3 hx (fun S hS => (h9 S hS).c (cvP_none c).symm)
        refine ⟨τ', wh_inl ?_ k1, k2⟩
        show fX0_plan_l78 (m : Int) τ3 = some (.inl (((m + 1 : Nat) : Int), τ3))
        unfold fX0_plan_l78 fX0_plan_j115
        rw [if_neg (by omega), ck_x (by omega) (by omega), Int.toNat_natCast, a3.i (c := 100) (by decide), if_pos c, ck_i (by omega) (by omega)]; rfl
      · obtain ⟨τ4, r1, r2⟩ := reach_c (p := gI σ 100 0 m) (h := gI σ 101 0 m) hR a3 (by omega) m4
        have a4 := a3.trans (Ag.of r2 (by decide))
        obtain ⟨τ5, d1, d2, d3⟩ := addMan_c (τ := τ4) (m := m) hR a4 (fun r hr => by rw [r2.i (c := 107) (by decide), hx.i (c := 107) (by decide)]; exact t7 r hr) (fun S hS => by rw [r2.i (c := 109) (by decide)]; exact h9 S hS) c
        obtain ⟨τ', k1, k2⟩ := ih (m + 1) (by omega) τ5 ((hx.trans (r2.mono (by decide))).trans (d2.mono (by decide))) d3
        refine ⟨τ', wh_inl ?_ k1, k2⟩
        show fX0_plan_l78 (m : Int) τ3 = some (.inl (((m + 1 : Nat) : Int), τ5))
        unfold fX0_plan_l78 fX0_plan_j115
        rw [if_neg (by omega), ck_x (by omega) (by omega), Int.toNat_natCast, a3.i (c := 100) (by decide), if_neg c, ck_x (by omega) (by omega), ck_x (by omega) (by omega), a3.i (c := 101) (by decide), r1, bnd_some, d1, bnd_some, ck_i (by omega) (by omega)]; rfl
  obtain ⟨τ3, s1, s2, s3⟩ := key3 4 0 (by omega) τ2 Ex.rf t9
  have hx3 : Ex SPl τ τ3 := (hx2.mono (by decide)).trans (s2.mono (by decide))
  obtain ⟨τ4, u1, u2, u3⟩ := choose_c hR (ha.trans (Ag.of hx3 (by decide))) s3
  refine ⟨τ4, ?_, hx3.trans (u2.mono (by decide)), u3⟩
  unfold fX0_plan fX0_plan_j2 fX0_plan_j46 fX0_plan_j48 fX0_plan_j76 fX0_plan_j78 fX0_plan_j121
  refine bnk_of p1 (bnk_of q1 (bnk_of s1 ?_))
  rw [u1, bnd_some]
