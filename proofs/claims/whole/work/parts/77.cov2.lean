/-! men and events: the class -/
theorem reach_c {σ τ : St} {p h : Int} (hR : RR σ) (ha : Ag σ τ) (hp : 0 ≤ p ∧ p ≤ 7) (hh : 0 ≤ h ∧ h ≤ 9999) : ∃ τ', fX0_reachable p h τ = some (((setN (rchB σ p h) (evN σ) : Nat) : Int), τ') ∧ Ex [1002] τ τ' := by
  have hC := hR.2.2.2.2.2.2.2.2.2.1
  obtain ⟨c1, c2, c3, c4, c5, c6⟩ := hC.ev
  obtain ⟨p', rfl⟩ := Int.eq_ofNat_of_zero_le hp.1
  obtain ⟨τ1, t1, t2, t3⟩ := tr_c (ha.rr hR).2.1 (l := 1) (Or.inr rfl) (p := p') (h := h) (by omega) (by omega)
  have a1 := ha.trans (Ag.of t2 (by decide))
  have etv : ∀ v, tvD τ 1 p' h v = tvD σ 1 p' h v := by
    obtain ⟨S, d, e⟩ := ha
    intro v
    rw [tvD_ex e (dj_use (dj_sub d (sub_all (by decide))))]
  refine ⟨τ1, ?_, t2⟩
  unfold fX0_reachable fX0_reachable_j13 fX0_reachable_j64
  rw [t1, bnd_some]
  have hw := wh_seq (f := fun s => fX0_reachable_l13 τ1 s.1 s.2) (r := ((setN (rchB σ (p' : Int) h) (evN σ) : Nat) : Int)) (evN σ) (fun r => (((setN (rchB σ (p' : Int) h) r : Nat) : Int), (r : Int))) ?_ ?_
  · exact bnk_of hw rfl
  · intro r hr
    obtain ⟨b1, b2⟩ := c4 r hr
    obtain ⟨e1, e2, e3, e4, e5, e6⟩ := c6 (evB σ r) b2
    show fX0_reachable_l13 τ1 ((setN (rchB σ (p' : Int) h) r : Nat) : Int) (r : Int) = some (.inl (((setN (rchB σ (p' : Int) h) (r + 1) : Nat) : Int), ((r + 1 : Nat) : Int)))
    have hit : fX9_isThereBy (gI σ 103 0 (evB σ r)) (gI σ 104 0 (evB σ r)) τ1 = some (b2i (rchB σ (p' : Int) h r = true)) := by
      unfold fX9_isThereBy rchB
      rw [ck_x (by omega) (by omega), t3 _ (by omega), etv, Int.toNat_natCast]
      by_cases c : tvD σ 1 p' h (gI σ 103 0 (evB σ r)).toNat ≤ gI σ 104 0 (evB σ r)
      · rw [if_neg (by omega), b2i_pos (by simp [c])]
      · rw [if_pos (by omega), b2i_neg (by simp [c])]
    unfold fX0_reachable_l13
    rw [a1.i (c := 102) (by decide), c1, if_neg (by omega), ck_x (by omega) (by omega), Int.toNat_natCast, a1.i (c := 106) (by decide), b1, ck_x (by omega) (by omega), ck_x (by omega) (by omega), Int.toNat_natCast, a1.i (c := 103) (by decide), a1.i (c := 104) (by decide), hit, bnk_some, withS (by omega), bnk_some, ck_i (by omega) (by omega)]; rfl
  · show fX0_reachable_l13 τ1 _ (evN σ : Int) = _
    unfold fX0_reachable_l13
    rw [a1.i (c := 102) (by decide), c1, if_pos (Int.le_refl _)]
/-- what one man does -/
def T107 (σ τ : St) : Prop := ∀ r, r < evN σ → gI τ 107 0 r = ((setN (nxB σ r) (evN σ) : Nat) : Int)
theorem canDo_c {σ τ : St} {st : Nat → Bool} {S : Nat} (hR : RR σ) (h7 : T107 σ τ) (hS : S < 2 ^ evN σ) (h0 : 0 < S) (h8 : ∀ S', 0 < S' → S' < S → gI τ 108 0 S' = b2i (chB st (nxB σ) S' (evN σ) = true)) : fX0_canDo (S : Int) ((setN st (evN σ) : Nat) : Int) τ = some (b2i (chB st (nxB σ) S (evN σ) = true)) := by
  have hC := hR.2.2.2.2.2.2.2.2.2.1
  obtain ⟨c1, c2, c3, c4, c5, c6⟩ := hC.ev
  have h256 : 2 ^ evN σ ≤ 2 ^ 8 := Nat.pow_le_pow_right (by omega) c3
  have hhi : fX0_highest (S : Int) = some ((hb8 S : Nat) : Int) := hiC ⟨S, by omega⟩
  have hbit : S.testBit (hb8 S) = true := hb8_bit ⟨S, by omega⟩ (by show S ≠ 0; omega)
  have hh8 : hb8 S < 8 := hb8_lt ⟨S, by omega⟩
  have hhn : hb8 S < evN σ := by
    apply Classical.byContradiction
    intro c
    have : S.testBit (hb8 S) = false := Nat.testBit_lt_two_pow (Nat.lt_of_lt_of_le hS (Nat.pow_le_pow_right (by omega) (by omega)))
    rw [this] at hbit; cases hbit
  have htop : ∀ q, hb8 S < q → q < evN σ → S.testBit q = false := fun q h1 h2 => hb8_top ⟨S, by omega⟩ ⟨q, by omega⟩ h1
  obtain ⟨rest, r1, r2, r3⟩ := withM_eq (a := S) (k := hb8 S) (n := evN σ) 0 hS hhn (by omega)
  have hrest : ∀ i, rest.testBit i = (S.testBit i && decide (i ≠ hb8 S)) := by
    intro i
    rw [r3 i]
    by_cases q : i = hb8 S
    · simp [q]
    · simp [q]
  have hlast := chB_last (st := st) (nx := nxB σ) hhn hbit htop hrest
  have hsl := setN_lt st (evN σ)
  unfold fX0_canDo
  rw [hhi, bnk_some, r1, bnk_some]
  by_cases c : rest = 0
  · rw [if_pos (by omega), hasM_eq (by omega) (by omega), bnk_some]
    apply congrArg
    apply b2i_c
    rw [hlast, c, prd_none (hb8 S) (fun q _ => Nat.zero_testBit q), setN_bit]
    have : chB st (nxB σ) 0 (evN σ) = true := by
      unfold chB
      rw [allB_iff]
      intro i _
      unfold cndB
      rw [Nat.zero_testBit]; rfl
    rw [this]
    simp [hhn]
  · have hlt : rest < S := by
      have hle : rest ≤ S := by
        have : rest = rest &&& S := by
          apply Nat.eq_of_testBit_eq
          intro i
          rw [Nat.testBit_and, hrest i]
          cases S.testBit i <;> simp
        rw [this]; exact Nat.and_le_right
      have hne : rest ≠ S := by
        intro z
        have := hrest (hb8 S)
        rw [z, hbit] at this
        simp at this
      omega
    have hrb : rest.testBit (hb8 rest) = true := hb8_bit ⟨rest, by omega⟩ (by show rest ≠ 0; omega)
    have hrh : hb8 rest < hb8 S := by
      have h1 := hrest (hb8 rest)
      rw [hrb] at h1
      have h2 : S.testBit (hb8 rest) = true ∧ hb8 rest ≠ hb8 S := by
        have := h1.symm
        rw [Bool.and_eq_true, decide_eq_true_iff] at this
        exact this
      apply Classical.byContradiction
      intro z
      have h3 := hb8_lt ⟨rest, by omega⟩
      have h4 : S.testBit (hb8 rest) = false := hb8_top ⟨S, by omega⟩ ⟨hb8 rest, h3⟩ (by show hb8 S < hb8 rest; omega)
      rw [h4] at h2; cases h2.1
    have hprd : prd rest (hb8 S) = some (hb8 rest) := prd_hi hrb (hb8 S) hrh (fun q h1 h2 => hb8_top ⟨rest, by omega⟩ ⟨q, by omega⟩ h1)
    have hnl := setN_lt (nxB σ (hb8 rest)) (evN σ)
    rw [hprd] at hlast
    rw [if_neg (by omega), ck_x (by omega) (by omega), Int.toNat_natCast, h8 rest (by omega) hlt, show fX0_highest (rest : Int) = some ((hb8 rest : Nat) : Int) from hiC ⟨rest, by omega⟩, bnk_some, ck_x (by omega) (by omega), Int.toNat_natCast, h7 (hb8 rest) (by omega), hasM_eq (by omega) (by omega), bnkI]
    have hbn : (setN (nxB σ (hb8 rest)) (evN σ)).testBit (hb8 S) = nxB σ (hb8 rest) (hb8 S) := by
      rw [setN_bit]; simp [hhn]
    rw [hbn, hlast]
    by_cases d1 : chB st (nxB σ) rest (evN σ) = true
    · rw [if_neg (by rw [b2i_pos d1]; decide)]
      by_cases d2 : nxB σ (hb8 rest) (hb8 S) = true
      · rw [if_pos d2, b2i_pos (by simp [d1, d2])]
      · rw [if_neg d2, b2i_neg (by simp [d2])]
    · rw [if_pos (b2i_neg d1), b2i_neg (by simp [d1])]
/-- a man more -/
theorem addA_c {σ τ : St} {st : Nat → Bool} (hR : RR σ) (ha : Ag σ τ) (h7 : T107 σ τ) : ∃ τ', wh (fun s => fX0_addMan_l2 ((setN st (evN σ) : Nat) : Int) s.1 s.2) ((1, τ)) = some τ' ∧ Ex [108] τ τ' ∧ ∀ S, 0 < S → S < 2 ^ evN σ → gI τ' 108 0 S = b2i (chB st (nxB σ) S (evN σ) = true) := by
  have hC := hR.2.2.2.2.2.2.2.2.2.1
  obtain ⟨c1, c2, c3, c4, c5, c6⟩ := hC.ev
  have h256 : 2 ^ evN σ ≤ 2 ^ 8 := Nat.pow_le_pow_right (by omega) c3
  have hsh : ishl 1 (evN σ : Int) = ((2 ^ evN σ : Nat) : Int) := ishl_one ⟨evN σ, by omega⟩
  have key : ∀ m S, S + m = 2 ^ evN σ → 0 < S → ∀ τ1, Ex [108] τ τ1 → (∀ S', 0 < S' → S' < S → gI τ1 108 0 S' = b2i (chB st (nxB σ) S' (evN σ) = true)) → ∃ τ', wh (fun s => fX0_addMan_l2 ((setN st (evN σ) : Nat) : Int) s.1 s.2) (((S : Int), τ1)) = some τ' ∧ Ex [108] τ τ' ∧ ∀ S, 0 < S → S < 2 ^ evN σ → gI τ' 108 0 S = b2i (chB st (nxB σ) S (evN σ) = true) := by
    intro m
    induction m with
    | zero =>
      intro S hS h0 τ1 hx h8
      refine ⟨τ1, wh_inr ?_, hx, fun S' z1 z2 => h8 S' z1 (by omega)⟩
      show fX0_addMan_l2 _ (S : Int) τ1 = _
      unfold fX0_addMan_l2
      rw [hx.i (c := 102) (by decide), ha.i (c := 102) (by decide), c1, hsh, if_pos (by omega)]
    | succ m ih =>
      intro S hS h0 τ1 hx h8
      have hcd := canDo_c (st := st) hR (fun r hr => by rw [hx.i (c := 107) (by decide)]; exact h7 r hr) (by omega) h0 h8
      obtain ⟨τ', k1, k2⟩ := ih (S + 1) (by omega) (by omega) (sI τ1 108 0 S (b2i (chB st (nxB σ) S (evN σ) = true))) (hx.sI (by decide)) (fun S' z1 z2 => by
        by_cases q : S' = S
        · rw [q, gs]
        · rw [ii (by omega)]; exact h8 S' z1 (by omega))
      refine ⟨τ', wh_inl ?_ k1, k2⟩
      show fX0_addMan_l2 _ (S : Int) τ1 = some (.inl (((S + 1 : Nat) : Int), sI τ1 108 0 S (b2i (chB st (nxB σ) S (evN σ) = true))))
      unfold fX0_addMan_l2
      rw [hx.i (c := 102) (by decide), ha.i (c := 102) (by decide), c1, hsh, if_neg (by omega), hcd, bnk_some, ck_x (by omega) (by omega), ck_i (by omega) (by omega), Int.toNat_natCast]; rfl
  have h1 : 1 ≤ 2 ^ evN σ := Nat.one_le_two_pow
  exact key (2 ^ evN σ - 1) 1 (by omega) (by omega) τ Ex.rf (fun S' z1 z2 => by omega)
theorem addI_c {τ : St} {S : Nat} {Q : Nat → Prop} {one : Nat → Bool} (hS : S < 256) (h0 : 0 < S) (h8 : ∀ o, 0 < o → o ≤ S → gI τ 108 0 o = b2i (one o = true)) (h9 : ∀ o, o ≤ S → TF (gI τ 109 0 o) (Q o)) : ∃ τ', wh (fun s => fX0_addMan_l45 (S : Int) s.1 s.2) (((S : Int), τ)) = some τ' ∧ Ex [109] τ τ' ∧ (∀ e, e ≠ S → gI τ' 109 0 e = gI τ 109 0 e) ∧ TF (gI τ' 109 0 S) (Q S ∨ ∃ o, 0 < o ∧ o &&& S = o ∧ one o = true ∧ Q (S ^^^ o)) := by
  by_cases cq : gI τ 109 0 S = 0
  · -- none yet: all parts
    have key : ∀ M o, o < M → o &&& S = o → ∀ τ1, Ex [109] τ τ1 → (∀ e, e ≠ S → gI τ1 109 0 e = gI τ 109 0 e) → gI τ1 109 0 S = 0 → (∀ x, x &&& S = x → o < x → ¬ (one x = true ∧ Q (S ^^^ x))) → ∃ τ', wh (fun s => fX0_addMan_l45 (S : Int) s.1 s.2) (((o : Int), τ1)) = some τ' ∧ Ex [109] τ τ' ∧ (∀ e, e ≠ S → gI τ' 109 0 e = gI τ 109 0 e) ∧ TF (gI τ' 109 0 S) (Q S ∨ ∃ o, 0 < o ∧ o &&& S = o ∧ one o = true ∧ Q (S ^^^ o)) := by
      intro M
      induction M with
      | zero => intro o ho; omega
      | succ M ih =>
        intro o ho hos τ1 hx he hz hno
        have hoS : o ≤ S := by rw [← hos]; exact Nat.and_le_right
        by_cases c : o = 0
        · subst c
          refine ⟨τ1, wh_inr ?_, hx, he, Or.inr ⟨hz, ?_⟩⟩
          · show fX0_addMan_l45 (S : Int) ((0 : Nat) : Int) τ1 = _
            unfold fX0_addMan_l45
            rw [if_pos (by decide)]
          · rintro (z | ⟨x, x1, x2, x3, x4⟩)
            · exact ((h9 S (Nat.le_refl _)).z.mp cq) z
            · exact hno x x2 x1 ⟨x3, x4⟩
        · have hxo := xor_sub hos (by omega)
          have hand : ((o - 1) &&& S) ≤ o - 1 := Nat.and_le_left
          have hsub : ((o - 1) &&& S) &&& S = (o - 1) &&& S := by rw [Nat.and_assoc, Nat.and_self]
          have hxr : ixor (S : Int) (o : Int) = ((S ^^^ o : Nat) : Int) := ixor_nat (by omega) (by omega)
          have hnxt : iand ((o : Int) - 1) (S : Int) = (((o - 1) &&& S : Nat) : Int) := by
            rw [show (o : Int) - 1 = ((o - 1 : Nat) : Int) by omega]
            exact iand_nat (by omega) (by omega)
          have e108 : gI τ1 108 0 o = b2i (one o = true) := by rw [hx.i (c := 108) (by decide)]; exact h8 o (by omega) hoS
          have e109 : gI τ1 109 0 (S ^^^ o) = gI τ 109 0 (S ^^^ o) := he _ (by omega)
          have hQ := h9 (S ^^^ o) (by omega)
          have j88 : ∀ b : Int, (b = 0 ∨ b = 1) → fX0_addMan_j88 (S : Int) (o : Int) (S : Int) b τ1 = some (.inl ((((o - 1) &&& S : Nat) : Int), sI τ1 109 0 S b)) := by
            intro b hb
            unfold fX0_addMan_j88
            rw [ck_x (by omega) (by omega), ck_b hb, ck_i (by omega) (by omega), hnxt, Int.toNat_natCast]
          have l45 : fX0_addMan_l45 (S : Int) (o : Int) τ1 = (if gI τ1 108 0 o = 0 then (fX0_addMan_j88 (S : Int) (o : Int) (S : Int) 0 τ1) else (if gI τ1 109 0 (S ^^^ o) = 0 then (fX0_addMan_j88 (S : Int) (o : Int) (S : Int) 0 τ1) else (fX0_addMan_j88 (S : Int) (o : Int) (S : Int) 1 τ1))) := by
            unfold fX0_addMan_l45 fX0_addMan_j87
            rw [if_neg (by omega), ck_x (by omega) (by omega), Int.toNat_natCast, if_pos hz, ck_x (by omega) (by omega), Int.toNat_natCast, hxr, ck_x (by omega) (by omega), Int.toNat_natCast]
          by_cases d : one o = true ∧ Q (S ^^^ o)
          · have e1 : fX0_addMan_l45 (S : Int) (o : Int) τ1 = some (.inl ((((o - 1) &&& S : Nat) : Int), sI τ1 109 0 S 1)) := by
              rw [l45, e108, e109, if_neg (by rw [b2i_pos d.1]; decide), if_neg (fun z => (hQ.z.mp z) d.2), j88 1 (Or.inr rfl)]
            have e2 : wh (fun s => fX0_addMan_l45 (S : Int) s.1 s.2) ((((o - 1) &&& S : Nat) : Int), sI τ1 109 0 S 1) = some (sI τ1 109 0 S 1) := by
              apply wh_inr
              show fX0_addMan_l45 (S : Int) (((o - 1) &&& S : Nat) : Int) (sI τ1 109 0 S 1) = _
              unfold fX0_addMan_l45
              by_cases z : ((((o - 1) &&& S : Nat) : Int)) ≤ 0
              · rw [if_pos z]
              · rw [if_neg z, ck_x (by omega) (by omega), Int.toNat_natCast, gs, if_neg (by decide)]
            exact ⟨_, wh_inl e1 e2, hx.sI (by decide), fun e z => by rw [ii (by omega)]; exact he e z, by rw [gs]; exact Or.inl ⟨rfl, Or.inr ⟨o, by omega, hos, d.1, d.2⟩⟩⟩
          · have e1 : fX0_addMan_l45 (S : Int) (o : Int) τ1 = some (.inl ((((o - 1) &&& S : Nat) : Int), sI τ1 109 0 S 0)) := by
              rw [l45, e108, e109]
              by_cases d1 : one o = true
              · rw [if_neg (by rw [b2i_pos d1]; decide), if_pos (hQ.z.mpr (fun z => d ⟨d1, z⟩)), j88 0 (Or.inl rfl)]
              · rw [if_pos (b2i_neg d1), j88 0 (Or.inl rfl)]
            obtain ⟨τ', k1, k2⟩ := ih ((o - 1) &&& S) (by omega) hsub (sI τ1 109 0 S 0) (hx.sI (by decide)) (fun e z => by rw [ii (by omega)]; exact he e z) gs (fun x x1 x2 => by
              by_cases q : x = o
              · rw [q]; exact d
              · refine hno x x1 ?_
                apply Classical.byContradiction
                intro z
                have := sub_walk hS hos (by omega) x1 (by omega)
                omega)
            exact ⟨τ', wh_inl e1 k1, k2⟩
    exact key (S + 1) S (by omega) (Nat.and_self S) τ Ex.rf (fun e _ => rfl) cq (fun x x1 x2 => by
      have : x ≤ S := by rw [← x1]; exact Nat.and_le_right
      omega)
  · refine ⟨τ, wh_inr ?_, Ex.rf, fun e _ => rfl, ?_⟩
    · show fX0_addMan_l45 (S : Int) (S : Int) τ = _
      unfold fX0_addMan_l45
      rw [if_neg (by omega), ck_x (by omega) (by omega), Int.toNat_natCast, if_neg cq]
    · have h1 := h9 S (Nat.le_refl _)
      have h2 : Q S := Classical.byContradiction (fun z => cq (h1.z.mpr z))
      rcases h1 with z | z
      · exact Or.inl ⟨z.1, Or.inl h2⟩
      · exact absurd z.1 cq
