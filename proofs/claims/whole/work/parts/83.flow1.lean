/-! ways of least price: the model's network, from node 0 -/
def GR (U V : Nat → Nat) (P : Nat → Int) (K : Nat) : Prop := K ≤ 99 ∧ (∀ e, e < 2 * K → U e < 19 ∧ V e < 19 ∧ -9999 ≤ P e ∧ P e ≤ 9999) ∧ ∀ k, k < K → U (2 * k + 1) = V (2 * k) ∧ V (2 * k + 1) = U (2 * k) ∧ P (2 * k + 1) = - P (2 * k)
def NT (τ : St) (U V : Nat → Nat) (P : Nat → Int) (K : Nat) : Prop := gI τ 1384 0 0 = ((2 * K : Nat) : Int) ∧ ∀ e, e < 2 * K → gI τ 1385 0 e = (U e : Int) ∧ gI τ 1386 0 e = (V e : Int) ∧ gI τ 1388 0 e = P e
theorem NT.ex {τ τ' : St} {U V : Nat → Nat} {P : Nat → Int} {K : Nat} {S : List Nat} (h : NT τ U V P K) (hx : Ex S τ τ') (hd : dj [1384, 1385, 1386, 1388] S = true) : NT τ' U V P K := by
  have du := dj_use hd
  refine ⟨by rw [hx.i (du 1384 (by decide))]; exact h.1, fun e he => ?_⟩
  rw [hx.i (du 1385 (by decide)), hx.i (du 1386 (by decide)), hx.i (du 1388 (by decide))]
  exact h.2 e he
/-- k steps back from v come to 0 -/
def Dp (p : Nat → Nat) : Nat → Nat → Prop
  | 0, v => v = 0
  | k + 1, v => v ≠ 0 ∧ Dp p k (p v)
theorem Dp_u {p : Nat → Nat} : ∀ j k v, Dp p j v → Dp p k v → j = k := by
  intro j
  induction j with
  | zero =>
    intro k v h1 h2
    cases k with
    | zero => rfl
    | succ k => exact absurd h1 h2.1
  | succ j ih =>
    intro k v h1 h2
    cases k with
    | zero => exact absurd h2 h1.1
    | succ k => rw [ih k (p v) h1.2 h2.2]
def PV (U V : Nat → Nat) (P : Nat → Int) (K : Nat) (R π : Nat → Int) : Prop := ∀ e, e < 2 * K → 0 < R e → π (V e) ≤ π (U e) + P e
def FC (U V : Nat → Nat) (P : Nat → Int) (K : Nat) (R π F : Nat → Int) (C : Nat → Nat) : Prop := F 0 = 0 ∧ ∀ v, v < 19 → π v ≤ F v ∧ F v ≤ 1000000 ∧ (F v < 1000000 → (∃ k, Dp (fun x => U (C x)) k v) ∧ (v ≠ 0 → C v < 2 * K ∧ 0 < R (C v) ∧ V (C v) = v ∧ F (U (C v)) < 1000000 ∧ F (U (C v)) + P (C v) ≤ F v))
def up1 {α : Type} (F : Nat → α) (v : Nat) (x : α) : Nat → α := fun y => if y = v then x else F y
theorem up1_s {α : Type} {F : Nat → α} {v : Nat} {x : α} : up1 F v x v = x := if_pos rfl
theorem up1_n {α : Type} {F : Nat → α} {v y : Nat} {x : α} (h : y ≠ v) : up1 F v x y = F y := if_neg h
theorem FC_relax {U V : Nat → Nat} {P : Nat → Int} {K : Nat} {R π F : Nat → Int} {C : Nat → Nat} (hG : GR U V P K) (hP : PV U V P K R π) (h0 : π 0 = 0) (h : FC U V P K R π F C) {e : Nat} (he : e < 2 * K) (hr : 0 < R e) (hu : F (U e) < 1000000) (hlt : F (U e) + P e < F (V e)) : FC U V P K R π (up1 F (V e) (F (U e) + P e)) (up1 C (V e) e) := by
  obtain ⟨k0, hv⟩ := h
  obtain ⟨g1, g2, g3⟩ := hG
  have uU := (g2 e he).1
  have uV := (g2 e he).2.1
  have pe := hP e he hr
  obtain ⟨a1, a2, a3⟩ := hv (U e) uU
  obtain ⟨b1, b2, b3⟩ := hv (V e) uV
  have q : F (U e) - π (U e) < F (V e) - π (V e) := by omega
  have vn : V e ≠ 0 := by
    intro c
    rw [c, h0, k0] at q
    omega
  have un : U e ≠ V e := by
    intro c
    rw [c] at q
    omega
  have stay : ∀ k y, y < 19 → F y < 1000000 → F y - π y < F (V e) - π (V e) → Dp (fun x => U (C x)) k y → Dp (fun x => U (up1 C (V e) e x)) k y := by
    intro k
    induction k with
    | zero => intro y _ _ _ d; exact d
    | succ k ih =>
      intro y hy hf hq d
      obtain ⟨d1, d2⟩ := d
      have d2 : Dp (fun x => U (C x)) k (U (C y)) := d2
      obtain ⟨c1, c2, c3⟩ := hv y hy
      obtain ⟨c4, c5, c6, c7, c8⟩ := (c3 hf).2 d1
      have c9 := hP _ c4 c5
      rw [c6] at c9
      have hne : y ≠ V e := by
        intro c
        rw [c] at hq
        omega
      refine ⟨d1, ?_⟩
      show Dp _ k (U (up1 C (V e) e y))
      rw [up1_n hne]
      exact ih _ (g2 _ c4).1 c7 (by omega) d2
  obtain ⟨ku, du⟩ := (a3 hu).1
  have du' := stay ku (U e) uU hu q du
  have dv' : Dp (fun x => U (up1 C (V e) e x)) (ku + 1) (V e) := by
    refine ⟨vn, ?_⟩
    show Dp _ ku (U (up1 C (V e) e (V e)))
    rw [up1_s]; exact du'
  have move : ∀ k y, y < 19 → F y < 1000000 → Dp (fun x => U (C x)) k y → ∃ k', Dp (fun x => U (up1 C (V e) e x)) k' y := by
    intro k
    induction k with
    | zero => intro y _ _ d; exact ⟨0, d⟩
    | succ k ih =>
      intro y hy hf d
      obtain ⟨d1, d2⟩ := d
      have d2 : Dp (fun x => U (C x)) k (U (C y)) := d2
      by_cases c : y = V e
      · rw [c]; exact ⟨ku + 1, dv'⟩
      · obtain ⟨c1, c2, c3⟩ := hv y hy
        obtain ⟨c4, c5, c6, c7, c8⟩ := (c3 hf).2 d1
        obtain ⟨k', d'⟩ := ih _ (g2 _ c4).1 c7 d2
        refine ⟨k' + 1, d1, ?_⟩
        show Dp _ k' (U (up1 C (V e) e y))
        rw [up1_n c]; exact d'
  refine ⟨by rw [up1_n (fun c => vn c.symm)]; exact k0, fun v hv' => ?_⟩
  by_cases c : v = V e
  · rw [c, up1_s]
    refine ⟨by omega, by omega, fun _ => ⟨⟨_, dv'⟩, fun _ => ?_⟩⟩
    rw [up1_s, up1_n un]
    exact ⟨he, hr, rfl, hu, Int.le_refl _⟩
  · obtain ⟨c1, c2, c3⟩ := hv v hv'
    rw [up1_n c]
    refine ⟨c1, c2, fun hf => ⟨?_, fun h0' => ?_⟩⟩
    · obtain ⟨k, d⟩ := (c3 hf).1
      exact move k v hv' hf d
    · obtain ⟨c4, c5, c6, c7, c8⟩ := (c3 hf).2 h0'
      rw [up1_n c]
      refine ⟨c4, c5, c6, ?_, ?_⟩
      · by_cases c' : U (C v) = V e
        · rw [c', up1_s]; rw [c'] at c7; omega
        · rw [up1_n c']; exact c7
      · by_cases c' : U (C v) = V e
        · rw [c', up1_s]; rw [c'] at c8; omega
        · rw [up1_n c']; exact c8
/-- the state holds F, C -/
def LK (τ : St) (F : Nat → Int) (C : Nat → Nat) : Prop := ∀ v, v < 19 → gI τ 1389 0 v = F v ∧ (v ≠ 0 → F v < 1000000 → gI τ 1390 0 v = (C v : Int))
theorem far_pass {τ : St} {U V : Nat → Nat} {P : Nat → Int} {K : Nat} {R π : Nat → Int} (hG : GR U V P K) (hN : NT τ U V P K) (hR : ∀ e, e < 2 * K → gI τ 1387 0 e = R e) (hP : PV U V P K R π) (h0 : π 0 = 0) (hb : ∀ v, v < 19 → -9999 ≤ π v) : ∀ i e, e + i = 2 * K → ∀ τ1 (x1 : Int) F C, Ex [1389, 1390] τ τ1 → LK τ1 F C → FC U V P K R π F C → ∃ τ' x1' F' C', wh (fun s => fX12_layFar_l41 s.1 s.2.1 s.2.2) ((x1, (e : Int), τ1)) = some (x1', τ') ∧ Ex [1389, 1390] τ τ' ∧ LK τ' F' C' ∧ FC U V P K R π F' C' ∧ ((x1' = x1 ∧ F' = F ∧ ∀ e', e ≤ e' → e' < 2 * K → 0 < R e' → F (U e') < 1000000 → F (V e') ≤ F (U e') + P e') ∨ (x1' = 1 ∧ sumN F' 19 + 1 ≤ sumN F 19)) := by
  obtain ⟨g1, g2, g3⟩ := id hG
  intro i
  induction i with
  | zero =>
    intro e he τ1 x1 F C hx hL hF
    refine ⟨τ1, x1, F, C, wh_inr ?_, hx, hL, hF, .inl ⟨rfl, rfl, fun e' h1 h2 => by omega⟩⟩
    show fX12_layFar_l41 x1 (e : Int) τ1 = _
    unfold fX12_layFar_l41
    rw [hx.i (c := 1384) (by decide), hN.1, if_pos (by omega)]
  | succ i ih =>
    intro e he τ1 x1 F C hx hL hF
    obtain ⟨u1, u2, u3, u4⟩ := g2 e (by omega)
    obtain ⟨n1, n2, n3⟩ := hN.2 e (by omega)
    obtain ⟨k0, hv⟩ := id hF
    obtain ⟨a1, a2, a3⟩ := hv (U e) u1
    obtain ⟨b1, b2, b3⟩ := hv (V e) u2
    have ba := hb (U e) u1
    have lU := (hL (U e) u1).1
    have lV := (hL (V e) u2).1
    have head : fX12_layFar_l41 x1 (e : Int) τ1 = if R e ≤ 0 then (fX12_layFar_j135 x1 (e : Int) τ1) else (if 1000000 ≤ F (U e) then (fX12_layFar_j135 x1 (e : Int) τ1) else (if F (V e) ≤ F (U e) + P e then (fX12_layFar_j135 x1 (e : Int) τ1) else fX12_layFar_j135 1 (e : Int) (sI (sI τ1 1389 0 (V e) (F (U e) + P e)) 1390 0 (V e) (e : Int)))) := by
      unfold fX12_layFar_l41
      rw [hx.i (c := 1384) (by decide), hN.1, if_neg (by omega), Int.toNat_natCast, hx.i (c := 1385) (by decide), hx.i (c := 1386) (by decide), hx.i (c := 1387) (by decide), hx.i (c := 1388) (by decide), n1, n2, n3, hR e (by omega), Int.toNat_natCast, Int.toNat_natCast, lU, lV]
      have w1 : ∀ {α : Type} {k : Option α}, ck (0 ≤ (e : Int) ∧ (e : Int) < 200) k = k := ck_x (by omega) (by omega)
      have w2 : ∀ {α : Type} {k : Option α}, ck (0 ≤ (U e : Int) ∧ (U e : Int) < 19) k = k := ck_x (by omega) (by omega)
      have w3 : ∀ {α : Type} {k : Option α}, ck (0 ≤ (V e : Int) ∧ (V e : Int) < 19) k = k := ck_x (by omega) (by omega)
      have w4 : ∀ {α : Type} {k : Option α}, ck (inr (F (U e) + P e)) k = k := ck_i (by omega) (by omega)
      simp only [w1, w2, w3, w4]
    have jmp : ∀ y τ2, fX12_layFar_j135 y (e : Int) τ2 = some (.inl (y, ((e + 1 : Nat) : Int), τ2)) := by
      intro y τ2
      unfold fX12_layFar_j135
      rw [ck_i (by omega) (by omega)]; rfl
    have skip : (0 < R e → F (U e) < 1000000 → F (V e) ≤ F (U e) + P e) → fX12_layFar_l41 x1 (e : Int) τ1 = some (.inl (x1, ((e + 1 : Nat) : Int), τ1)) → ∃ τ' x1' F' C', wh (fun s => fX12_layFar_l41 s.1 s.2.1 s.2.2) ((x1, (e : Int), τ1)) = some (x1', τ') ∧ Ex [1389, 1390] τ τ' ∧ LK τ' F' C' ∧ FC U V P K R π F' C' ∧ ((x1' = x1 ∧ F' = F ∧ ∀ e', e ≤ e' → e' < 2 * K → 0 < R e' → F (U e') < 1000000 → F (V e') ≤ F (U e') + P e') ∨ (x1' = 1 ∧ sumN F' 19 + 1 ≤ sumN F 19)) := by
      intro hok hst
      obtain ⟨τ', x1', F', C', i1, i2, i3, i4, i5⟩ := ih (e + 1) (by omega) τ1 x1 F C hx hL hF
      refine ⟨τ', x1', F', C', wh_inl hst i1, i2, i3, i4, ?_⟩
      rcases i5 with ⟨j1, j2, j3⟩ | j
      · refine .inl ⟨j1, j2, fun e' q1 q2 => ?_⟩
        by_cases c : e' = e
        · rw [c]; exact hok
        · exact j3 e' (by omega) q2
      · exact .inr j
    by_cases c1 : R e ≤ 0
    · exact skip (fun q => by omega) (by rw [head, if_pos c1, jmp])
    · by_cases c2 : 1000000 ≤ F (U e)
      · exact skip (fun _ q => by omega) (by rw [head, if_neg c1, if_pos c2, jmp])
      · by_cases c3 : F (V e) ≤ F (U e) + P e
        · exact skip (fun _ _ => c3) (by rw [head, if_neg c1, if_neg c2, if_pos c3, jmp])
        · have hF' := FC_relax hG hP h0 hF (e := e) (by omega) (by omega) (by omega) (by omega)
          have hs := sumN_upd (g := F) (g2 := up1 F (V e) (F (U e) + P e)) (x := F (U e) + P e - F (V e)) (m := V e) 19 u2 (by rw [up1_s]; omega) (fun y _ hy => up1_n hy)
          have hL' : LK (sI (sI τ1 1389 0 (V e) (F (U e) + P e)) 1390 0 (V e) (e : Int)) (up1 F (V e) (F (U e) + P e)) (up1 C (V e) e) := by
            intro v hv'
            rw [ii (by omega), gI_sI, gI_sI, ii (by omega)]
            by_cases c : v = V e
            · rw [if_pos ⟨rfl, rfl, c⟩, if_pos ⟨rfl, rfl, c⟩, c, up1_s, up1_s]
              exact ⟨rfl, fun _ _ => rfl⟩
            · rw [if_neg (fun q => c q.2.2), if_neg (fun q => c q.2.2), up1_n c, up1_n c]
              exact hL v hv'
          obtain ⟨τ', x1', F', C', i1, i2, i3, i4, i5⟩ := ih (e + 1) (by omega) _ 1 _ _ ((hx.sI (by decide)).sI (by decide)) hL' hF'
          refine ⟨τ', x1', F', C', wh_inl (by show fX12_layFar_l41 x1 (e : Int) τ1 = _; rw [head, if_neg c1, if_neg c2, if_neg c3, jmp]) i1, i2, i3, i4, .inr ?_⟩
          rcases i5 with ⟨j1, j2, j3⟩ | ⟨j1, j2⟩
          · rw [j2]; exact ⟨j1, by omega⟩
          · exact ⟨j1, by omega⟩
theorem far_m {τ : St} {U V : Nat → Nat} {P : Nat → Int} {K : Nat} {R π : Nat → Int} (hG : GR U V P K) (hN : NT τ U V P K) (hR : ∀ e, e < 2 * K → gI τ 1387 0 e = R e) (hP : PV U V P K R π) (h0 : π 0 = 0) (hb : ∀ v, v < 19 → -9999 ≤ π v ∧ π v ≤ 9999) : ∃ τ' F C, fX12_layFar τ = some ((if 0 ≤ F 1 then 0 else 1), τ') ∧ Ex [1389, 1390] τ τ' ∧ LK τ' F C ∧ FC U V P K R π F C ∧ ∀ e, e < 2 * K → 0 < R e → F (U e) < 1000000 → F (V e) ≤ F (U e) + P e := by
  have loop : ∀ (i : Nat) F C, sumN F 19 + 200000 ≤ (i : Int) → ∀ τ1, Ex [1389, 1390] τ τ1 → LK τ1 F C → FC U V P K R π F C → ∃ τ' F' C', wh (fun s => fX12_layFar_l33 s.1 s.2) (((1 : Int), τ1)) = some τ' ∧ Ex [1389, 1390] τ τ' ∧ LK τ' F' C' ∧ FC U V P K R π F' C' ∧ ∀ e, e < 2 * K → 0 < R e → F' (U e) < 1000000 → F' (V e) ≤ F' (U e) + P e := by
    intro i
    induction i with
    | zero =>
      intro F C hs τ1 hx hL hF
      have := (sumN_bd2 (g := F) (lo := -9999) (hi := 1000000) 19 (fun v hv => ⟨Int.le_trans (hb v hv).1 (hF.2 v hv).1, (hF.2 v hv).2.1⟩)).1
      omega
    | succ i ih =>
      intro F C hs τ1 hx hL hF
      obtain ⟨τ', x1', F', C', i1, i2, i3, i4, i5⟩ := far_pass hG hN hR hP h0 (fun v hv => (hb v hv).1) (2 * K) 0 (by omega) τ1 0 F C hx hL hF
      have st : fX12_layFar_l33 1 τ1 = some (.inl (x1', τ')) := by
        unfold fX12_layFar_l33 fX12_layFar_j41
        rw [if_neg (by decide)]
        exact bnk_of i1 rfl
      rcases i5 with ⟨j1, j2, j3⟩ | ⟨j1, j2⟩
      · refine ⟨τ', F', C', wh_inl st (wh_inr ?_), i2, i3, i4, fun e he => ?_⟩
        · show fX12_layFar_l33 x1' τ' = _
          unfold fX12_layFar_l33
          rw [if_pos j1]
        · rw [j2]; exact j3 e (by omega) he
      · obtain ⟨τ2, F2, C2, k1, k2⟩ := ih F' C' (by omega) τ' i2 i3 i4
        rw [j1] at st
        exact ⟨τ2, F2, C2, wh_inl st k1, k2⟩
  have ini : ∀ i v, v + i = 19 → ∀ τ1, Ex [1389, 1390] τ τ1 → (∀ x, x < v → gI τ1 1389 0 x = if x = 0 then 0 else 1000000) → ∃ τ', wh (fun s => fX12_layFar_l2 s.1 s.2) (((v : Int), τ1)) = some τ' ∧ Ex [1389, 1390] τ τ' ∧ ∀ x, x < 19 → gI τ' 1389 0 x = if x = 0 then 0 else 1000000 := by
    intro i
    induction i with
    | zero =>
      intro v hv τ1 hx hk
      have : v = 19 := by omega
      subst this
      exact ⟨τ1, wh_inr (by show fX12_layFar_l2 ((19 : Nat) : Int) τ1 = _; unfold fX12_layFar_l2; rw [if_pos (by decide)]), hx, hk⟩
    | succ i ih =>
      intro v hv τ1 hx hk
      obtain ⟨τ', k1, k2⟩ := ih (v + 1) (by omega) (sI τ1 1389 0 v (if v = 0 then 0 else 1000000)) (hx.sI (by decide)) (fun x hx' => by
        rw [gI_sI]
        by_cases c : x = v
        · rw [if_pos ⟨rfl, rfl, c⟩, c]
        · rw [if_neg (fun q => c q.2.2)]; exact hk x (by omega))
      refine ⟨τ', wh_inl ?_ k1, k2⟩
      show fX12_layFar_l2 (v : Int) τ1 = some (.inl (((v + 1 : Nat) : Int), sI τ1 1389 0 v (if v = 0 then 0 else 1000000)))
      unfold fX12_layFar_l2 fX12_layFar_j24
      rw [if_neg (by omega)]
      by_cases c : v = 0
      · rw [if_pos (by omega), if_pos c, ck_x (by omega) (by omega), ck_i (by omega) (by omega), Int.toNat_natCast]; rfl
      · rw [if_neg (by omega), if_neg c, ck_x (by omega) (by omega), ck_i (by omega) (by omega), Int.toNat_natCast]; rfl
  obtain ⟨τ1, i1, i2, i3⟩ := ini 19 0 (by omega) τ Ex.rf (fun x hx => by omega)
  have hF0 : FC U V P K R π (fun x => if x = 0 then 0 else 1000000) (fun _ => 0) := by
    refine ⟨rfl, fun v hv => ?_⟩
    have := hb v hv
    by_cases c : v = 0
    · subst c
      refine ⟨?_, ?_, fun _ => ⟨⟨0, rfl⟩, fun q => absurd rfl q⟩⟩
      · show π 0 ≤ 0; omega
      · show (0 : Int) ≤ 1000000; decide
    · show π v ≤ (if v = 0 then 0 else 1000000) ∧ (if v = 0 then (0 : Int) else 1000000) ≤ 1000000 ∧ ((if v = 0 then (0 : Int) else 1000000) < 1000000 → _)
      rw [if_neg c]
      exact ⟨by omega, by omega, fun q => by omega⟩
  have hL0 : LK τ1 (fun x => if x = 0 then 0 else 1000000) (fun _ => 0) := by
    intro v hv
    refine ⟨i3 v hv, fun c q => ?_⟩
    have q : (if v = 0 then (0 : Int) else 1000000) < 1000000 := q
    rw [if_neg c] at q; omega
  obtain ⟨τ', F, C, k1, k2, k3, k4, k5⟩ := loop (sumN (fun x => if x = 0 then (0 : Int) else 1000000) 19 + 200000).toNat _ _ (by
    have : sumN (fun x => if x = 0 then (0 : Int) else 1000000) 19 = 18000000 := by decide
    omega) τ1 i2 hL0 hF0
  refine ⟨τ', F, C, ?_, k2, k3, k4, k5⟩
  unfold fX12_layFar fX12_layFar_j2
  refine bnk_of i1 ?_
  unfold fX12_layFar_j31 fX12_layFar_j33
  refine bnk_of k1 ?_
  unfold fX12_layFar_j144
  rw [(k3 1 (by decide)).1]
  by_cases c : 0 ≤ F 1
  · rw [if_pos c, if_pos c]
  · rw [if_neg c, if_neg c]
