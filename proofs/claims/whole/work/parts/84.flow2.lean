/-! more and more: the model's flow -/
theorem xor_one : ∀ e : Fin 200, (e : Nat) ^^^ 1 = if (e : Nat) % 2 = 0 then (e : Nat) + 1 else (e : Nat) - 1 := by decide +kernel
def puR (R : Nat → Int) (e : Nat) : Nat → Int := up1 (up1 R e (R e - 1)) (e ^^^ 1) (R (e ^^^ 1) + 1)
def sF (U V : Nat → Nat) (K : Nat) (R φ : Nat → Int) : Int := sumN (fun k => R (2 * k + 1) * (φ (V (2 * k)) - φ (U (2 * k)))) K
def sP_ (P : Nat → Int) (K : Nat) (R : Nat → Int) : Int := sumN (fun k => R (2 * k + 1) * P (2 * k)) K
theorem push {U V : Nat → Nat} {P : Nat → Int} {K : Nat} {R : Nat → Int} (hG : GR U V P K) {e : Nat} (he : e < 2 * K) : (e ^^^ 1 < 2 * K ∧ e ^^^ 1 ≠ e ∧ U (e ^^^ 1) = V e ∧ V (e ^^^ 1) = U e ∧ P (e ^^^ 1) = - P e) ∧ (∀ k, k < K → puR R e (2 * k) + puR R e (2 * k + 1) = R (2 * k) + R (2 * k + 1)) ∧ (∀ φ, sF U V K (puR R e) φ = sF U V K R φ + (φ (V e) - φ (U e))) ∧ sP_ P K (puR R e) = sP_ P K R + P e := by
  obtain ⟨g1, g2, g3⟩ := hG
  have hx : e ^^^ 1 = if e % 2 = 0 then e + 1 else e - 1 := xor_one ⟨e, by omega⟩
  obtain ⟨k, hk, h2⟩ : ∃ k, k < K ∧ (e = 2 * k ∨ e = 2 * k + 1) := ⟨e / 2, by omega, by omega⟩
  obtain ⟨p1, p2, p3⟩ := g3 k hk
  rcases h2 with h2 | h2
  · subst h2
    rw [if_pos (by omega)] at hx
    have b1 : puR R (2 * k) (2 * k) = R (2 * k) - 1 := by
      unfold puR; rw [hx, up1_n (by omega), up1_s]
    have b2 : puR R (2 * k) (2 * k + 1) = R (2 * k + 1) + 1 := by
      unfold puR; rw [hx, up1_s]
    have b3 : ∀ x, x ≠ 2 * k → x ≠ 2 * k + 1 → puR R (2 * k) x = R x := fun x q1 q2 => by
      unfold puR; rw [hx, up1_n q2, up1_n q1]
    rw [hx]
    refine ⟨⟨by omega, by omega, p1, p2, p3⟩, fun j hj => ?_, fun φ => ?_, ?_⟩
    · by_cases c : j = k
      · rw [c, b1, b2]; omega
      · rw [b3 _ (by omega) (by omega), b3 _ (by omega) (by omega)]
    · unfold sF
      refine sumN_upd K hk ?_ (fun j _ hj => ?_)
      · rw [b2, Int.add_mul, Int.one_mul]
      · rw [b3 _ (by omega) (by omega)]
    · unfold sP_
      refine sumN_upd K hk ?_ (fun j _ hj => ?_)
      · rw [b2, Int.add_mul, Int.one_mul]
      · rw [b3 _ (by omega) (by omega)]
  · subst h2
    rw [if_neg (by omega), Nat.add_sub_cancel] at hx
    have b1 : puR R (2 * k + 1) (2 * k) = R (2 * k) + 1 := by
      unfold puR; rw [hx, up1_s]
    have b2 : puR R (2 * k + 1) (2 * k + 1) = R (2 * k + 1) - 1 := by
      unfold puR; rw [hx, up1_n (by omega), up1_s]
    have b3 : ∀ x, x ≠ 2 * k → x ≠ 2 * k + 1 → puR R (2 * k + 1) x = R x := fun x q1 q2 => by
      unfold puR; rw [hx, up1_n q1, up1_n q2]
    rw [hx]
    refine ⟨⟨by omega, by omega, p2.symm, p1.symm, by omega⟩, fun j hj => ?_, fun φ => ?_, ?_⟩
    · by_cases c : j = k
      · rw [c, b1, b2]; omega
      · rw [b3 _ (by omega) (by omega), b3 _ (by omega) (by omega)]
    · unfold sF
      refine sumN_upd K hk ?_ (fun j _ hj => ?_)
      · rw [b2, Int.sub_mul, Int.one_mul, p1, p2]; omega
      · rw [b3 _ (by omega) (by omega)]
    · unfold sP_
      refine sumN_upd K hk ?_ (fun j _ hj => ?_)
      · rw [b2, Int.sub_mul, Int.one_mul, p3]; omega
      · rw [b3 _ (by omega) (by omega)]
theorem walk_m {τ : St} {U V : Nat → Nat} {P : Nat → Int} {K : Nat} {R0 π F : Nat → Int} {C : Nat → Nat} {N : Nat → Prop} {x0 : Int} (hG : GR U V P K) (hN : NT τ U V P K) (hL : LK τ F C) (hF : FC U V P K R0 π F C) (hok : ∀ e, e < 2 * K → 0 < R0 e → F (U e) < 1000000 → F (V e) ≤ F (U e) + P e) (hNp : ∀ y, y < 19 → y ≠ 0 → F y < 1000000 → N y → N (U (C y))) : ∀ k x, x < 19 → F x < 1000000 → N x → Dp (fun y => U (C y)) k x → ∀ τ1 R, Ex [1387] τ τ1 → (∀ e, e < 2 * K → gI τ1 1387 0 e = R e ∧ 0 ≤ R e) → (∀ j, j < K → R (2 * j) + R (2 * j + 1) ≤ 100) → (∀ j y, j ≤ k → y < 19 → F y < 1000000 → y ≠ 0 → Dp (fun y => U (C y)) j y → 0 < R (C y)) → ∃ τ' R', wh (fun s => fX12_earnsMost_l174 x0 s.1 s.2) (((x : Int), τ1)) = some τ' ∧ Ex [1387] τ τ' ∧ (∀ e, e < 2 * K → gI τ' 1387 0 e = R' e ∧ 0 ≤ R' e) ∧ (∀ j, j < K → R' (2 * j) + R' (2 * j + 1) = R (2 * j) + R (2 * j + 1)) ∧ (∀ φ, sF U V K R' φ = sF U V K R φ + (φ x - φ 0)) ∧ sP_ P K R' = sP_ P K R + F x ∧ ∀ e, e < 2 * K → 0 < R' e → 0 < R e ∨ ∃ y, y < 19 ∧ N y ∧ N (U (C y)) ∧ U (C y) < 19 ∧ V e = U (C y) ∧ U e = y ∧ P e = F (U (C y)) - F y := by
  obtain ⟨g1, g2, g3⟩ := id hG
  obtain ⟨k0, hv⟩ := id hF
  intro k
  induction k with
  | zero =>
    intro x hx hfx hnx d τ1 R hE hR hcap hpos
    have d : x = 0 := d
    subst d
    refine ⟨τ1, R, wh_inr ?_, hE, hR, fun _ _ => rfl, fun φ => by omega, by omega, fun e he h => .inl h⟩
    show fX12_earnsMost_l174 x0 ((0 : Nat) : Int) τ1 = _
    unfold fX12_earnsMost_l174
    rw [if_pos (by decide)]
  | succ k ih =>
    intro x hx hfx hnx d τ1 R hE hR hcap hpos
    have d0 := d
    obtain ⟨d1, d2⟩ := d
    have d2 : Dp (fun y => U (C y)) k (U (C x)) := d2
    obtain ⟨c1, c2, c3⟩ := hv x hx
    obtain ⟨c4, c5, c6, c7, c8⟩ := (c3 hfx).2 d1
    have c9 := hok _ c4 c5 c7
    rw [c6] at c9
    have cc := (hL x hx).2 d1 hfx
    obtain ⟨⟨x1, x2, x3, x4, x5⟩, q1, q2, q3⟩ := push (R := R) hG c4
    have hp := hpos (k + 1) x (Nat.le_refl _) hx hfx d1 d0
    have hUlt := (g2 _ c4).1
    have hRe := hR _ c4
    have hRx := hR _ x1
    have hbnd : R (C x) ≤ 100 ∧ R (C x ^^^ 1) ≤ 100 := by
      have z : ∀ e, e < 2 * K → R e ≤ 100 := by
        intro e he
        have y1 := hcap (e / 2) (by omega)
        have y2 := (hR (2 * (e / 2)) (by omega)).2
        have y3 := (hR (2 * (e / 2) + 1) (by omega)).2
        rcases (by omega : e = 2 * (e / 2) ∨ e = 2 * (e / 2) + 1) with q | q
        · rw [q]; omega
        · rw [q]; omega
      exact ⟨z _ c4, z _ x1⟩
    have n1 := (hN.2 _ c4).1
    obtain ⟨τ', R', i1, i2, i3, i4, i5, i6, i7⟩ := ih (U (C x)) hUlt c7 (hNp x hx d1 hfx hnx) d2 (sI (sI τ1 1387 0 (C x) (R (C x) - 1)) 1387 0 (C x ^^^ 1) (R (C x ^^^ 1) + 1)) (puR R (C x)) ((hE.sI (by decide)).sI (by decide)) (fun e he => by
        unfold puR
        rw [gI_sI]
        by_cases z : e = C x ^^^ 1
        · rw [if_pos ⟨rfl, rfl, z⟩, z, up1_s]; exact ⟨rfl, by omega⟩
        · rw [if_neg (fun q => z q.2.2), up1_n z, gI_sI]
          by_cases z' : e = C x
          · rw [if_pos ⟨rfl, rfl, z'⟩, z', up1_s]; exact ⟨rfl, by omega⟩
          · rw [if_neg (fun q => z' q.2.2), up1_n z']; exact hR e he) (fun j hj => by rw [q1 j hj]; exact hcap j hj) (fun j y hj hy hfy hy0 dy => by
        have hne : y ≠ x := by
          intro z
          rw [z] at dy
          have := Dp_u _ _ _ dy d0
          omega
        have hp' := hpos j y (by omega) hy hfy hy0 dy
        obtain ⟨-, -, e3⟩ := hv y hy
        obtain ⟨e4, e5, e6, e7, e8⟩ := (e3 hfy).2 hy0
        have hcc : C y ≠ C x := by
          intro z
          rw [z, c6] at e6
          exact hne e6.symm
        unfold puR
        by_cases z : C y = C x ^^^ 1
        · rw [z, up1_s]; omega
        · rw [up1_n z, up1_n hcc]; exact hp')
    refine ⟨τ', R', wh_inl ?_ i1, i2, i3, fun j hj => by rw [i4 j hj]; exact q1 j hj, fun φ => ?_, ?_, fun e he h => ?_⟩
    · show fX12_earnsMost_l174 x0 (x : Int) τ1 = some (.inl (((U (C x) : Nat) : Int), sI (sI τ1 1387 0 (C x) (R (C x) - 1)) 1387 0 (C x ^^^ 1) (R (C x ^^^ 1) + 1)))
      have hxr : ixor (C x : Int) 1 = ((C x ^^^ 1 : Nat) : Int) := ixor_nat (b := 1) (by omega) (by omega)
      have hx2 : ∀ v, gI (sI τ1 1387 0 (C x) v) 1387 0 (C x ^^^ 1) = R (C x ^^^ 1) := fun v => by rw [ii (by omega)]; exact hRx.1
      unfold fX12_earnsMost_l174
      rw [if_neg (by omega), Int.toNat_natCast, hE.i (c := 1390) (by decide), cc, hxr, Int.toNat_natCast, Int.toNat_natCast, hE.i (c := 1385) (by decide), n1, hRe.1, hx2]
      have w1 : ∀ {α : Type} {k : Option α}, ck (0 ≤ (x : Int) ∧ (x : Int) < 19) k = k := ck_x (by omega) (by omega)
      have w2 : ∀ {α : Type} {k : Option α}, ck (0 ≤ (C x : Int) ∧ (C x : Int) < 200) k = k := ck_x (by omega) (by omega)
      have w3 : ∀ {α : Type} {k : Option α}, ck (0 ≤ ((C x ^^^ 1 : Nat) : Int) ∧ ((C x ^^^ 1 : Nat) : Int) < 200) k = k := ck_x (by omega) (by omega)
      rw [w1, w2, ck_i (by omega) (by omega), w2, w1, w3, ck_i (by omega) (by omega), w3, w1, w2]
    · rw [i5, q2, c6]; omega
    · rw [i6, q3]; omega
    · rcases i7 e he h with h1 | h1
      · unfold puR at h1
        by_cases z : e = C x ^^^ 1
        · refine .inr ⟨x, hx, hnx, hNp x hx d1 hfx hnx, hUlt, by rw [z, x4], by rw [z, x3, c6], by rw [z, x5]; omega⟩
        · rw [up1_n z] at h1
          by_cases z' : e = C x
          · rw [z', up1_s] at h1; rw [z']; exact .inl (by omega)
          · rw [up1_n z'] at h1; exact .inl h1
      · exact .inr h1
def FI (τ : St) (U V : Nat → Nat) (P : Nat → Int) (K : Nat) (cap : Nat → Int) (x0 : Int) (τ1 : St) (x1 : Int) (R : Nat → Int) : Prop := Ex [1387, 1389, 1390] τ τ1 ∧ (∀ e, e < 2 * K → gI τ1 1387 0 e = R e ∧ 0 ≤ R e) ∧ (∀ j, j < K → R (2 * j) + R (2 * j + 1) = cap j) ∧ (∃ val : Int, ∀ φ, sF U V K R φ = val * (φ 1 - φ 0)) ∧ sP_ P K R = x0 - x1
theorem sP_bd {U V : Nat → Nat} {P : Nat → Int} {K : Nat} {R cap : Nat → Int} (hG : GR U V P K) (hc : ∀ k, k < K → 0 ≤ cap k ∧ cap k ≤ 8) (hR : ∀ e, e < 2 * K → 0 ≤ R e) (hs : ∀ j, j < K → R (2 * j) + R (2 * j + 1) = cap j) : -7919208 ≤ sP_ P K R ∧ sP_ P K R ≤ 7919208 := by
  obtain ⟨g1, g2, g3⟩ := hG
  have hb := sumN_bd2 (g := fun k => R (2 * k + 1) * P (2 * k)) (lo := -79992) (hi := 79992) K (fun k hk => by
    have p := (g2 (2 * k) (by omega)).2.2
    have r1 := hR (2 * k) (by omega)
    have r2 := hR (2 * k + 1) (by omega)
    have r3 := hs k hk
    have r4 := hc k hk
    have r5 : R (2 * k + 1) ≤ 8 := by omega
    show -79992 ≤ R (2 * k + 1) * P (2 * k) ∧ R (2 * k + 1) * P (2 * k) ≤ 79992
    obtain ⟨r, hr⟩ := Int.eq_ofNat_of_zero_le r2
    rw [hr] at r5 ⊢
    have : r ≤ 8 := by omega
    rcases (by omega : r = 0 ∨ r = 1 ∨ r = 2 ∨ r = 3 ∨ r = 4 ∨ r = 5 ∨ r = 6 ∨ r = 7 ∨ r = 8) with q | q | q | q | q | q | q | q | q <;> (rw [q]; omega))
  unfold sP_
  omega
theorem flow_m {τ : St} {U V : Nat → Nat} {P : Nat → Int} {K : Nat} {cap : Nat → Int} {x0 : Int} (hG : GR U V P K) (hN : NT τ U V P K) (hc : ∀ k, k < K → 0 ≤ cap k ∧ cap k ≤ 8) (hx0 : 0 ≤ x0 ∧ x0 ≤ 1000000) : ∀ (i : Nat) τ1 x1 R π, x0 + 7919208 - x1 < (i : Int) → FI τ U V P K cap x0 τ1 x1 R → PV U V P K R π → π 0 = 0 → π 1 ≤ 0 → (∀ v, v < 19 → -9999 ≤ π v ∧ π v ≤ π 1 + 9999) → ∃ x' τ' R' π', wh (fun s => fX12_earnsMost_l165 s.1 s.2) ((x1, τ1)) = some (x', τ') ∧ FI τ U V P K cap x0 τ' x' R' ∧ PV U V P K R' π' ∧ π' 0 = 0 ∧ π' 1 = 0 := by
  obtain ⟨g1, g2, g3⟩ := id hG
  intro i
  induction i with
  | zero =>
    intro τ1 x1 R π hi hI hP h0 h1 hb
    obtain ⟨a1, a2, a3, a4, a5⟩ := hI
    have bd := sP_bd hG hc (fun e he => (a2 e he).2) a3
    omega
  | succ i ih =>
    intro τ1 x1 R π hi hI hP h0 h1 hb
    obtain ⟨a1, a2, a3, ⟨val, a4⟩, a5⟩ := id hI
    have bd := sP_bd hG hc (fun e he => (a2 e he).2) a3
    have hN1 := hN.ex a1 (by decide)
    obtain ⟨τ2, F, C, f1, f2, f3, f4, f5⟩ := far_m hG hN1 (fun e he => (a2 e he).1) hP h0 (fun v hv => by have := hb v hv; omega)
    obtain ⟨k0, hv⟩ := id f4
    obtain ⟨v1, v2, v3⟩ := hv 1 (by decide)
    have hN2 := hN1.ex f2 (by decide)
    have e2 : Ex [1387, 1389, 1390] τ τ2 := a1.trans (f2.mono (by decide))
    have hR2 : ∀ e, e < 2 * K → gI τ2 1387 0 e = R e ∧ 0 ≤ R e := fun e he => by rw [f2.i (c := 1387) (by decide)]; exact a2 e he
    have val' : ∀ c : Int, 0 ≤ c → (∀ v, v < 19 → π v + c ≤ 1000000) → PV U V P K R (fun v => min (F v) (π v + c)) := by
      intro c hc0 hcb e he hr
      have p1 := hP e he hr
      obtain ⟨u1, u2, -, -⟩ := g2 e he
      have p2 := hcb (U e) u1
      have p3 := f5 e he hr
      have p4 := (hv (U e) u1).2.1
      show min (F (V e)) (π (V e) + c) ≤ min (F (U e)) (π (U e) + c) + P e
      by_cases z : F (U e) < 1000000
      · have := p3 z
        omega
      · omega
    by_cases c : 0 ≤ F 1
    · rw [if_pos c] at f1
      refine ⟨x1, τ2, R, fun v => min (F v) (π v + (- π 1)), wh_inr ?_, ⟨e2, hR2, a3, ⟨val, a4⟩, a5⟩, val' _ (by omega) (fun v hv' => by have := hb v hv'; omega), ?_, ?_⟩
      · show fX12_earnsMost_l165 x1 τ1 = _
        unfold fX12_earnsMost_l165
        rw [f1, bnd_some, if_pos rfl]
      · show min (F 0) (π 0 + (- π 1)) = 0
        rw [k0, h0]; omega
      · show min (F 1) (π 1 + (- π 1)) = 0
        omega
    · rw [if_neg c] at f1
      have hcc : 0 ≤ F 1 - π 1 := by omega
      obtain ⟨kk, dk⟩ := (v3 (by omega)).1
      have hNp : ∀ y, y < 19 → y ≠ 0 → F y < 1000000 → F y ≤ π y + (F 1 - π 1) → F (U (C y)) ≤ π (U (C y)) + (F 1 - π 1) := by
        intro y hy hy0 hfy hn
        obtain ⟨-, -, e3⟩ := hv y hy
        obtain ⟨e4, e5, e6, e7, e8⟩ := (e3 hfy).2 hy0
        have := hP _ e4 e5
        rw [e6] at this
        omega
      obtain ⟨τ3, R3, w1, w2, w3, w4, w5, w6, w7⟩ := walk_m (x0 := x1) (N := fun y => F y ≤ π y + (F 1 - π 1)) hG hN2 f3 f4 f5 hNp kk 1 (by decide) (by omega) (by show F 1 ≤ π 1 + (F 1 - π 1); omega) dk τ2 R Ex.rf hR2 (fun j hj => by rw [a3 j hj]; have := hc j hj; omega) (fun j y _ hy hfy hy0 _ => by
        obtain ⟨-, -, e3⟩ := hv y hy
        exact ((e3 hfy).2 hy0).2.1)
      have hI3 : FI τ U V P K cap x0 τ3 (x1 - F 1) R3 := by
        refine ⟨e2.trans (w2.mono (by decide)), w3, fun j hj => by rw [w4 j hj]; exact a3 j hj, ⟨val + 1, fun φ => ?_⟩, by rw [w6, a5]; omega⟩
        rw [w5, a4, Int.add_mul, Int.one_mul]
      have bd3 := sP_bd hG hc (fun e he => (w3 e he).2) hI3.2.2.1
      have hs3 := hI3.2.2.2.2
      have hv0 := val' (F 1 - π 1) hcc (fun v hv' => by have := hb v hv'; omega)
      obtain ⟨x', τ', R', π', z1, z2, z3, z4, z5⟩ := ih τ3 (x1 - F 1) R3 (fun v => min (F v) (π v + (F 1 - π 1))) (by omega) hI3 (by
        intro e he hr
        rcases w7 e he hr with q | ⟨y, q1, q2, q3, q4, q5, q6, q7⟩
        · exact hv0 e he q
        · show min (F (V e)) (π (V e) + (F 1 - π 1)) ≤ min (F (U e)) (π (U e) + (F 1 - π 1)) + P e
          have q2 : F y ≤ π y + (F 1 - π 1) := q2
          have q3 : F (U (C y)) ≤ π (U (C y)) + (F 1 - π 1) := q3
          rw [q5, q6, q7]
          omega) (by show min (F 0) (π 0 + (F 1 - π 1)) = 0; rw [k0, h0]; omega) (by show min (F 1) (π 1 + (F 1 - π 1)) ≤ 0; omega) (fun v hv' => by
        have y1 := hb v hv'
        have y2 := (hv v hv').1
        show -9999 ≤ min (F v) (π v + (F 1 - π 1)) ∧ min (F v) (π v + (F 1 - π 1)) ≤ min (F 1) (π 1 + (F 1 - π 1)) + 9999
        omega)
      refine ⟨x', τ', R', π', wh_inl ?_ z1, z2, z3, z4, z5⟩
      show fX12_earnsMost_l165 x1 τ1 = some (.inl (x1 - F 1, τ3))
      unfold fX12_earnsMost_l165
      rw [f1, bnd_some, if_neg (by decide)]
      unfold fX12_earnsMost_j174
      refine bnk_of w1 ?_
      unfold fX12_earnsMost_j225
      rw [w2.i (c := 1389) (by decide), (f3 1 (by decide)).1, ck_i (by omega) (by omega)]
