/-! event: put among the events by its hour -/
def insB (n p : Nat) (B : Nat → Nat) (e : Nat) : Nat := if e = p then n else if p < e then B (e - 1) else B e
def insH (n : Nat) (x : Int) (H : Nat → Int) (y : Nat) : Int := if y = n then x else H y
theorem insH_n (n : Nat) (x : Int) (H : Nat → Int) : insH n x H n = x := if_pos rfl
theorem insH_o {n y : Nat} {x : Int} {H : Nat → Int} (h : y < n) : insH n x H y = H y := if_neg (by omega)
theorem ins_ok {n p : Nat} {B : Nat → Nat} {H : Nat → Int} {x : Int} (hp : p ≤ n) (hB : ∀ i, i < n → B i < n) (ho : ∀ i j, i < j → j < n → B i ≠ B j ∧ (H (B i) < H (B j) ∨ (H (B i) = H (B j) ∧ B i < B j))) (h1 : ∀ e, p ≤ e → e < n → x < H (B e)) (h2 : p = 0 ∨ H (B (p - 1)) ≤ x) : (∀ i, i < n + 1 → insB n p B i < n + 1) ∧ ∀ i j, i < j → j < n + 1 → insB n p B i ≠ insB n p B j ∧ (insH n x H (insB n p B i) < insH n x H (insB n p B j) ∨ (insH n x H (insB n p B i) = insH n x H (insB n p B j) ∧ insB n p B i < insB n p B j)) := by
  have b1 : ∀ e, e < p → insB n p B e = B e := fun e he => by unfold insB; rw [if_neg (by omega), if_neg (by omega)]
  have b2 : insB n p B p = n := by unfold insB; rw [if_pos rfl]
  have b3 : ∀ e, p < e → insB n p B e = B (e - 1) := fun e he => by unfold insB; rw [if_neg (by omega), if_pos he]
  constructor
  · intro i hi
    by_cases c : i < p
    · rw [b1 i c]; have := hB i (by omega); omega
    · by_cases c2 : i = p
      · rw [c2, b2]; omega
      · rw [b3 i (by omega)]; have := hB (i - 1) (by omega); omega
  · intro i j hij hj
    by_cases c : i < p
    · have u := hB i (by omega)
      rw [b1 i c, insH_o u]
      by_cases d : j < p
      · have u2 := hB j (by omega)
        rw [b1 j d, insH_o u2]
        exact ho i j hij (by omega)
      · by_cases d2 : j = p
        · rw [d2, b2, insH_n]
          have h3 : H (B (p - 1)) ≤ x := by rcases h2 with h | h; omega; exact h
          have h4 : H (B i) ≤ H (B (p - 1)) := by
            by_cases e : i = p - 1
            · rw [e]; exact Int.le_refl _
            · have := (ho i (p - 1) (by omega) (by omega)).2
              omega
          exact ⟨by omega, by omega⟩
        · have u2 := hB (j - 1) (by omega)
          rw [b3 j (by omega), insH_o u2]
          exact ho i (j - 1) (by omega) (by omega)
    · by_cases c2 : i = p
      · have u2 := hB (j - 1) (by omega)
        have h3 := h1 (j - 1) (by omega) (by omega)
        rw [c2, b2, insH_n, b3 j (by omega), insH_o u2]
        exact ⟨by omega, Or.inl h3⟩
      · have u := hB (i - 1) (by omega)
        have u2 := hB (j - 1) (by omega)
        rw [b3 i (by omega), insH_o u, b3 j (by omega), insH_o u2]
        exact ho (i - 1) (j - 1) (by omega) (by omega)
theorem ins_ex (n : Nat) (g : Nat → Int) (x : Int) : ∃ p, p ≤ n ∧ (∀ e, p ≤ e → e < n → x < g e) ∧ (p = 0 ∨ g (p - 1) ≤ x) := by
  induction n with
  | zero => exact ⟨0, Nat.le_refl _, fun e h1 h2 => by omega, Or.inl rfl⟩
  | succ n ih =>
    by_cases c : g n ≤ x
    · exact ⟨n + 1, Nat.le_refl _, fun e h1 h2 => by omega, Or.inr (by rw [Nat.add_sub_cancel]; exact c)⟩
    · obtain ⟨p, h1, h2, h3⟩ := ih
      refine ⟨p, by omega, fun e h4 h5 => ?_, h3⟩
      by_cases d : e = n
      · rw [d]; omega
      · exact h2 e h4 (by omega)
def shE (σ : St) (n : Nat) : Nat → St
  | 0 => σ
  | k + 1 => sI (shE σ n k) 106 0 (n - k) (gI (shE σ n k) 106 0 (n - k - 1))
theorem shE_p (σ : St) (n k : Nat) (hk : k ≤ n) : Ex [106] σ (shE σ n k) ∧ ∀ e, gI (shE σ n k) 106 0 e = if n - k < e ∧ e ≤ n then gI σ 106 0 (e - 1) else gI σ 106 0 e := by
  induction k with
  | zero => exact ⟨Ex.rf, fun e => by rw [if_neg (by omega)]; rfl⟩
  | succ k ih =>
    have ih := ih (by omega)
    refine ⟨ih.1.sI (by decide), fun e => ?_⟩
    show gI (sI (shE σ n k) 106 0 (n - k) (gI (shE σ n k) 106 0 (n - k - 1))) 106 0 e = _
    rw [gI_sI, ih.2 (n - k - 1), ih.2 e]
    by_cases c : e = n - k
    · rw [if_pos ⟨rfl, rfl, c⟩, if_neg (by omega), if_pos (by omega), c]
    · rw [if_neg (by omega)]
      by_cases c2 : n - k < e ∧ e ≤ n
      · rw [if_pos c2, if_pos (by omega)]
      · rw [if_neg c2, if_neg (by omega)]
theorem op_41 : OP41 RR := by
  intro a1 a2 a3 ha1 ha2 ha3 σ hSF hR
  obtain ⟨hT, hW, hS, hF, hY, hA, hL, hG, hE, hC, hH, hQ⟩ := id hR
  obtain ⟨k1, k2, k3, k4, k5, k6⟩ := id hC
  by_cases p1 : 0 ≤ a1 ∧ a1 ≤ 7
  · by_cases p2 : 0 ≤ a2 ∧ a2 ≤ 9999
    · by_cases p3 : 1 ≤ a3 ∧ a3 ≤ 999
      · obtain ⟨n, hn⟩ := Int.eq_ofNat_of_zero_le k3.1
        rw [hn] at k2 k3 k4 k5 k6
        by_cases c0 : n < 8
        · have hB0 : ∀ i, i < n → gI σ 106 0 i = (((gI σ 106 0 i).toNat : Nat) : Int) ∧ (gI σ 106 0 i).toNat < n := by
            intro i hi
            obtain ⟨x, h1, h2⟩ := k5 i (by omega)
            rw [h1, Int.toNat_natCast]
            exact ⟨rfl, by omega⟩
          obtain ⟨p, h1, h2, h3⟩ := ins_ex n (fun e => gI σ 104 0 (gI σ 106 0 e).toNat) a2
          have hx0 : Ex [103, 104, 105, 106] σ (sI (sI (sI σ 103 0 n a1) 104 0 n a2) 105 0 n a3) := ((Ex.rf.sI (by decide)).sI (by decide)).sI (by decide)
          have s106 : ∀ e, gI (sI (sI (sI σ 103 0 n a1) 104 0 n a2) 105 0 n a3) 106 0 e = gI σ 106 0 e := fun e => by rw [ii (by omega), ii (by omega), ii (by omega)]
          have s104 : ∀ e, gI (sI (sI (sI σ 103 0 n a1) 104 0 n a2) 105 0 n a3) 104 0 e = insH n a2 (fun y => gI σ 104 0 y) e := fun e => by
            unfold insH
            rw [ii (by omega)]
            by_cases c : e = n
            · rw [if_pos c, c, gs]
            · rw [if_neg c, ii (by omega), ii (by omega)]
          have s103 : ∀ e, gI (sI (sI (sI σ 103 0 n a1) 104 0 n a2) 105 0 n a3) 103 0 e = if e = n then a1 else gI σ 103 0 e := fun e => by
            rw [ii (by omega), ii (by omega)]
            by_cases c : e = n
            · rw [if_pos c, c, gs]
            · rw [if_neg c, ii (by omega)]
          have s105 : ∀ e, gI (sI (sI (sI σ 103 0 n a1) 104 0 n a2) 105 0 n a3) 105 0 e = if e = n then a3 else gI σ 105 0 e := fun e => by
            by_cases c : e = n
            · rw [if_pos c, c, gs]
            · rw [if_neg c, ii (by omega), ii (by omega), ii (by omega)]
          have s102 : gI (sI (sI (sI σ 103 0 n a1) 104 0 n a2) 105 0 n a3) 102 0 0 = (n : Int) := by rw [ii (by omega), ii (by omega), ii (by omega), hn]
          generalize hσ0 : sI (sI (sI σ 103 0 n a1) 104 0 n a2) 105 0 n a3 = σ0 at hx0 s102 s103 s104 s105 s106
          obtain ⟨y1, y2⟩ := shE_p σ0 n (n - p) (by omega)
          have hw : wh (fun s => fX0_insertByHour_l2 (n : Int) a2 s.1 s.2) (((n : Int), σ0)) = some ((p : Int), shE σ0 n (n - p)) := by
            have hw := wh_seq (f := fun s => fX0_insertByHour_l2 (n : Int) a2 s.1 s.2) (r := ((p : Int), shE σ0 n (n - p))) (n - p) (fun k => ((n : Int) - (k : Int), shE σ0 n k)) ?_ ?_
            · rw [show ((n : Int), σ0) = ((n : Int) - ((0 : Nat) : Int), shE σ0 n 0) from by rw [show ((n : Int) - ((0 : Nat) : Int)) = (n : Int) by omega]; rfl]
              exact hw
            · intro k hk
              obtain ⟨w1, w2⟩ := shE_p σ0 n k (by omega)
              obtain ⟨u1, u2⟩ := hB0 (n - k - 1) (by omega)
              have h4 := h2 (n - k - 1) (by omega) (by omega)
              have e1 : ((n : Int) - (k : Int) - 1).toNat = n - k - 1 := by omega
              have e2 : ((n : Int) - (k : Int)).toNat = n - k := by omega
              have e3 : gI (shE σ0 n k) 106 0 (n - k - 1) = gI σ 106 0 (n - k - 1) := by rw [w2, if_neg (by omega), s106]
              show fX0_insertByHour_l2 (n : Int) a2 ((n : Int) - (k : Int)) (shE σ0 n k) = some (.inl ((n : Int) - ((k + 1 : Nat) : Int), sI (shE σ0 n k) 106 0 (n - k) (gI (shE σ0 n k) 106 0 (n - k - 1))))
              unfold fX0_insertByHour_l2
              rw [if_neg (by omega), ck_i (by omega) (by omega), ck_x (by omega) (by omega), e1, e3, ck_x (by omega) (by omega), w1.i (c := 104) (by decide), s104, insH_o u2, if_neg (by omega), ck_i (by omega) (by omega), ck_x (by omega) (by omega), ck_x (by omega) (by omega), ck_i (by omega) (by omega), e2, show (n : Int) - (k : Int) + -1 = (n : Int) - ((k + 1 : Nat) : Int) by omega]
            · have e0 : (n : Int) - ((n - p : Nat) : Int) = (p : Int) := by omega
              show fX0_insertByHour_l2 (n : Int) a2 ((n : Int) - ((n - p : Nat) : Int)) (shE σ0 n (n - p)) = _
              rw [e0]
              unfold fX0_insertByHour_l2
              by_cases d : p = 0
              · rw [if_pos (by omega)]
              · obtain ⟨u1, u2⟩ := hB0 (p - 1) (by omega)
                have e1 : ((p : Int) - 1).toNat = p - 1 := by omega
                have e3 : gI (shE σ0 n (n - p)) 106 0 (p - 1) = gI σ 106 0 (p - 1) := by rw [y2, if_neg (by omega), s106]
                have h4 : gI σ 104 0 (gI σ 106 0 (p - 1)).toNat ≤ a2 := by rcases h3 with h | h; exact absurd h d; exact h
                rw [if_neg (by omega), ck_i (by omega) (by omega), ck_x (by omega) (by omega), e1, e3, ck_x (by omega) (by omega), y1.i (c := 104) (by decide), s104, insH_o u2, if_pos h4]
          have hx1 : Ex [102, 103, 104, 105, 106] σ (sI (sI (shE σ0 n (n - p)) 106 0 p (n : Int)) 102 0 0 ((n : Int) + 1)) := (((hx0.mono (by decide)).trans (y1.mono (by decide))).sI (by decide)).sI (by decide)
          refine opW (r := (n : Int) + 1 - 1) (σ1 := sI (sI (shE σ0 n (n - p)) 106 0 p (n : Int)) 102 0 0 ((n : Int) + 1)) (σ2 := sI (sI (sI (sI (sI (sI (shE σ0 n (n - p)) 106 0 p (n : Int)) 102 0 0 ((n : Int) + 1)) 1370 0 n a1) 1371 0 n a2) 1372 0 n a3) 1369 0 0 ((n : Int) + 1)) ?_ ?_ ?_
          · unfold fX11_event fX0_announce fX0_insertByHour fX0_insertByHour_j2 fX0_insertByHour_j43
            rw [c_isPlace_eq, bnkI, if_pos p1, c_isHour_eq, bnkI, if_pos p2, within_eq, bnkI, if_pos p3, hn, if_pos (by omega), ck_x (by omega) (by omega), ck_x (by omega) (by omega), ck_x (by omega) (by omega), Int.toNat_natCast, hσ0, hw, bnk_some, ck_x (by omega) (by omega), Int.toNat_natCast, bnd_some, ii (by omega), y1.i (c := 102) (by decide), s102, ck_i (by omega) (by omega), ck_i (by omega) (by omega), bnd_some]
          · generalize sI (sI (shE σ0 n (n - p)) 106 0 p (n : Int)) 102 0 0 ((n : Int) + 1) = σ1 at hx1
            have hz : gI σ1 1369 0 0 = (n : Int) := by rw [hx1.i (c := 1369) (by decide), k2]
            unfold fX12_event
            rw [m_isPlace_eq, bnkI, if_pos p1, m_isHour_eq, bnkI, if_pos p2, in_eq, bnkI, if_pos p3, hz, if_neg (by omega), ck_x (by omega) (by omega), ck_x (by omega) (by omega), ck_x (by omega) (by omega), ck_i (by omega) (by omega), ck_i (by omega) (by omega), Int.toNat_natCast]
          · have hx : Ex [102, 103, 104, 105, 106, 1369, 1370, 1371, 1372] σ (sI (sI (sI (sI (sI (sI (shE σ0 n (n - p)) 106 0 p (n : Int)) 102 0 0 ((n : Int) + 1)) 1370 0 n a1) 1371 0 n a2) 1372 0 n a3) 1369 0 0 ((n : Int) + 1)) := ((((hx1.mono (by decide)).sI (by decide)).sI (by decide)).sI (by decide)).sI (by decide)
            refine ⟨hT.ex hx (dj_use (by decide)), hW.ex hx (dj_use (by decide)), hS.ex hx (dj_use (by decide)), hF.ex hx (dj_use (by decide)), hY.ex hx (dj_use (by decide)), hA.ex hx (dj_use (by decide)), hL.ex hx (dj_use (by decide)), hG.ex hx (dj_use (by decide)), hE.ex hx (dj_use (by decide)), ?_, hH.ex hx (dj_use (by decide)), hQ.ex hx (dj_use (by decide))⟩
            obtain ⟨v1, v2⟩ := ins_ok (n := n) (p := p) (B := fun e => (gI σ 106 0 e).toNat) (H := fun y => gI σ 104 0 y) (x := a2) h1 (fun i hi => (hB0 i hi).2) (fun i j hij hj => by
              obtain ⟨m1, m2⟩ := k6 i j hij (by omega)
              obtain ⟨u1, u2⟩ := hB0 i (by omega)
              obtain ⟨u3, u4⟩ := hB0 j (by omega)
              exact ⟨by omega, by omega⟩) h2 h3
            have g106 : ∀ e, e < n + 1 → gI (sI (sI (sI (sI (sI (sI (shE σ0 n (n - p)) 106 0 p (n : Int)) 102 0 0 ((n : Int) + 1)) 1370 0 n a1) 1371 0 n a2) 1372 0 n a3) 1369 0 0 ((n : Int) + 1)) 106 0 e = ((insB n p (fun e => (gI σ 106 0 e).toNat) e : Nat) : Int) := by
              intro e he
              rw [ii (by omega), ii (by omega), ii (by omega), ii (by omega), ii (by omega), gI_sI, y2, s106, s106]
              unfold insB
              by_cases d : e = p
              · rw [if_pos ⟨rfl, rfl, d⟩, if_pos d]
              · rw [if_neg (by omega), if_neg d]
                by_cases d2 : p < e
                · rw [if_pos (by omega), if_pos d2]; exact (hB0 (e - 1) (by omega)).1
                · rw [if_neg (by omega), if_neg d2]; exact (hB0 e (by omega)).1
            have g104 : ∀ e, gI (sI (sI (sI (sI (sI (sI (shE σ0 n (n - p)) 106 0 p (n : Int)) 102 0 0 ((n : Int) + 1)) 1370 0 n a1) 1371 0 n a2) 1372 0 n a3) 1369 0 0 ((n : Int) + 1)) 104 0 e = insH n a2 (fun y => gI σ 104 0 y) e := fun e => by
              rw [ii (by omega), ii (by omega), ii (by omega), ii (by omega), ii (by omega), ii (by omega), y1.i (c := 104) (by decide), s104]
            have g103 : ∀ e, gI (sI (sI (sI (sI (sI (sI (shE σ0 n (n - p)) 106 0 p (n : Int)) 102 0 0 ((n : Int) + 1)) 1370 0 n a1) 1371 0 n a2) 1372 0 n a3) 1369 0 0 ((n : Int) + 1)) 103 0 e = if e = n then a1 else gI σ 103 0 e := fun e => by
              rw [ii (by omega), ii (by omega), ii (by omega), ii (by omega), ii (by omega), ii (by omega), y1.i (c := 103) (by decide), s103]
            have g105 : ∀ e, gI (sI (sI (sI (sI (sI (sI (shE σ0 n (n - p)) 106 0 p (n : Int)) 102 0 0 ((n : Int) + 1)) 1370 0 n a1) 1371 0 n a2) 1372 0 n a3) 1369 0 0 ((n : Int) + 1)) 105 0 e = if e = n then a3 else gI σ 105 0 e := fun e => by
              rw [ii (by omega), ii (by omega), ii (by omega), ii (by omega), ii (by omega), ii (by omega), y1.i (c := 105) (by decide), s105]
            have g102 : gI (sI (sI (sI (sI (sI (sI (shE σ0 n (n - p)) 106 0 p (n : Int)) 102 0 0 ((n : Int) + 1)) 1370 0 n a1) 1371 0 n a2) 1372 0 n a3) 1369 0 0 ((n : Int) + 1)) 102 0 0 = (n : Int) + 1 := by
              rw [ii (by omega), ii (by omega), ii (by omega), ii (by omega), gs]
            have g1369 : gI (sI (sI (sI (sI (sI (sI (shE σ0 n (n - p)) 106 0 p (n : Int)) 102 0 0 ((n : Int) + 1)) 1370 0 n a1) 1371 0 n a2) 1372 0 n a3) 1369 0 0 ((n : Int) + 1)) 1369 0 0 = (n : Int) + 1 := gs
            have g1370 : ∀ e, gI (sI (sI (sI (sI (sI (sI (shE σ0 n (n - p)) 106 0 p (n : Int)) 102 0 0 ((n : Int) + 1)) 1370 0 n a1) 1371 0 n a2) 1372 0 n a3) 1369 0 0 ((n : Int) + 1)) 1370 0 e = if e = n then a1 else gI σ 1370 0 e := fun e => by
              rw [ii (by omega), ii (by omega), ii (by omega)]
              by_cases d : e = n
              · rw [if_pos d, d, gs]
              · rw [if_neg d, ii (by omega), hx1.i (c := 1370) (by decide)]
            have g1371 : ∀ e, gI (sI (sI (sI (sI (sI (sI (shE σ0 n (n - p)) 106 0 p (n : Int)) 102 0 0 ((n : Int) + 1)) 1370 0 n a1) 1371 0 n a2) 1372 0 n a3) 1369 0 0 ((n : Int) + 1)) 1371 0 e = insH n a2 (fun y => gI σ 1371 0 y) e := fun e => by
              unfold insH
              rw [ii (by omega), ii (by omega)]
              by_cases d : e = n
              · rw [if_pos d, d, gs]
              · rw [if_neg d, ii (by omega), ii (by omega), hx1.i (c := 1371) (by decide)]
            have g1372 : ∀ e, gI (sI (sI (sI (sI (sI (sI (shE σ0 n (n - p)) 106 0 p (n : Int)) 102 0 0 ((n : Int) + 1)) 1370 0 n a1) 1371 0 n a2) 1372 0 n a3) 1369 0 0 ((n : Int) + 1)) 1372 0 e = if e = n then a3 else gI σ 1372 0 e := fun e => by
              rw [ii (by omega)]
              by_cases d : e = n
              · rw [if_pos d, d, gs]
              · rw [if_neg d, ii (by omega), ii (by omega), ii (by omega), hx1.i (c := 1372) (by decide)]
            have g100 := hx.i (c := 100) (by decide)
            have g101 := hx.i (c := 101) (by decide)
            have g1367 := hx.i (c := 1367) (by decide)
            have g1368 := hx.i (c := 1368) (by decide)
            generalize sI (sI (sI (sI (sI (sI (shE σ0 n (n - p)) 106 0 p (n : Int)) 102 0 0 ((n : Int) + 1)) 1370 0 n a1) 1371 0 n a2) 1372 0 n a3) 1369 0 0 ((n : Int) + 1) = σ2 at g100 g101 g1367 g1368 g102 g103 g104 g105 g106 g1369 g1370 g1371 g1372
            unfold RC
            simp only [g100, g101, g1367, g1368, g102, g103, g105, g1369, g1370, g1372]
            refine ⟨k1, trivial, by omega, fun i hi => ?_, fun i hi => ?_, fun i j hij hj => ?_⟩
            · rw [g1371, g104]
              by_cases d : i = n
              · rw [if_pos d, if_pos d, if_pos d, if_pos d, d, insH_n, insH_n]
                exact ⟨rfl, rfl, rfl, p1, p2, p3⟩
              · rw [if_neg d, if_neg d, if_neg d, if_neg d, insH_o (by omega), insH_o (by omega)]
                exact k4 i (by omega)
            · have := v1 i (by omega)
              exact ⟨insB n p (fun e => (gI σ 106 0 e).toNat) i, g106 i (by omega), by omega⟩
            · obtain ⟨m1, m2⟩ := v2 i j hij (by omega)
              rw [g106 i (by omega), g106 j (by omega), Int.toNat_natCast, Int.toNat_natCast, g104, g104]
              exact ⟨by omega, by omega⟩
        · refine opW (r := -4) (σ1 := σ) (σ2 := σ) ?_ ?_ hR
          · unfold fX11_event fX0_announce
            rw [c_isPlace_eq, bnkI, if_pos p1, c_isHour_eq, bnkI, if_pos p2, within_eq, bnkI, if_pos p3, hn, if_neg (by omega), bnd_some]
          · unfold fX12_event
            rw [m_isPlace_eq, bnkI, if_pos p1, m_isHour_eq, bnkI, if_pos p2, in_eq, bnkI, if_pos p3, k2, if_pos (by omega)]
      · refine opW (r := -2) (σ1 := σ) (σ2 := σ) ?_ ?_ hR
        · unfold fX11_event
          rw [c_isPlace_eq, bnkI, if_pos p1, c_isHour_eq, bnkI, if_pos p2, within_eq, bnkI, if_neg p3]
        · unfold fX12_event
          rw [m_isPlace_eq, bnkI, if_pos p1, m_isHour_eq, bnkI, if_pos p2, in_eq, bnkI, if_neg p3]
    · refine opW (r := -2) (σ1 := σ) (σ2 := σ) ?_ ?_ hR
      · unfold fX11_event
        rw [c_isPlace_eq, bnkI, if_pos p1, c_isHour_eq, bnkI, if_neg p2]
      · unfold fX12_event
        rw [m_isPlace_eq, bnkI, if_pos p1, m_isHour_eq, bnkI, if_neg p2]
  · refine opW (r := -1) (σ1 := σ) (σ2 := σ) ?_ ?_ hR
    · unfold fX11_event
      rw [c_isPlace_eq, bnkI, if_neg p1]
    · unfold fX12_event
      rw [m_isPlace_eq, bnkI, if_neg p1]
