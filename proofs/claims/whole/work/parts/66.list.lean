/-! the stories listed, on both sides -/
def setN (P : Nat → Bool) : Nat → Nat
  | 0 => 0
  | n + 1 => if P n = true then setN P n ||| 2 ^ n else setN P n
theorem setN_lt (P : Nat → Bool) (n : Nat) : setN P n < 2 ^ n := by
  induction n with
  | zero => exact Nat.one_pos
  | succ n ih =>
    have h1 : 2 ^ n < 2 ^ (n + 1) := Nat.pow_lt_pow_right (by omega) (by omega)
    unfold setN
    split
    · exact Nat.or_lt_two_pow (by omega) h1
    · omega
theorem setN_bit (P : Nat → Bool) (n i : Nat) : (setN P n).testBit i = (decide (i < n) && P i) := by
  induction n with
  | zero => unfold setN; rw [Nat.zero_testBit]; simp
  | succ n ih =>
    unfold setN
    by_cases c : P n = true
    · rw [if_pos c, Nat.testBit_or, ih, Nat.testBit_two_pow]
      by_cases q : n = i
      · subst q; simp [c]
      · have : (i < n + 1) ↔ (i < n) := by omega
        simp [q, this]
    · rw [if_neg c, ih]
      by_cases q : n = i
      · subst q
        have : P n = false := by simpa using c
        simp [this]
      · have : (i < n + 1) ↔ (i < n) := by omega
        simp [this]
theorem withS {P : Nat → Bool} {k : Nat} (hk : k < 30) : fX11_withMember ((setN P k : Nat) : Int) (k : Int) (b2i (P k = true)) = some ((setN P (k + 1) : Nat) : Int) := by
  have h1 := setN_lt P k
  have h2 : 2 ^ k < 2 ^ (k + 1) := Nat.pow_lt_pow_right (by omega) (by omega)
  obtain ⟨v, e1, e2, e3⟩ := withM_eq (a := setN P k) (k := k) (n := k + 1) (b2i (P k = true)) (by omega) (by omega) (by omega)
  rw [e1]
  have : v = setN P (k + 1) := by
    apply Nat.eq_of_testBit_eq
    intro i
    rw [e3 i, setN_bit, setN_bit]
    by_cases q : i = k
    · subst q
      rw [if_pos rfl]
      by_cases c : P i = true
      · rw [b2i_pos c]; simp [c]
      · have : P i = false := by simpa using c
        rw [b2i_neg c]; simp [this]
    · rw [if_neg q]
      have : (i < k + 1) ↔ (i < k) := by omega
      simp [this]
  rw [this]
theorem inB_ag {σ τ : St} (h : AgM σ τ) : inB τ = inB σ := by
  funext i e
  unfold inB wv
  rw [rwS_ag h, h.i (c := 1200) (by decide), h.i (c := 807) (by decide), h.i (c := 808) (by decide), h.i (c := 809) (by decide), h.i (c := 810) (by decide)]
theorem rdyB_ag {σ τ : St} (h : AgM σ τ) : rdyB τ = rdyB σ := by
  funext i
  unfold rdyB
  rw [szS_ag h, inB_ag h]
def BV (σ : St) (l d : Int) (bv : Nat → Int) : Prop := ∀ i, i < gN σ 8 → (bv i = -9 ∨ (0 ≤ bv i ∧ bv i < 6)) ∧ (∀ σc, Ag σ σc → ∃ σc', fX11_firstBar i l d σc = some (bv i, σc') ∧ Ex (400 :: SCc) σc σc') ∧ (∀ τ, AgM σ τ → ∃ τ', fX12_barOf (i : Int) l d τ = some (bv i, τ') ∧ Ex (1347 :: SMm) τ τ')
theorem bv_ex {σ : St} {l d : Int} (hR : RR σ) (hd : 0 ≤ d ∧ d ≤ 416) : ∃ bv, BV σ l d bv := by
  have h : ∀ i : Nat, ∃ r : Int, i < gN σ 8 → (r = -9 ∨ (0 ≤ r ∧ r < 6)) ∧ (∀ σc, Ag σ σc → ∃ σc', fX11_firstBar i l d σc = some (r, σc') ∧ Ex (400 :: SCc) σc σc') ∧ (∀ τ, AgM σ τ → ∃ τ', fX12_barOf (i : Int) l d τ = some (r, τ') ∧ Ex (1347 :: SMm) τ τ') := by
    intro i
    by_cases c : i < gN σ 8
    · obtain ⟨r, h1⟩ := bar_ex (land := l) hR c hd
      exact ⟨r, fun _ => h1⟩
    · exact ⟨0, fun z => absurd z c⟩
  exact ⟨fun i => Classical.choose (h i), fun i hi => Classical.choose_spec (h i) hi⟩
def alB (σ : St) (l d : Int) (bv : Nat → Int) (i : Nat) : Bool := licB σ i l d && decide (bv i = -9)
def msB (σ : St) (l d : Int) (bv : Nat → Int) (i : Nat) : Bool := decide (¬ gI σ 907 i 0 = 0) && (rdyB σ i && alB σ l d bv i)
def wthV (σ : St) (i : Nat) : Int := if gI σ 1358 0 (gI σ 900 i 0).toNat = 0 then gI σ 903 i 0 else idiv (gI σ 903 i 0) 2
def LsC (σ : St) (l d : Int) (bv : Nat → Int) (τ : St) (k : Nat) : Prop := Ag σ τ ∧ gI τ 504 0 0 = (k : Int) ∧ gI τ 505 0 0 = ((setN (rdyB σ) k : Nat) : Int) ∧ gI τ 506 0 0 = ((setN (alB σ l d bv) k : Nat) : Int) ∧ gI τ 507 0 0 = ((setN (msB σ l d bv) k : Nat) : Int) ∧ ∀ i, i < k → gI τ 508 0 i = feetV σ i ∧ gI τ 509 0 i = wthV σ i
def SLc : List Nat := [400, 401, 402, 403, 404, 405, 406, 407, 408, 409, 504, 505, 506, 507, 508, 509]
def SLm : List Nat := [1342, 1343, 1344, 1345, 1346, 1347, 1359, 1360, 1361, 1362]
theorem list1_c {σ τ : St} {l d : Int} {bv : Nat → Int} {k : Nat} (hR : RR σ) (hk : k < gN σ 8) (h : LsC σ l d bv τ k) : ∃ τ', fX4_list k (b2i (rdyB σ k = true)) (b2i (alB σ l d bv k = true)) τ = some ((), τ') ∧ Ex SLc τ τ' ∧ LsC σ l d bv τ' (k + 1) := by
  obtain ⟨ha, h4, h5, h6, h7, h8⟩ := id h
  have hn := hR.2.2.2.2.1.2.2.1
  obtain ⟨y1, y2, y3, y4, y5, y6, y7, y8, z1, z2, z3, z4, -⟩ := hR.2.2.2.2.1.2.2.2.1 k hk
  obtain ⟨s, hs⟩ := Int.eq_ofNat_of_zero_le z1.1
  obtain ⟨g1, g2⟩ := hR.2.2.2.2.2.2.2.1.2.2.2.2.2.has (k := s) (by omega) (by omega)
  have tt : (s : Int).toNat = s := Int.toNat_natCast s
  have key : ∀ τ1, Ex [505, 506] τ τ1 → ∃ τ', fX4_list_j71 k ((setN (msB σ l d bv) k : Nat) : Int) (k : Int) (b2i (msB σ l d bv k = true)) τ1 = some ((), τ') ∧ Ex [504, 507, 508, 509] τ1 τ' ∧ gI τ' 504 0 0 = ((k + 1 : Nat) : Int) ∧ gI τ' 507 0 0 = ((setN (msB σ l d bv) (k + 1) : Nat) : Int) ∧ gI τ' 508 0 k = feetV σ k ∧ gI τ' 509 0 k = wthV σ k ∧ ∀ i, i ≠ k → gI τ' 508 0 i = gI τ 508 0 i ∧ gI τ' 509 0 i = gI τ 509 0 i := by
    intro τ1 hx1
    have a1 := ha.trans (Ag.of hx1 (by decide))
    have hx2 : Ex [507] τ1 (sI τ1 507 0 0 ((setN (msB σ l d bv) (k + 1) : Nat) : Int)) := Ex.rf.sI (by decide)
    have a2 := a1.trans (Ag.of hx2 (by decide))
    have f2 := feet_c (a2.rr hR).2.2.1 ((a2.rr hR).2.2.2.2.1.2.2.2.1 k (by rw [a2.n]; exact hk))
    rw [feetV_ag a2.m] at f2
    have u4 : gI τ1 504 0 0 = (k : Int) := by rw [hx1.i (c := 504) (by decide)]; exact h4
    have u3 : gI τ1 503 0 0 = gI σ 503 0 0 := a1.i (by decide) _ _
    have u900 : gI τ1 900 k 0 = (s : Int) := by rw [a1.i (c := 900) (by decide)]; exact hs
    have u903 : gI τ1 903 k 0 = gI σ 903 k 0 := a1.i (by decide) _ _
    have fin : ∀ w : Int, ∃ τ', fX4_list_j125 (k : Int) w (sI (sI τ1 507 0 0 ((setN (msB σ l d bv) (k + 1) : Nat) : Int)) 508 0 k (feetV σ k)) = some ((), τ') ∧ Ex [504, 507, 508, 509] τ1 τ' ∧ gI τ' 504 0 0 = ((k + 1 : Nat) : Int) ∧ gI τ' 507 0 0 = ((setN (msB σ l d bv) (k + 1) : Nat) : Int) ∧ gI τ' 508 0 k = feetV σ k ∧ gI τ' 509 0 k = w ∧ ∀ i, i ≠ k → gI τ' 508 0 i = gI τ 508 0 i ∧ gI τ' 509 0 i = gI τ 509 0 i := by
      intro w
      have v4 : gI (sI (sI τ1 507 0 0 ((setN (msB σ l d bv) (k + 1) : Nat) : Int)) 508 0 k (feetV σ k)) 504 0 0 = (k : Int) := by rw [ii (by omega), ii (by omega), u4]
      refine ⟨sI (sI (sI (sI τ1 507 0 0 ((setN (msB σ l d bv) (k + 1) : Nat) : Int)) 508 0 k (feetV σ k)) 509 0 k w) 504 0 0 ((k : Int) + 1), ?_, (((Ex.rf.sI (by decide)).sI (by decide)).sI (by decide)).sI (by decide), gs, ?_, ?_, ?_, fun i hi => ⟨?_, ?_⟩⟩
      · unfold fX4_list_j125
        rw [v4, ck_x (by omega) (by omega), ck_i (by omega) (by omega), Int.toNat_natCast]
      · rw [ii (by omega), ii (by omega), ii (by omega), gs]
      · rw [ii (by omega), ii (by omega), gs]
      · rw [ii (by omega), gs]
      · rw [ii (by omega), ii (by omega), ii (by omega), ii (by omega), hx1.i (c := 508) (by decide)]
      · rw [ii (by omega), ii (by omega), ii (by omega), ii (by omega), hx1.i (c := 509) (by decide)]
    obtain ⟨τ', f3, f4, f5, f6, f7, f8, f9⟩ := fin (wthV σ k)
    refine ⟨τ', ?_, f4, f5, f6, f7, f8, f9⟩
    unfold fX4_list_j71
    rw [ck_b b2i_b, withS (by omega), bnk_some, f2, bnk_some, u4, ck_x (by omega) (by omega), u3, u900, g1, bnk_some, u903, Int.toNat_natCast]
    unfold wthV at f3
    rw [hs, tt] at f3
    by_cases c : gI σ 1358 0 s = 0
    · rw [if_pos c] at f3 ⊢; exact f3
    · rw [if_neg c] at f3 ⊢; exact f3
  have hx1 : Ex [505, 506] τ (sI (sI τ 505 0 0 ((setN (rdyB σ) (k + 1) : Nat) : Int)) 506 0 0 ((setN (alB σ l d bv) (k + 1) : Nat) : Int)) := (Ex.rf.sI (by decide)).sI (by decide)
  obtain ⟨τ', k1, k2, k3, k4, k5, k6, k7⟩ := key _ hx1
  refine ⟨τ', ?_, (hx1.mono (by decide)).trans (k2.mono (by decide)), (ha.trans (Ag.of hx1 (by decide))).trans (Ag.of k2 (by decide)), k3, ?_, ?_, k4, fun i hi => ?_⟩
  · unfold fX4_list fX4_list_j70
    rw [h4, if_pos (by omega), h5, withS (by omega), bnk_some, h6, withS (by omega), bnk_some, h7, ha.i (c := 907) (by decide)]
    unfold msB at k1
    by_cases c1 : gI σ 907 k 0 = 0
    · rw [if_pos c1]
      rw [show b2i ((decide (¬ gI σ 907 k 0 = 0) && (rdyB σ k && alB σ l d bv k)) = true) = 0 from b2i_neg (by simp [c1])] at k1
      exact k1
    · rw [if_neg c1]
      by_cases c2 : rdyB σ k = true
      · rw [if_neg (by rw [b2i_pos c2]; decide)]
        by_cases c3 : alB σ l d bv k = true
        · rw [if_neg (by rw [b2i_pos c3]; decide)]
          rw [show b2i ((decide (¬ gI σ 907 k 0 = 0) && (rdyB σ k && alB σ l d bv k)) = true) = 1 from b2i_pos (by simp [c1, c2, c3])] at k1
          exact k1
        · rw [if_pos (b2i_neg c3)]
          rw [show b2i ((decide (¬ gI σ 907 k 0 = 0) && (rdyB σ k && alB σ l d bv k)) = true) = 0 from b2i_neg (by simp [c3])] at k1
          exact k1
      · rw [if_pos (b2i_neg c2)]
        rw [show b2i ((decide (¬ gI σ 907 k 0 = 0) && (rdyB σ k && alB σ l d bv k)) = true) = 0 from b2i_neg (by simp [c2])] at k1
        exact k1
  · rw [k2.i (c := 505) (by decide), ii (by omega), gs]
  · rw [k2.i (c := 506) (by decide), gs]
  · by_cases q : i = k
    · rw [q]; exact ⟨k5, k6⟩
    · rw [(k7 i q).1, (k7 i q).2]; exact h8 i (by omega)
theorem list_c {σ τ : St} {l d : Int} {bv : Nat → Int} (hR : RR σ) (hl : 0 ≤ l ∧ l ≤ 4) (hb : BV σ l d bv) (ha : Ag σ τ) : ∃ τ', fX11_listStories l d τ = some ((), τ') ∧ Ex SLc τ τ' ∧ LsC σ l d bv τ' (gN σ 8) := by
  have hn := hR.2.2.2.2.1.2.2.1
  have key : ∀ m k, k + m = gN σ 8 → ∀ τ, LsC σ l d bv τ k → ∃ τ', wh (fun s => fX11_listStories_l9 l d s.1 s.2) ((k : Int), τ) = some τ' ∧ Ex SLc τ τ' ∧ LsC σ l d bv τ' (gN σ 8) := by
    intro m
    induction m with
    | zero =>
      intro k hk τ h
      have hk2 : k = gN σ 8 := by omega
      subst hk2
      refine ⟨τ, wh_inr ?_, Ex.rf, h⟩
      show fX11_listStories_l9 l d (gN σ 8 : Int) τ = _
      unfold fX11_listStories_l9
      rw [h.1.i (c := 1206) (by decide), hR.2.2.2.2.1.2.1, if_pos (Int.le_refl _)]
    | succ m ih =>
      intro k hk τ h
      have hk8 : k < gN σ 8 := by omega
      have ha := h.1
      have hp : gP τ 1205 0 k = some k := by rw [ha.p (c := 1205) (by decide)]; exact (hR.2.2.2.2.1.2.2.2.1 k hk8).1
      have hy := (ha.rr hR).2.2.2.2.1.2.2.2.1 k (by rw [ha.n]; exact hk8)
      have e1 := lic_c (d := d) (ha.rr hR).2.2.2.2.2.2.2.1 hy hl
      have e2 := rdy_c hy
      rw [licB_ag ha] at e1
      rw [rdyB_ag ha.m] at e2
      -- the bar, where it is asked
      have ask : ∃ τ1, Ex (400 :: SCc) τ τ1 ∧ fX11_listStories_l9 l d (k : Int) τ = fX11_listStories_j76 l d (k : Int) (some k) (b2i (rdyB σ k = true)) (b2i (alB σ l d bv k = true)) τ1 := by
        by_cases c : licB σ k l d = true
        · obtain ⟨τ1, b1, b2⟩ := (hb k hk8).2.1 τ ha
          refine ⟨τ1, b2, ?_⟩
          unfold fX11_listStories_l9 fX11_listStories_j75
          rw [ha.i (c := 1206) (by decide), hR.2.2.2.2.1.2.1, if_neg (by omega), ck_x (by omega) (by omega), lt_def, Int.toNat_natCast, hp, mop_s, ck_n (by rw [ha.n]; exact hk8), e1, bnk_some, e2, bnk_some, if_neg (by rw [b2i_pos c]; decide), b1, bnd_some]
          by_cases c2 : bv k = -9
          · rw [if_pos c2, show b2i (alB σ l d bv k = true) = 1 from b2i_pos (by unfold alB; simp [c, c2])]
          · rw [if_neg c2, show b2i (alB σ l d bv k = true) = 0 from b2i_neg (by unfold alB; simp [c2])]
        · refine ⟨τ, Ex.rf, ?_⟩
          unfold fX11_listStories_l9 fX11_listStories_j75
          rw [ha.i (c := 1206) (by decide), hR.2.2.2.2.1.2.1, if_neg (by omega), ck_x (by omega) (by omega), lt_def, Int.toNat_natCast, hp, mop_s, ck_n (by rw [ha.n]; exact hk8), e1, bnk_some, e2, bnk_some, if_pos (b2i_neg c), show b2i (alB σ l d bv k = true) = 0 from b2i_neg (by unfold alB; simp [c])]
      obtain ⟨τ1, x1, x2⟩ := ask
      have h1 : LsC σ l d bv τ1 k := by
        obtain ⟨q1, q2, q3, q4, q5, q6⟩ := h
        refine ⟨q1.trans (Ag.of x1 (by decide)), by rw [x1.i (c := 504) (by decide)]; exact q2, by rw [x1.i (c := 505) (by decide)]; exact q3, by rw [x1.i (c := 506) (by decide)]; exact q4, by rw [x1.i (c := 507) (by decide)]; exact q5, fun i hi => ?_⟩
        rw [x1.i (c := 508) (by decide), x1.i (c := 509) (by decide)]; exact q6 i hi
      obtain ⟨τ2, l1, l2, l3⟩ := list1_c hR hk8 h1
      obtain ⟨τ', g1, g2, g3⟩ := ih (k + 1) (by omega) τ2 l3
      refine ⟨τ', ?_, ((x1.mono (by decide)).trans l2).trans g2, g3⟩
      refine wh_inl ?_ g1
      show fX11_listStories_l9 l d (k : Int) τ = some (.inl (((k + 1 : Nat) : Int), τ2))
      rw [x2]
      unfold fX11_listStories_j76
      rw [mop_s, ck_n (by rw [h1.1.n]; exact hk8), ck_b b2i_b, ck_b b2i_b, l1, bnd_some, ck_i (by omega) (by omega)]; rfl
  have hx0 : Ex [504, 505, 506, 507] τ (sI (sI (sI (sI τ 504 0 0 0) 505 0 0 0) 506 0 0 0) 507 0 0 0) := (((Ex.rf.sI (by decide)).sI (by decide)).sI (by decide)).sI (by decide)
  obtain ⟨τ', g1, g2, g3⟩ := key (gN σ 8) 0 (by omega) (sI (sI (sI (sI τ 504 0 0 0) 505 0 0 0) 506 0 0 0) 507 0 0 0) ⟨ha.trans (Ag.of hx0 (by decide)), by rw [ii (by omega), ii (by omega), ii (by omega), gs]; rfl, by rw [ii (by omega), ii (by omega), gs]; rfl, by rw [ii (by omega), gs]; rfl, by rw [gs]; rfl, fun i hi => by omega⟩
  refine ⟨τ', ?_, (hx0.mono (by decide)).trans g2, g3⟩
  unfold fX11_listStories fX4_clearList fX11_listStories_j9 fX11_listStories_j85
  rw [bnd_some]
  exact bnk_of g1 rfl
/-- the model's list -/
def mayB (σ : St) (l d : Int) (bv : Nat → Int) (i : Nat) : Bool := rdyB σ i && alB σ l d bv i
def LsM (σ : St) (l d : Int) (bv : Nat → Int) (τ : St) (k : Nat) : Prop := AgM σ τ ∧ gI τ 1362 0 0 = ((setN (msB σ l d bv) k : Nat) : Int) ∧ ∀ i, i < k → gI τ 1359 0 i = b2i (mayB σ l d bv i = true) ∧ gI τ 1360 0 i = feetV σ i ∧ gI τ 1361 0 i = wthV σ i
theorem ior_s {P : Nat → Bool} {k : Nat} (hk : k < 30) : ior ((setN P k : Nat) : Int) (if P k = true then ishl 1 (k : Int) else 0) = ((setN P (k + 1) : Nat) : Int) := by
  have h1 := setN_lt P k
  have h2 : 2 ^ k ≤ 2 ^ 30 := Nat.pow_le_pow_right (by omega) (by omega)
  show _ = (((if P k = true then setN P k ||| 2 ^ k else setN P k : Nat)) : Int)
  by_cases c : P k = true
  · rw [if_pos c, if_pos c, show ishl 1 (k : Int) = ((2 ^ k : Nat) : Int) from ishl_one ⟨k, by omega⟩, ior_nat (by omega) (by omega)]
  · rw [if_neg c, if_neg c, show (0 : Int) = ((0 : Nat) : Int) from rfl, ior_nat (by omega) (by omega), Nat.or_zero]
theorem may_m {σ τ : St} {l d : Int} {bv : Nat → Int} (hR : RR σ) (hl : 0 ≤ l ∧ l ≤ 4) (hb : BV σ l d bv) (ha : AgM σ τ) : ∃ τ', fX12_layMay l d τ = some ((), τ') ∧ Ex SLm τ τ' ∧ LsM σ l d bv τ' (gN σ 8) := by
  have hn := hR.2.2.2.2.1.2.2.1
  have key : ∀ m k, k + m = gN σ 8 → ∀ τ, LsM σ l d bv τ k → ∃ τ', wh (fun s => fX12_layMay_l7 l d s.1 s.2) ((k : Int), τ) = some τ' ∧ Ex SLm τ τ' ∧ LsM σ l d bv τ' (gN σ 8) := by
    intro m
    induction m with
    | zero =>
      intro k hk τ h
      have hk2 : k = gN σ 8 := by omega
      subst hk2
      refine ⟨τ, wh_inr ?_, Ex.rf, h⟩
      show fX12_layMay_l7 l d (gN σ 8 : Int) τ = _
      unfold fX12_layMay_l7
      rw [h.1.i (c := 1326) (by decide), hR.2.2.2.2.1.1, if_pos (Int.le_refl _)]
    | succ m ih =>
      intro k hk τ h
      have hk8 : k < gN σ 8 := by omega
      have ha := h.1
      have hy := (ha.rr hR).2.2.2.2.1.2.2.2.1 k (by rw [ha.n]; exact hk8)
      have e2 := rdy_m (ha.rr hR).1 (ha.rr hR).2.2.1 hy (by omega)
      rw [rdyB_ag ha] at e2
      have ask : ∃ τ1, Ex (1347 :: SMm) τ τ1 ∧ fX12_layMay_l7 l d (k : Int) τ = fX12_layMay_j43 l d (k : Int) (k : Int) (b2i (mayB σ l d bv k = true)) τ1 := by
        by_cases c0 : rdyB σ k = true
        · by_cases c : licB σ k l d = true
          · obtain ⟨τ1, b1, b2⟩ := (hb k hk8).2.2 τ ha
            refine ⟨τ1, b2, ?_⟩
            unfold fX12_layMay_l7 fX12_layMay_j42
            rw [ha.i (c := 1326) (by decide), hR.2.2.2.2.1.1, if_neg (by omega), e2, bnkI, if_pos c0, allow_m hR ha hk8 hl, if_pos c, b1, bnd_some]
            by_cases c2 : bv k = -9
            · rw [if_pos c2, bnd_some, if_neg (by decide), show b2i (mayB σ l d bv k = true) = 1 from b2i_pos (by unfold mayB alB; simp [c0, c, c2])]
            · rw [if_neg c2, bnd_some, if_pos rfl, show b2i (mayB σ l d bv k = true) = 0 from b2i_neg (by unfold mayB alB; simp [c2])]
          · refine ⟨τ, Ex.rf, ?_⟩
            unfold fX12_layMay_l7 fX12_layMay_j42
            rw [ha.i (c := 1326) (by decide), hR.2.2.2.2.1.1, if_neg (by omega), e2, bnkI, if_pos c0, allow_m hR ha hk8 hl, if_neg c, bnd_some, if_pos rfl, show b2i (mayB σ l d bv k = true) = 0 from b2i_neg (by unfold mayB alB; simp [c])]
        · refine ⟨τ, Ex.rf, ?_⟩
          unfold fX12_layMay_l7 fX12_layMay_j42
          rw [ha.i (c := 1326) (by decide), hR.2.2.2.2.1.1, if_neg (by omega), e2, bnkI, if_neg c0, show b2i (mayB σ l d bv k = true) = 0 from b2i_neg (by unfold mayB; simp [c0])]
      obtain ⟨τ1, x1, x2⟩ := ask
      have a1 := ha.trans (AgM.of x1 (by decide))
      obtain ⟨y1, y2, y3, y4, y5, y6, y7, y8, z1, z2, z3, z4, -⟩ := hR.2.2.2.2.1.2.2.2.1 k hk8
      have hx3 : Ex [1359] τ1 (sI τ1 1359 0 k (b2i (mayB σ l d bv k = true))) := Ex.rf.sI (by decide)
      have a3 := a1.trans (AgM.of hx3 (by decide))
      have f3 := feet_m (a3.rr hR).2.2.1 ((a3.rr hR).2.2.2.2.1.2.2.2.1 k (by rw [a3.n]; exact hk8)) (by omega)
      rw [feetV_ag a3] at f3
      have fin : ∀ w : Int, fX12_layMay_j91 l d (k : Int) (k : Int) w (sI (sI τ1 1359 0 k (b2i (mayB σ l d bv k = true))) 1360 0 k (feetV σ k)) = some (.inl (((k + 1 : Nat) : Int), sI (sI (sI (sI τ1 1359 0 k (b2i (mayB σ l d bv k = true))) 1360 0 k (feetV σ k)) 1361 0 k w) 1362 0 0 ((setN (msB σ l d bv) (k + 1) : Nat) : Int))) := by
        intro w
        have v59 : gI (sI (sI τ1 1359 0 k (b2i (mayB σ l d bv k = true))) 1360 0 k (feetV σ k)) 1359 0 k = b2i (mayB σ l d bv k = true) := by rw [ii (by omega), gs]
        have v62 : gI (sI (sI τ1 1359 0 k (b2i (mayB σ l d bv k = true))) 1360 0 k (feetV σ k)) 1362 0 0 = ((setN (msB σ l d bv) k : Nat) : Int) := by rw [ii (by omega), ii (by omega), x1.i (c := 1362) (by decide)]; exact h.2.1
        have v34 : gI (sI (sI τ1 1359 0 k (b2i (mayB σ l d bv k = true))) 1360 0 k (feetV σ k)) 1334 0 k = gI σ 907 k 0 := by rw [ii (by omega), ii (by omega), a1.i (c := 1334) (by decide)]; exact y8
        have oz := ior_s (P := msB σ l d bv) (k := k) (by omega)
        unfold fX12_layMay_j91 fX12_layMay_j121 fX12_layMay_j122
        rw [ck_x (by omega) (by omega), ck_x (by omega) (by omega), Int.toNat_natCast, v59, v62, v34, ck_i (by omega) (by omega), ck_i (by omega) (by omega), ck_x (by omega) (by omega)]
        by_cases c1 : mayB σ l d bv k = true
        · rw [if_neg (by rw [b2i_pos c1]; decide)]
          by_cases c2 : gI σ 907 k 0 = 0
          · rw [if_neg (by unfold msB; simp [c2])] at oz
            rw [if_pos c2, oz]; rfl
          · rw [if_pos (by unfold msB; unfold mayB at c1; simp [c1, c2])] at oz
            rw [if_neg c2, oz]; rfl
        · rw [if_neg (by unfold msB; unfold mayB at c1; simp [c1])] at oz
          rw [if_pos (b2i_neg c1), oz]; rfl
      have e1 : fX12_layMay_l7 l d (k : Int) τ = some (.inl (((k + 1 : Nat) : Int), sI (sI (sI (sI τ1 1359 0 k (b2i (mayB σ l d bv k = true))) 1360 0 k (feetV σ k)) 1361 0 k (wthV σ k)) 1362 0 0 ((setN (msB σ l d bv) (k + 1) : Nat) : Int))) := by
        rw [x2]
        unfold fX12_layMay_j43
        rw [ck_x (by omega) (by omega), ck_b b2i_b, Int.toNat_natCast, f3, bnk_some, ck_x (by omega) (by omega), ck_x (by omega) (by omega), a1.i (c := 1327) (by decide), y2, ck_x (by omega) (by omega), a1.i (c := 1358) (by decide), a1.i (c := 1330) (by decide), y5, fin, fin, ck_x (by omega) (by omega), ck_x (by omega) (by omega)]
        unfold wthV
        split <;> rfl
      have hx4 : Ex [1359, 1360, 1361, 1362] τ1 (sI (sI (sI (sI τ1 1359 0 k (b2i (mayB σ l d bv k = true))) 1360 0 k (feetV σ k)) 1361 0 k (wthV σ k)) 1362 0 0 ((setN (msB σ l d bv) (k + 1) : Nat) : Int)) := (((Ex.rf.sI (by decide)).sI (by decide)).sI (by decide)).sI (by decide)
      obtain ⟨τ', g1, g2, g3⟩ := ih (k + 1) (by omega) (sI (sI (sI (sI τ1 1359 0 k (b2i (mayB σ l d bv k = true))) 1360 0 k (feetV σ k)) 1361 0 k (wthV σ k)) 1362 0 0 ((setN (msB σ l d bv) (k + 1) : Nat) : Int)) (by
        refine ⟨a1.trans (AgM.of hx4 (by decide)), gs, fun i hi => ?_⟩
        by_cases q : i = k
        · rw [q]
          exact ⟨by rw [ii (by omega), ii (by omega), ii (by omega), gs], by rw [ii (by omega), ii (by omega), gs], by rw [ii (by omega), gs]⟩
        · obtain ⟨w1, w2, w3⟩ := h.2.2 i (by omega)
          rw [ii (by omega), ii (by omega), ii (by omega), ii (by omega), ii (by omega), ii (by omega), ii (by omega), ii (by omega), ii (by omega), ii (by omega), ii (by omega), ii (by omega), x1.i (c := 1359) (by decide), x1.i (c := 1360) (by decide), x1.i (c := 1361) (by decide)]
          exact ⟨w1, w2, w3⟩)
      exact ⟨τ', wh_inl e1 g1, ((x1.mono (by decide)).trans (hx4.mono (by decide))).trans g2, g3⟩
  have hx0 : Ex [1362] τ (sI τ 1362 0 0 0) := Ex.rf.sI (by decide)
  obtain ⟨τ', g1, g2, g3⟩ := key (gN σ 8) 0 (by omega) (sI τ 1362 0 0 0) ⟨ha.trans (AgM.of hx0 (by decide)), by rw [gs]; rfl, fun i hi => by omega⟩
  refine ⟨τ', ?_, (hx0.mono (by decide)).trans g2, g3⟩
  unfold fX12_layMay fX12_layMay_j7 fX12_layMay_j132
  exact bnk_of g1 rfl
