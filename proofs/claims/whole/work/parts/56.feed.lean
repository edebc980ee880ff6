/-! feed: bytes of a long -/
theorem shq : ∀ e : Fin 8, ((Int32.ofInt (8 * ((e : Nat) : Int))).toInt64 &&& 63).toBitVec.smod 64 = BitVec.ofNat 64 (8 * (e : Nat)) := by decide +kernel
theorem shu : ∀ e : Fin 8, ((Int32.ofInt (8 * ((e : Nat) : Int))).toInt64.toUInt64 &&& Int64.toUInt64 63).toBitVec % 64 = BitVec.ofNat 64 (8 * (e : Nat)) := by decide +kernel
theorem b255 : ∀ i : Fin 64, (Int64.ofInt 255).toBitVec.getLsbD (i : Nat) = decide ((i : Nat) < 8) := by decide +kernel
def bt (x : Int) (e : Nat) : Int := jand (jshr x (8 * (e : Int))) 255
theorem bt_u {x : Int} {e : Nat} (he : e < 8) : jand (jushr x (8 * (e : Int))) 255 = bt x e := by
  unfold bt jand jushr jshr
  rw [i64_of, i64_of]
  apply congrArg Int64.toInt
  apply Int64.toBitVec.inj
  rw [Int64.toBitVec_and, Int64.toBitVec_and, UInt64.toBitVec_toInt64, UInt64.toBitVec_shiftRight, Int64.toBitVec_toUInt64, Int64.toBitVec_shiftRight]
  have s1 := shu ⟨e, he⟩
  have s2 := shq ⟨e, he⟩
  have e1 : (BitVec.ofNat 64 (8 * e)).toNat = 8 * e := by rw [BitVec.toNat_ofNat, Nat.mod_eq_of_lt (by omega)]
  have s1' : ((Int32.ofInt (8 * (e : Int))).toInt64.toUInt64 &&& Int64.toUInt64 63).toBitVec % 64 = BitVec.ofNat 64 (8 * e) := s1
  have s2' : ((Int32.ofInt (8 * (e : Int))).toInt64 &&& 63).toBitVec.smod 64 = BitVec.ofNat 64 (8 * e) := s2
  rw [s1', s2']
  apply BitVec.eq_of_getLsbD_eq
  intro i hi
  have h2 : (Int64.ofInt 255).toBitVec.getLsbD i = decide (i < 8) := b255 ⟨i, hi⟩
  rw [BitVec.getLsbD_and, BitVec.getLsbD_and, BitVec.ushiftRight_eq', BitVec.sshiftRight_eq', e1, BitVec.getLsbD_ushiftRight, BitVec.getLsbD_sshiftRight, h2]
  by_cases c : i < 8
  · have c2 : ¬ 64 ≤ i := by omega
    have c3 : 8 * e + i < 64 := by omega
    simp [c2, c3]
  · simp [c]
theorem bt_bd (x : Int) (e : Nat) : 0 ≤ bt x e ∧ bt x e ≤ 255 := by
  unfold bt jand
  have h1 : (Int64.ofInt (jshr x (8 * (e : Int))) &&& Int64.ofInt 255).toBitVec.toNat ≤ 255 := by
    rw [Int64.toBitVec_and, BitVec.toNat_and]
    exact Nat.le_trans Nat.and_le_right (by decide)
  generalize Int64.ofInt (jshr x (8 * (e : Int))) &&& Int64.ofInt 255 = Y at h1
  show 0 ≤ Y.toBitVec.toInt ∧ Y.toBitVec.toInt ≤ 255
  rw [BitVec.toInt_eq_toNat_of_lt (by omega)]
  omega
theorem l2i_b : ∀ b : Fin 256, l2i ((b : Nat) : Int) = ((b : Nat) : Int) := by decide +kernel
theorem l2i_bt (x : Int) (e : Nat) : l2i (bt x e) = bt x e := by
  have h := bt_bd x e
  obtain ⟨b, hb⟩ := Int.eq_ofNat_of_zero_le h.1
  rw [hb]
  exact l2i_b ⟨b, by omega⟩
theorem lcm_eq0 {a b : Int} : lcm_ a b = 0 ↔ a = b := by
  unfold lcm_
  by_cases h : b < a
  · rw [if_pos h]; constructor <;> intro q <;> omega
  · rw [if_neg h]
    by_cases h2 : a = b
    · rw [if_pos h2]; constructor <;> intro q <;> omega
    · rw [if_neg h2]; constructor <;> intro q <;> omega
theorem ct_ex (x : Int) : ∃ c, c ≤ 8 ∧ (∀ e, e < c → bt x e ≠ 0) ∧ (c = 8 ∨ bt x c = 0) := by
  have key : ∀ n, (∀ e, e < n → bt x e ≠ 0) ∨ ∃ c, c < n ∧ (∀ e, e < c → bt x e ≠ 0) ∧ bt x c = 0 := by
    intro n
    induction n with
    | zero => exact Or.inl (fun e he => absurd he (Nat.not_lt_zero e))
    | succ n ih =>
      rcases ih with h | ⟨c, h1, h2, h3⟩
      · by_cases q : bt x n = 0
        · exact Or.inr ⟨n, by omega, h, q⟩
        · refine Or.inl (fun e he => ?_)
          by_cases q2 : e = n
          · rw [q2]; exact q
          · exact h e (by omega)
      · exact Or.inr ⟨c, by omega, h2, h3⟩
  rcases key 8 with h | ⟨c, h1, h2, h3⟩
  · exact ⟨8, Nat.le_refl _, h, Or.inl rfl⟩
  · exact ⟨c, by omega, h2, Or.inr h3⟩
theorem byte_c {x : Int} {e : Nat} (he : e < 8) : fX6_byteAt x (e : Int) = some (bt x e) := by
  unfold fX6_byteAt
  rw [ck_i (by omega) (by omega), bt_u he, l2i_bt]
def cpC (σ : St) (i n : Nat) (x : Int) : Nat → St
  | 0 => σ
  | k + 1 => sI (cpC σ i n x k) 702 i (n + k) (bt x k)
theorem cpC_p (σ : St) (i n : Nat) (x : Int) (k : Nat) : Ex [702] σ (cpC σ i n x k) ∧ ∀ j e, gI (cpC σ i n x k) 702 j e = if j = i ∧ n ≤ e ∧ e < n + k then bt x (e - n) else gI σ 702 j e := by
  induction k with
  | zero => exact ⟨Ex.rf, fun j e => by rw [if_neg (by omega)]; rfl⟩
  | succ k ih =>
    refine ⟨ih.1.sI (by decide), fun j e => ?_⟩
    show gI (sI (cpC σ i n x k) 702 i (n + k) (bt x k)) 702 j e = _
    rw [gI_sI, ih.2 j]
    by_cases c : j = i ∧ e = n + k
    · rw [if_pos ⟨rfl, c.1, c.2⟩, if_pos (by omega), c.2, Nat.add_sub_cancel_left]
    · rw [if_neg (by omega)]
      by_cases c2 : j = i ∧ n ≤ e ∧ e < n + k
      · rw [if_pos c2, if_pos (by omega)]
      · rw [if_neg c2, if_neg (by omega)]
def cpM (σ : St) (n : Nat) (x : Int) : Nat → St
  | 0 => σ
  | k + 1 => sI (cpM σ n x k) 1341 0 (n + k) (bt x k)
theorem cpM_p (σ : St) (n : Nat) (x : Int) (k : Nat) : Ex [1341] σ (cpM σ n x k) ∧ ∀ e, gI (cpM σ n x k) 1341 0 e = if n ≤ e ∧ e < n + k then bt x (e - n) else gI σ 1341 0 e := by
  induction k with
  | zero => exact ⟨Ex.rf, fun e => by rw [if_neg (by omega)]; rfl⟩
  | succ k ih =>
    refine ⟨ih.1.sI (by decide), fun e => ?_⟩
    show gI (sI (cpM σ n x k) 1341 0 (n + k) (bt x k)) 1341 0 e = _
    rw [gI_sI, ih.2 e]
    by_cases c : e = n + k
    · rw [if_pos ⟨rfl, rfl, c⟩, if_pos (by omega), c, Nat.add_sub_cancel_left]
    · rw [if_neg (by omega)]
      by_cases c2 : n ≤ e ∧ e < n + k
      · rw [if_pos c2, if_pos (by omega)]
      · rw [if_neg c2, if_neg (by omega)]
theorem RL_.txt {σ σ2 : St} (h : RL_ σ) (hx : Ex [702, 703, 1340, 1341] σ σ2) (hn : ∀ i, i < gN σ 6 → gI σ2 1340 0 i = gI σ2 703 i 0 ∧ (0 ≤ gI σ2 703 i 0 ∧ gI σ2 703 i 0 ≤ 80) ∧ ∀ e : Nat, (e : Int) < gI σ2 703 i 0 → gI σ2 1341 0 (80 * i + e) = gI σ2 702 i e ∧ 1 ≤ gI σ2 702 i e ∧ gI σ2 702 i e ≤ 255) (hm : ∀ i, gN σ 6 ≤ i → gI σ2 1340 0 i = 0) : RL_ σ2 := by
  obtain ⟨s1, s2, s3, s4, s5⟩ := h
  unfold RL_ RL1
  simp only [hx.i (c := 700) (by decide), hx.i (c := 701) (by decide), hx.i (c := 1210) (by decide), hx.i (c := 1337) (by decide), hx.i (c := 1338) (by decide), hx.i (c := 1339) (by decide), hx.p (c := 1209) (by decide), hx.n 6]
  refine ⟨s1, s2, s3, fun i hi => ?_, hm⟩
  obtain ⟨q1, q2, q3, q4, q5, q6, q7⟩ := s4 i hi
  obtain ⟨n1, n2, n3⟩ := hn i hi
  exact ⟨q1, q2, q3, q4, n1, n2, n3⟩
theorem op_25 : OP25 RR := by
  intro a1 x ha1 hax σ hSF hR
  obtain ⟨hT, hW, hS, hF, hY, hA, hL, hG, hE, hC, hH, hQ⟩ := id hR
  by_cases p : 0 ≤ a1 ∧ a1 < (gN σ 6 : Int)
  · obtain ⟨e1, e2, e3, e4, q1, q2, q3, q4, q5, q6, q7⟩ := ruP hL p
    obtain ⟨i, rfl⟩ := Int.eq_ofNat_of_zero_le p.1
    rw [Int.toNat_natCast] at e1 e3 q1 q2 q3 q4 q5 q6 q7
    obtain ⟨n, hn⟩ := Int.eq_ofNat_of_zero_le q6.1
    rw [hn] at q5 q6 q7
    obtain ⟨c, c1, c2, c3⟩ := ct_ex x
    have wc : ∀ σ1, wh (fun s => fX6_append_l2 i x σ1 s) 0 = some (c : Int) := by
      intro σ1
      have hw := wh_seq (f := fun s => fX6_append_l2 i x σ1 s) (r := (c : Int)) c (fun e => (e : Int)) ?_ ?_
      · exact hw
      · intro e he
        show fX6_append_l2 i x σ1 (e : Int) = some (.inl ((e : Int) + 1))
        unfold fX6_append_l2
        rw [if_neg (by omega), byte_c (by omega), bnk_some, if_neg (c2 e he), ck_i (by omega) (by omega)]
      · show fX6_append_l2 i x σ1 (c : Int) = _
        unfold fX6_append_l2
        by_cases d : c = 8
        · rw [if_pos (by omega)]
        · rw [if_neg (by omega), byte_c (by omega), bnk_some, if_pos (by omega)]
    have wm : ∀ σ1, wh (fun s => fX12_feed_l13 (i : Int) x σ1 s) 0 = some (c : Int) := by
      intro σ1
      have hw := wh_seq (f := fun s => fX12_feed_l13 (i : Int) x σ1 s) (r := (c : Int)) c (fun e => (e : Int)) ?_ ?_
      · exact hw
      · intro e he
        show fX12_feed_l13 (i : Int) x σ1 (e : Int) = some (.inl ((e : Int) + 1))
        unfold fX12_feed_l13
        rw [if_neg (by omega), ck_i (by omega) (by omega), show jand (jshr x (8 * (e : Int))) 255 = bt x e from rfl, if_neg (fun z => c2 e he (lcm_eq0.mp z)), ck_i (by omega) (by omega)]
      · show fX12_feed_l13 (i : Int) x σ1 (c : Int) = _
        unfold fX12_feed_l13
        by_cases d : c = 8
        · rw [if_pos (by omega)]
        · rw [if_neg (by omega), ck_i (by omega) (by omega), if_pos (lcm_eq0.mpr (by rcases c3 with h | h; exact absurd h d; exact h))]
    by_cases c4 : (n : Int) + (c : Int) ≤ 80
    · obtain ⟨y1, y2⟩ := cpC_p σ i n x c
      have hx1 : Ex [702, 703] σ (sI (cpC σ i n x c) 703 i 0 ((n : Int) + (c : Int))) := (y1.mono (by decide)).sI (by decide)
      have lc : wh (fun s => fX6_append_l39 i x (c : Int) s.1 s.2) ((0, σ)) = some (cpC σ i n x c) := by
        have hw := wh_seq (f := fun s => fX6_append_l39 i x (c : Int) s.1 s.2) (r := cpC σ i n x c) c (fun k => ((k : Int), cpC σ i n x k)) ?_ ?_
        · exact hw
        · intro k hk
          obtain ⟨w1, w2⟩ := cpC_p σ i n x k
          show fX6_append_l39 i x (c : Int) (k : Int) (cpC σ i n x k) = some (.inl ((k : Int) + 1, sI (cpC σ i n x k) 702 i (n + k) (bt x k)))
          have t : ((n : Int) + (k : Int)).toNat = n + k := by omega
          unfold fX6_append_l39
          rw [if_neg (by omega), w1.i (c := 703) (by decide), hn, ck_i (by omega) (by omega), byte_c (by omega), bnk_some, ck_x (by omega) (by omega), ck_i (by omega) (by omega), t]
        · show fX6_append_l39 i x (c : Int) (c : Int) (cpC σ i n x c) = _
          unfold fX6_append_l39
          rw [if_pos (by omega)]
      refine opW (r := (n : Int) + (c : Int)) (σ1 := sI (cpC σ i n x c) 703 i 0 ((n : Int) + (c : Int))) (σ2 := sI (cpM (sI (cpC σ i n x c) 703 i 0 ((n : Int) + (c : Int))) (80 * i + n) x c) 1340 0 i ((n : Int) + (c : Int))) ?_ ?_ ?_
      · unfold fX11_feed fX6_append fX6_append_j2 fX6_append_j22 fX6_append_j39 fX6_append_j69
        rw [e1, bnk_some, mop_s, ck_n e3, wc, bnk_some, hn, ck_i (by omega) (by omega), if_pos c4, lc, bnk_some, y1.i (c := 703) (by decide), hn, ck_i (by omega) (by omega), bnd_some]
      · generalize sI (cpC σ i n x c) 703 i 0 ((n : Int) + (c : Int)) = σ1 at hx1
        have hi3 : fX12_isRule (i : Int) σ1 = fX12_isRule (i : Int) σ := by
          unfold fX12_isRule
          rw [hx1.i (c := 1337) (by decide)]
        have hz : gI σ1 1340 0 i = (n : Int) := by rw [hx1.i (c := 1340) (by decide), q5]
        have lm : wh (fun s => fX12_feed_l62 (i : Int) x (c : Int) s.1 s.2) ((0, σ1)) = some (cpM σ1 (80 * i + n) x c) := by
          have hw := wh_seq (f := fun s => fX12_feed_l62 (i : Int) x (c : Int) s.1 s.2) (r := cpM σ1 (80 * i + n) x c) c (fun k => ((k : Int), cpM σ1 (80 * i + n) x k)) ?_ ?_
          · exact hw
          · intro k hk
            obtain ⟨w1, w2⟩ := cpM_p σ1 (80 * i + n) x k
            show fX12_feed_l62 (i : Int) x (c : Int) (k : Int) (cpM σ1 (80 * i + n) x k) = some (.inl ((k : Int) + 1, sI (cpM σ1 (80 * i + n) x k) 1341 0 (80 * i + n + k) (bt x k)))
            have t : (80 * (i : Int) + (n : Int) + (k : Int)).toNat = 80 * i + n + k := by omega
            have t2 : l2i (jand (jshr x (8 * (k : Int))) 255) = bt x k := l2i_bt x k
            unfold fX12_feed_l62
            rw [if_neg (by omega), ck_i (by omega) (by omega), ck_x (by omega) (by omega), Int.toNat_natCast, w1.i (c := 1340) (by decide), hz, ck_i (by omega) (by omega), ck_i (by omega) (by omega), ck_i (by omega) (by omega), ck_x (by omega) (by omega), ck_i (by omega) (by omega), t, t2]
          · show fX12_feed_l62 (i : Int) x (c : Int) (c : Int) (cpM σ1 (80 * i + n) x c) = _
            unfold fX12_feed_l62
            rw [if_pos (by omega)]
        obtain ⟨w1, w2⟩ := cpM_p σ1 (80 * i + n) x c
        unfold fX12_feed fX12_feed_j13 fX12_feed_j42 fX12_feed_j62 fX12_feed_j106
        rw [hi3, e2, bnk_some, if_neg (by decide), wm, bnk_some, ck_x (by omega) (by omega), Int.toNat_natCast, hz, ck_i (by omega) (by omega), if_pos c4, lm, bnk_some, ck_x (by omega) (by omega), w1.i (c := 1340) (by decide), hz, ck_i (by omega) (by omega), ck_x (by omega) (by omega), ck_x (by omega) (by omega)]
      · obtain ⟨w1, w2⟩ := cpM_p (sI (cpC σ i n x c) 703 i 0 ((n : Int) + (c : Int))) (80 * i + n) x c
        have hx : Ex [702, 703, 1340, 1341] σ (sI (cpM (sI (cpC σ i n x c) 703 i 0 ((n : Int) + (c : Int))) (80 * i + n) x c) 1340 0 i ((n : Int) + (c : Int))) := ((hx1.mono (by decide)).trans (w1.mono (by decide))).sI (by decide)
        refine ⟨hT.ex hx (dj_use (by decide)), hW.ex hx (dj_use (by decide)), hS.ex hx (dj_use (by decide)), hF.ex hx (dj_use (by decide)), hY.ex hx (dj_use (by decide)), hA.ex hx (dj_use (by decide)), ?_, hG.ex hx (dj_use (by decide)), hE.ex hx (dj_use (by decide)), hC.ex hx (dj_use (by decide)), hH.ex hx (dj_use (by decide)), hQ.ex hx (dj_use (by decide))⟩
        refine hL.txt hx (fun k hk => ?_) (fun k hk => ?_)
        · have e703 : gI (sI (cpM (sI (cpC σ i n x c) 703 i 0 ((n : Int) + (c : Int))) (80 * i + n) x c) 1340 0 i ((n : Int) + (c : Int))) 703 k 0 = if k = i then (n : Int) + (c : Int) else gI σ 703 k 0 := by
            rw [ii (by omega), w1.i (c := 703) (by decide)]
            by_cases q : k = i
            · rw [if_pos q, q, gs]
            · rw [if_neg q, ii (by omega), y1.i (c := 703) (by decide)]
          have e702 : ∀ e, gI (sI (cpM (sI (cpC σ i n x c) 703 i 0 ((n : Int) + (c : Int))) (80 * i + n) x c) 1340 0 i ((n : Int) + (c : Int))) 702 k e = if k = i ∧ n ≤ e ∧ e < n + c then bt x (e - n) else gI σ 702 k e := fun e => by
            rw [ii (by omega), w1.i (c := 702) (by decide), ii (by omega), y2]
          have e1341 : ∀ e, gI (sI (cpM (sI (cpC σ i n x c) 703 i 0 ((n : Int) + (c : Int))) (80 * i + n) x c) 1340 0 i ((n : Int) + (c : Int))) 1341 0 e = if 80 * i + n ≤ e ∧ e < 80 * i + n + c then bt x (e - (80 * i + n)) else gI σ 1341 0 e := fun e => by
            rw [ii (by omega), w2, ii (by omega), y1.i (c := 1341) (by decide)]
          simp only [e703, e702, e1341]
          by_cases q : k = i
          · subst q
            rw [if_pos rfl, gs]
            refine ⟨rfl, by omega, fun e he => ?_⟩
            by_cases d : e < n
            · rw [if_neg (by omega), if_neg (by omega)]
              exact q7 e (by omega)
            · have b1 := bt_bd x (e - n)
              have b2 := c2 (e - n) (by omega)
              rw [if_pos (by omega), if_pos (by omega), show 80 * k + e - (80 * k + n) = e - n by omega]
              exact ⟨rfl, by omega, by omega⟩
          · obtain ⟨u1, u2, u3, u4, u5, u6, u7⟩ := hL.2.2.2.1 k hk
            rw [if_neg q, ii (by omega), w1.i (c := 1340) (by decide), ii (by omega), y1.i (c := 1340) (by decide)]
            refine ⟨u5, u6, fun e he => ?_⟩
            rw [if_neg (by omega), if_neg (by omega)]
            exact u7 e he
        · rw [ii (by omega), w1.i (c := 1340) (by decide), ii (by omega), y1.i (c := 1340) (by decide)]
          exact hL.2.2.2.2 k hk
    · refine opW (r := -4) (σ1 := σ) (σ2 := σ) ?_ ?_ hR
      · unfold fX11_feed fX6_append fX6_append_j2 fX6_append_j22
        rw [e1, bnk_some, mop_s, ck_n e3, wc, bnk_some, hn, ck_i (by omega) (by omega), if_neg c4, bnd_some]
      · unfold fX12_feed fX12_feed_j13 fX12_feed_j42
        rw [e2, bnk_some, if_neg (by decide), wm, bnk_some, ck_x (by omega) (by omega), Int.toNat_natCast, q5, ck_i (by omega) (by omega), if_neg c4]
  · obtain ⟨e1, e2⟩ := ruN hL p
    refine opW (r := -1) (σ1 := σ) (σ2 := σ) ?_ ?_ hR
    · unfold fX11_feed; rw [e1]; rfl
    · unfold fX12_feed; rw [e2]; rfl
