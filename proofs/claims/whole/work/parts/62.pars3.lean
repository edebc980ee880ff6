/-! the rules' text: both readers side by side -/
noncomputable def WM (R D : Nat) (x3 : Int) (σ : St) : Option (St ⊕ (St ⊕ (Int × St))) := wh (fun s => fX12_readRule_l19 (R : Int) s.1 s.2.1 s.2.2) (((D : Int), x3, σ))
def SCc : List Nat := [401, 402, 403, 404, 405, 406, 407, 408, 409]
def SMm : List Nat := [1342, 1343, 1344, 1345, 1346]
def GG (V : Prop) (R : Nat) (σc σm : St) (p D : Nat) (x3 : Int) : Prop := ∃ r σc' σm', bnk (WC R p σc) (KC R) = some (r, σc') ∧ bnk (WM R D x3 σm) KM = some (r, σm') ∧ Ex SCc σc σc' ∧ Ex SMm σm σm' ∧ (r = -9 ∨ (0 ≤ r ∧ r ≤ 80)) ∧ (r = -9 → b01 (gI σm' 1346 0 0) ∧ b01 (gI σc' 401 0 0) ∧ b01 (gI σc' 402 0 0) ∧ (V → gI σm' 1346 0 0 = oo (gI σc' 401 0 0) (gI σc' 402 0 0)))
theorem GG.step {V : Prop} {R p p2 D D2 : Nat} {x3 y3 : Int} {σc σm σc2 σm2 : St} (h1 : bnk (WC R p σc) (KC R) = bnk (WC R p2 σc2) (KC R)) (h2 : WM R D x3 σm = WM R D2 y3 σm2) (h3 : Ex SCc σc σc2) (h4 : Ex SMm σm σm2) (h : GG V R σc2 σm2 p2 D2 y3) : GG V R σc σm p D x3 := by
  obtain ⟨r, a, b, g1, g2, g3, g4, g5⟩ := h
  exact ⟨r, a, b, by rw [h1]; exact g1, by rw [h2]; exact g2, h3.trans g3, h4.trans g4, g5⟩
def SIM (V : Prop) (R n : Nat) (B : Nat → Int) (m : Nat) : Prop := ∀ p, p ≤ n → n - p < m → ∀ σc σm, TXC σc R n B → TXM σm R n B → (V → ∀ j, j < 8 → gI σc 400 0 j = gI σm 1347 0 j) → (∀ L D O T o a k, WO V σc σm p L D O T o a k → GG V R σc σm p D 1) ∧ (∀ L D O T o a k, JS V σc σm p L D O T o a k → GG V R σc σm p D 0)
theorem peek_s {σ : St} {r n : Nat} {B : Nat → Int} (hb : TXB r n B) (hm : TXM σ r n B) {p q : Nat} (h1 : p ≤ q) (h2 : q ≤ n) (h3 : ∀ e, p ≤ e → e < q → B e = 32) (h4 : q = n ∨ B q ≠ 32) : fX12_peek (r : Int) (sI σ 1342 0 0 (p : Int)) = some (if q < n then B q else 0, sI σ 1342 0 0 (q : Int)) := by
  have hx : Ex [1342] σ (sI σ 1342 0 0 (p : Int)) := Ex.rf.sI (by decide)
  have := peek_m (σ := sI σ 1342 0 0 (p : Int)) hb (hm.ex hx (by decide) (by decide)) gs h1 h2 h3 h4
  rw [sI_sI] at this
  exact this
theorem lv0 : fX12_letterValue 0 = some (-9) := by
  unfold fX12_letterValue
  rw [if_neg (by decide), if_neg (by decide), if_neg (by decide), if_neg (by decide), if_neg (by decide), if_neg (by decide), if_neg (by decide), if_neg (by decide)]
theorem push_m {σ : St} {q w : Nat} {s : Int} (hw : gI σ 1343 0 0 = (w : Int)) (h84 : w < 84) (hq : q < 1000) : fX12_push s (sI σ 1342 0 0 (q : Int)) = some ((), sI (sI (sI (sI σ 1342 0 0 (q : Int)) 1344 0 w s) 1343 0 0 ((w + 1 : Nat) : Int)) 1342 0 0 ((q + 1 : Nat) : Int)) := by
  unfold fX12_push
  rw [ii (by omega), hw, gs, ck_x (by omega) (by omega), ck_i (by omega) (by omega), ck_i (by omega) (by omega), Int.toNat_natCast]; rfl
theorem pend {σd σ4 : St} {R n p : Nat} {B : Nat → Int} (hb : TXB R n B) (ht : TXC σd R n B) (hx : Ex SCc σd σ4) (hp : p ≤ n) (h3 : gI σd 405 0 0 = 3) (h4 : gI σ4 405 0 0 = 4) (he : fX3_endNumber σd = some ((), σ4)) (hc : 4 ≤ gI σd 409 0 0 ∨ p = n ∨ ¬ (48 ≤ B p ∧ B p ≤ 57)) : bnk (WC R p σd) (KC R) = bnk (WC R p σ4) (KC R) := by
  have ht4 : TXC σ4 R n B := ht.ex hx (by decide) (by decide)
  have he4 : fX3_endNumber σ4 = some ((), σ4) := endN_no (by omega)
  by_cases c : p = n
  · subst c
    rw [WC_end ht, WC_end ht4]
    unfold fX3_read_j40
    rw [he, he4]
  · have hj : ∀ b, fX3_take_j29 b σd = fX3_take_j29 b σ4 := fun b => by
      unfold fX3_take_j29
      rw [he, he4]
    have ht1 : fX3_take (B p) σd = fX3_take (B p) σ4 := by
      rw [take_no (σ := σ4) (by omega), ← hj]
      unfold fX3_take
      rw [if_pos h3, isDig, bnkI]
      by_cases d : 48 ≤ B p ∧ B p ≤ 57
      · rw [if_pos d, if_pos (by rcases hc with h | h | h; exact h; exact absurd h c; exact absurd d h)]
      · rw [if_neg d]
    have : WC R p σd = WC R p σ4 := by
      unfold WC
      apply wh_eqv
      obtain ⟨b1, b2, b3⟩ := hb
      show fX3_read_l11 R (p : Int) σd = fX3_read_l11 R (p : Int) σ4
      unfold fX3_read_l11
      rw [ht.1, ht4.1, if_neg (by omega), if_neg (by omega), Int.toNat_natCast, ht.2 p (by omega), ht4.2 p (by omega), ht1]
    rw [this]
theorem an_1 {x : Int} (h : b01 x) : an 1 x = x := by
  rcases h with h | h <;> rw [h] <;> rfl
theorem oo_0 {x : Int} (h : b01 x) : oo 0 x = x := by
  rcases h with h | h <;> rw [h] <;> rfl
theorem lvX_eq {a : Nat} {A t : Int} {k : Nat} (ht : b01 t) : (if a = 1 then an A (xk t k) else xk t k) = an (if a = 1 then A else 1) (xk t k) := by
  split
  · rfl
  · rw [an_1 (b01_xk ht k)]
theorem lvY_eq {o : Nat} {A X : Int} (hX : b01 X) : (if o = 1 then oo A X else X) = oo (if o = 1 then A else 0) X := by
  split
  · rfl
  · rw [oo_0 hX]
/-- one is wanted -/
theorem sim_W {V : Prop} {R n m : Nat} {B : Nat → Int} (hb : TXB R n B) (ih : SIM V R n B m) {p : Nat} (hp : p ≤ n) (hm : n - p < m + 1) {σc σm : St} (tc : TXC σc R n B) (tm : TXM σm R n B) (hv : V → ∀ j, j < 8 → gI σc 400 0 j = gI σm 1347 0 j) {L : List (Nat × Nat × Nat)} {D O T o a k : Nat} (h : WO V σc σm p L D O T o a k) : GG V R σc σm p D 1 := by
  obtain ⟨h1, h2, h3, h4, h5, h6, h7, h8, h9, h10⟩ := id h
  obtain ⟨b1, b2, b3⟩ := id hb
  obtain ⟨q, q1, q2, q3, q4⟩ := skip_ex B n p hp
  have hpk := peek_m hb tm h3 q1 q2 q3 q4
  have hwc : WC R p σc = WC R q σc := WC_skip hb tc (by rw [h1]; decide) (q - p) p q (by omega) q2 q3
  have hpa := peek_s (σ := σm) hb tm (Nat.le_refl q) q2 (fun e z1 z2 => by omega) q4
  have hxq : Ex [1342] σm (sI σm 1342 0 0 (q : Int)) := Ex.rf.sI (by decide)
  by_cases c0 : q = n
  · rw [if_neg (by omega)] at hpk hpa
    have e1 : fX12_readRule_l19 (R : Int) (D : Int) 1 σm = some (.inr (.inl (sI σm 1342 0 0 (q : Int)))) := by
      unfold fX12_readRule_l19 fX12_readRule_j31 fX12_takeAsking
      rw [if_neg (by decide), hpk, bnd_some, if_neg (by decide), if_neg (by decide), if_neg (by decide), hpa, bnd_some, lv0, bnk_some, if_pos rfl, bnd_some, if_pos rfl]
    refine ⟨(n : Int), σc, sI σm 1342 0 0 (q : Int), ?_, ?_, Ex.rf, hxq.mono (by decide), Or.inr (by omega), fun z => by omega⟩
    · rw [hwc, c0, WC_end tc, endN_j40 tc (by rw [h1]; decide) (by rw [h1]; decide)]
    · unfold WM
      rw [wh_inr e1, bnk_some]
      show fX12_readRule_j93 _ = _
      unfold fX12_readRule_j93
      rw [gs, c0]
  · have hqn : q < n := by omega
    rw [if_pos hqn] at hpk hpa
    have hbq : B q ≠ 32 := by rcases q4 with z | z; exact absurd z c0; exact z
    have hbb := b3 q hqn
    by_cases c1 : B q = 33
    · -- !
      have e1 : fX12_readRule_l19 (R : Int) (D : Int) 1 σm = some (.inl ((D : Int), 1, sI (sI (sI (sI σm 1342 0 0 (q : Int)) 1344 0 (O + o + a + k) 33) 1343 0 0 ((O + o + a + k + 1 : Nat) : Int)) 1342 0 0 ((q + 1 : Nat) : Int))) := by
        unfold fX12_readRule_l19 fX12_readRule_j31 fX12_readRule_j56 fX12_readRule_j69 fX12_readRule_j179
        rw [if_neg (by decide), hpk, bnd_some, if_neg (by decide), c1, if_pos rfl, if_neg (by decide), ck_i (by omega) (by omega), push_m h4 (by omega) (by omega), bnd_some, Int.add_zero]
      have e2 : fX3_take (B q) σc = some (1, sI σc 403 0 D (((k + 1) % 2 : Nat) : Int)) := by
        rw [take_0 h1 hbq, c1]
        unfold fX3_takeOne fX3_takeOne_j31
        rw [if_pos rfl, h2, ck_x (by omega) (by omega), Int.toNat_natCast, h9.2.2.2.2.2.2.2.1]
        by_cases z : k % 2 = 0
        · rw [if_pos (by omega), ck_x (by omega) (by omega), ck_b (Or.inr rfl), show (k + 1) % 2 = 1 by omega]; rfl
        · rw [if_neg (by omega), ck_x (by omega) (by omega), ck_b (Or.inl rfl), show (k + 1) % 2 = 0 by omega]; rfl
      have hxc : Ex [403] σc (sI σc 403 0 D (((k + 1) % 2 : Nat) : Int)) := Ex.rf.sI (by decide)
      have hxm : Ex [1342, 1343, 1344] σm (sI (sI (sI (sI σm 1342 0 0 (q : Int)) 1344 0 (O + o + a + k) 33) 1343 0 0 ((O + o + a + k + 1 : Nat) : Int)) 1342 0 0 ((q + 1 : Nat) : Int)) := (((Ex.rf.sI (by decide)).sI (by decide)).sI (by decide)).sI (by decide)
      have m44 : ∀ e, e < O + o + a + k → gI (sI (sI (sI (sI σm 1342 0 0 (q : Int)) 1344 0 (O + o + a + k) 33) 1343 0 0 ((O + o + a + k + 1 : Nat) : Int)) 1342 0 0 ((q + 1 : Nat) : Int)) 1344 0 e = gI σm 1344 0 e := fun e he => by rw [ii (by omega), ii (by omega), ii (by omega), ii (by omega)]
      have m44b : gI (sI (sI (sI (sI σm 1342 0 0 (q : Int)) 1344 0 (O + o + a + k) 33) 1343 0 0 ((O + o + a + k + 1 : Nat) : Int)) 1342 0 0 ((q + 1 : Nat) : Int)) 1344 0 (O + o + a + k) = 33 := by rw [ii (by omega), ii (by omega), gs]
      have m43 : gI (sI (sI (sI (sI σm 1342 0 0 (q : Int)) 1344 0 (O + o + a + k) 33) 1343 0 0 ((O + o + a + k + 1 : Nat) : Int)) 1342 0 0 ((q + 1 : Nat) : Int)) 1343 0 0 = ((O + o + a + k + 1 : Nat) : Int) := by rw [ii (by omega), gs]
      have m42 : gI (sI (sI (sI (sI σm 1342 0 0 (q : Int)) 1344 0 (O + o + a + k) 33) 1343 0 0 ((O + o + a + k + 1 : Nat) : Int)) 1342 0 0 ((q + 1 : Nat) : Int)) 1342 0 0 = ((q + 1 : Nat) : Int) := gs
      generalize sI (sI (sI (sI σm 1342 0 0 (q : Int)) 1344 0 (O + o + a + k) 33) 1343 0 0 ((O + o + a + k + 1 : Nat) : Int)) 1342 0 0 ((q + 1 : Nat) : Int) = σm2 at e1 hxm m44 m44b m43 m42
      refine GG.step (by rw [hwc, WC_step hb tc hqn e2]) (wh_stp e1) (hxc.mono (by decide)) (hxm.mono (by decide)) ?_
      refine ((ih (q + 1) (by omega) (by omega) _ σm2 (tc.ex hxc (by decide) (by decide)) (tm.ex hxm (by decide) (by decide)) (fun v j hj => by rw [hxc.i (c := 400) (by decide), hxm.i (c := 1347) (by decide)]; exact hv v j hj)).1 L D O T o a (k + 1)) ?_
      obtain ⟨l1, l2, l3, l4, l5, l6, l7, l8, l9⟩ := id h9
      refine ⟨by rw [hxc.i (c := 405) (by decide)]; exact h1, by rw [hxc.i (c := 404) (by decide)]; exact h2, m42, m43, by rw [hxm.i (c := 1345) (by decide)]; exact h5, by omega, by omega, by omega, ⟨l1, l2, fun z => ?_, fun z => ?_, fun j hj => ?_, by rw [hxc.i (c := 401) (by decide)]; exact l6, by rw [hxc.i (c := 402) (by decide)]; exact l7, gs, fun v => ?_⟩, h10.mono (fun e he => hxc.i (by decide) _ _) (fun e he => hxc.i (by decide) _ _) (fun e he => ii (by omega)) (fun e he => m44 e (by omega)) (fun e he => hxm.i (by decide) _ _)⟩
      · rw [m44 _ (by omega), hxm.i (c := 1346) (by decide)]; exact l3 z
      · rw [m44 _ (by omega), hxm.i (c := 1346) (by decide)]; exact l4 z
      · by_cases y : j = k
        · rw [y]; exact m44b
        · rw [m44 _ (by omega)]; exact l5 j (by omega)
      · rw [hxc.i (c := 401) (by decide), hxc.i (c := 402) (by decide), hxm.i (c := 1346) (by decide), hxm.i (c := 1346) (by decide)]; exact l9 v
    · by_cases c2 : B q = 40
      · -- (
        have e1 : fX12_readRule_l19 (R : Int) (D : Int) 1 σm = some (.inl (((D + 1 : Nat) : Int), 1, sI (sI (sI (sI σm 1342 0 0 (q : Int)) 1344 0 (O + o + a + k) 40) 1343 0 0 ((O + o + a + k + 1 : Nat) : Int)) 1342 0 0 ((q + 1 : Nat) : Int))) := by
          unfold fX12_readRule_l19 fX12_readRule_j31 fX12_readRule_j56 fX12_readRule_j69 fX12_readRule_j179
          rw [if_neg (by decide), hpk, bnd_some, if_neg (by decide), c2, if_neg (by decide), if_pos rfl, if_pos rfl, ck_i (by omega) (by omega), push_m h4 (by omega) (by omega), bnd_some]; rfl
        have e2 : fX3_take (B q) σc = some (1, sI (sI (sI (sI (sI σc 404 0 0 ((D + 1 : Nat) : Int)) 401 0 (D + 1) 0) 402 0 (D + 1) 1) 403 0 (D + 1) 0) 405 0 0 0) := by
          rw [take_0 h1 hbq, c2]
          unfold fX3_takeOne fX3_openLevel
          rw [if_neg (by decide), if_pos rfl, h2, if_neg (by omega), ck_i (by omega) (by omega), gs, ck_x (by omega) (by omega), ck_x (by omega) (by omega), ck_x (by omega) (by omega), bnd_some, show ((D : Int) + 1).toNat = D + 1 by omega]; rfl
        have hxc : Ex [401, 402, 403, 404, 405] σc (sI (sI (sI (sI (sI σc 404 0 0 ((D + 1 : Nat) : Int)) 401 0 (D + 1) 0) 402 0 (D + 1) 1) 403 0 (D + 1) 0) 405 0 0 0) := ((((Ex.rf.sI (by decide)).sI (by decide)).sI (by decide)).sI (by decide)).sI (by decide)
        have k1 : ∀ e, e ≠ D + 1 → gI (sI (sI (sI (sI (sI σc 404 0 0 ((D + 1 : Nat) : Int)) 401 0 (D + 1) 0) 402 0 (D + 1) 1) 403 0 (D + 1) 0) 405 0 0 0) 401 0 e = gI σc 401 0 e := fun e he => by rw [ii (by omega), ii (by omega), ii (by omega), ii (by omega), ii (by omega)]
        have k2 : ∀ e, e ≠ D + 1 → gI (sI (sI (sI (sI (sI σc 404 0 0 ((D + 1 : Nat) : Int)) 401 0 (D + 1) 0) 402 0 (D + 1) 1) 403 0 (D + 1) 0) 405 0 0 0) 402 0 e = gI σc 402 0 e := fun e he => by rw [ii (by omega), ii (by omega), ii (by omega), ii (by omega), ii (by omega)]
        have k3 : ∀ e, e ≠ D + 1 → gI (sI (sI (sI (sI (sI σc 404 0 0 ((D + 1 : Nat) : Int)) 401 0 (D + 1) 0) 402 0 (D + 1) 1) 403 0 (D + 1) 0) 405 0 0 0) 403 0 e = gI σc 403 0 e := fun e he => by rw [ii (by omega), ii (by omega), ii (by omega), ii (by omega), ii (by omega)]
        have k1b : gI (sI (sI (sI (sI (sI σc 404 0 0 ((D + 1 : Nat) : Int)) 401 0 (D + 1) 0) 402 0 (D + 1) 1) 403 0 (D + 1) 0) 405 0 0 0) 401 0 (D + 1) = 0 := by rw [ii (by omega), ii (by omega), ii (by omega), gs]
        have k2b : gI (sI (sI (sI (sI (sI σc 404 0 0 ((D + 1 : Nat) : Int)) 401 0 (D + 1) 0) 402 0 (D + 1) 1) 403 0 (D + 1) 0) 405 0 0 0) 402 0 (D + 1) = 1 := by rw [ii (by omega), ii (by omega), gs]
        have k3b : gI (sI (sI (sI (sI (sI σc 404 0 0 ((D + 1 : Nat) : Int)) 401 0 (D + 1) 0) 402 0 (D + 1) 1) 403 0 (D + 1) 0) 405 0 0 0) 403 0 (D + 1) = 0 := by rw [ii (by omega), gs]
        have k4 : gI (sI (sI (sI (sI (sI σc 404 0 0 ((D + 1 : Nat) : Int)) 401 0 (D + 1) 0) 402 0 (D + 1) 1) 403 0 (D + 1) 0) 405 0 0 0) 404 0 0 = ((D + 1 : Nat) : Int) := by rw [ii (by omega), ii (by omega), ii (by omega), ii (by omega), gs]
        have k5 : gI (sI (sI (sI (sI (sI σc 404 0 0 ((D + 1 : Nat) : Int)) 401 0 (D + 1) 0) 402 0 (D + 1) 1) 403 0 (D + 1) 0) 405 0 0 0) 405 0 0 = 0 := gs
        generalize sI (sI (sI (sI (sI σc 404 0 0 ((D + 1 : Nat) : Int)) 401 0 (D + 1) 0) 402 0 (D + 1) 1) 403 0 (D + 1) 0) 405 0 0 0 = σc2 at e2 hxc k1 k2 k3 k1b k2b k3b k4 k5
        have hxm : Ex [1342, 1343, 1344] σm (sI (sI (sI (sI σm 1342 0 0 (q : Int)) 1344 0 (O + o + a + k) 40) 1343 0 0 ((O + o + a + k + 1 : Nat) : Int)) 1342 0 0 ((q + 1 : Nat) : Int)) := (((Ex.rf.sI (by decide)).sI (by decide)).sI (by decide)).sI (by decide)
        have m44 : ∀ e, e < O + o + a + k → gI (sI (sI (sI (sI σm 1342 0 0 (q : Int)) 1344 0 (O + o + a + k) 40) 1343 0 0 ((O + o + a + k + 1 : Nat) : Int)) 1342 0 0 ((q + 1 : Nat) : Int)) 1344 0 e = gI σm 1344 0 e := fun e he => by rw [ii (by omega), ii (by omega), ii (by omega), ii (by omega)]
        have m44b : gI (sI (sI (sI (sI σm 1342 0 0 (q : Int)) 1344 0 (O + o + a + k) 40) 1343 0 0 ((O + o + a + k + 1 : Nat) : Int)) 1342 0 0 ((q + 1 : Nat) : Int)) 1344 0 (O + o + a + k) = 40 := by rw [ii (by omega), ii (by omega), gs]
        have m43 : gI (sI (sI (sI (sI σm 1342 0 0 (q : Int)) 1344 0 (O + o + a + k) 40) 1343 0 0 ((O + o + a + k + 1 : Nat) : Int)) 1342 0 0 ((q + 1 : Nat) : Int)) 1343 0 0 = ((O + o + a + k + 1 : Nat) : Int) := by rw [ii (by omega), gs]
        have m42 : gI (sI (sI (sI (sI σm 1342 0 0 (q : Int)) 1344 0 (O + o + a + k) 40) 1343 0 0 ((O + o + a + k + 1 : Nat) : Int)) 1342 0 0 ((q + 1 : Nat) : Int)) 1342 0 0 = ((q + 1 : Nat) : Int) := gs
        generalize sI (sI (sI (sI σm 1342 0 0 (q : Int)) 1344 0 (O + o + a + k) 40) 1343 0 0 ((O + o + a + k + 1 : Nat) : Int)) 1342 0 0 ((q + 1 : Nat) : Int) = σm2 at e1 hxm m44 m44b m43 m42
        refine GG.step (by rw [hwc, WC_step hb tc hqn e2]) (wh_stp e1) (hxc.mono (by decide)) (hxm.mono (by decide)) ?_
        refine ((ih (q + 1) (by omega) (by omega) σc2 σm2 (tc.ex hxc (by decide) (by decide)) (tm.ex hxm (by decide) (by decide)) (fun v j hj => by rw [hxc.i (c := 400) (by decide), hxm.i (c := 1347) (by decide)]; exact hv v j hj)).1 ((o, a, k) :: L) (D + 1) (O + o + a + k + 1) (T + o + a) 0 0 0) ?_
        refine ⟨k5, k4, m42, m43, by rw [hxm.i (c := 1345) (by decide)]; exact h5, by omega, by omega, by omega, ⟨Or.inl rfl, Or.inl rfl, fun z => by omega, fun z => by omega, fun j hj => by omega, Or.inl k1b, Or.inr k2b, k3b, fun v => ⟨k1b, k2b⟩⟩, D, O, T, rfl, rfl, rfl, m44b, ?_, ?_⟩
        · exact h9.mono (k1 _ (by omega)) (k2 _ (by omega)) (k3 _ (by omega)) m44 (fun e he => hxm.i (by decide) _ _)
        · exact h10.mono (fun e he => k1 e (by omega)) (fun e he => k2 e (by omega)) (fun e he => k3 e (by omega)) (fun e he => m44 e (by omega)) (fun e he => hxm.i (by decide) _ _)
      · -- a letter
        have tj : fX3_takeOne (B q) σc = fX3_takeOne_j65 (B q) σc := by
          unfold fX3_takeOne
          rw [if_neg c1, if_neg c2]
        have ml : ∀ {X : Option ((Int × Int × St) ⊕ (St ⊕ (St ⊕ (Int × St))))}, bnd (fX12_takeAsking (R : Int) (sI σm 1342 0 0 (q : Int))) (fun r76 σ78 => if r76 = 0 then (some (.inr (.inl σ78))) else (fX12_readRule_j179 (R : Int) (D : Int) 0 σ78)) = X → fX12_readRule_l19 (R : Int) (D : Int) 1 σm = X := by
          intro X hX
          unfold fX12_readRule_l19 fX12_readRule_j31
          rw [if_neg (by decide), hpk, bnd_some, if_neg (by decide), if_neg c1, if_neg c2]
          exact hX
        -- an end with a fault
        have bad : ∀ (q' : Nat) (σc2 : St), q' ≤ n → Ex SCc σc σc2 → bnk (WC R p σc) (KC R) = some ((q' : Int), σc2) → fX12_takeAsking (R : Int) (sI σm 1342 0 0 (q : Int)) = some (0, sI σm 1342 0 0 (q' : Int)) → GG V R σc σm p D 1 := by
          intro q' σc2 z1 z2 z3 z4
          have e1 : fX12_readRule_l19 (R : Int) (D : Int) 1 σm = some (.inr (.inl (sI σm 1342 0 0 (q' : Int)))) := ml (by rw [z4, bnd_some, if_pos rfl])
          refine ⟨(q' : Int), σc2, sI σm 1342 0 0 (q' : Int), z3, ?_, z2, (Ex.rf.sI (by decide)), Or.inr (by omega), fun z => by omega⟩
          unfold WM
          rw [wh_inr e1, bnk_some]
          show fX12_readRule_j93 _ = _
          unfold fX12_readRule_j93
          rw [gs]
        rcases letter_cm (B q) with ⟨v, v8, lc, lm⟩ | ⟨lc, lm⟩
        · have e2 : fX3_take (B q) σc = some (1, sI (sI σc 406 0 0 (v : Int)) 405 0 0 1) := by
            rw [take_0 h1 hbq, tj]
            unfold fX3_takeOne_j65
            rw [lc, bnk_some, if_neg (by omega)]
          have hx1 : Ex [405, 406] σc (sI (sI σc 406 0 0 (v : Int)) 405 0 0 1) := (Ex.rf.sI (by decide)).sI (by decide)
          have l5 : gI (sI (sI σc 406 0 0 (v : Int)) 405 0 0 1) 405 0 0 = 1 := gs
          have l6 : gI (sI (sI σc 406 0 0 (v : Int)) 405 0 0 1) 406 0 0 = (v : Int) := by rw [ii (by omega), gs]
          generalize sI (sI σc 406 0 0 (v : Int)) 405 0 0 1 = σ1 at e2 hx1 l5 l6
          have t1 : TXC σ1 R n B := tc.ex hx1 (by decide) (by decide)
          obtain ⟨u, u1, u2, u3, u4⟩ := skip_ex B n (q + 1) (by omega)
          have hpu := peek_s (σ := σm) hb tm u1 u2 u3 u4
          have w1 : WC R p σc = WC R u σ1 := by rw [hwc, WC_step hb tc hqn e2, WC_skip hb t1 (by rw [l5]; decide) (u - (q + 1)) (q + 1) u (by omega) u2 u3]
          have ta : ∀ {X : Option (Int × St)}, bnd (some (if u < n then B u else 0, sI σm 1342 0 0 (u : Int))) (fun r47 σ49 => bnk (fX12_in r47 60 62) (fun r54 => if r54 = 0 then (some (0, σ49)) else (ck (inr ((gI σ49 1342 0 0) + 1)) (bnd (fX12_peek (R : Int) (sI σ49 1342 0 0 ((gI σ49 1342 0 0) + 1))) (fun r58 σ60 => bnk (fX12_in r58 48 57) (fun r65 => if r65 = 0 then (some (0, σ60)) else (fX12_takeAsking_j85 (R : Int) (v : Int) r47 0 0 σ60))))))) = X → fX12_takeAsking (R : Int) (sI σm 1342 0 0 (q : Int)) = X := by
            intro X hX
            unfold fX12_takeAsking
            rw [hpa, bnd_some, lm, bnk_some, if_neg (by omega), gs, ck_i (by omega) (by omega), sI_sI, show ((q : Int) + 1) = ((q + 1 : Nat) : Int) by omega, hpu]
            exact hX
          by_cases d0 : u = n
          · refine bad n σ1 (Nat.le_refl n) (hx1.mono (by decide)) ?_ (ta ?_)
            · rw [w1, d0, WC_end t1, endN_j40 t1 (by rw [l5]; decide) (by rw [l5]; decide)]
            · rw [if_neg (by omega), bnd_some, in_eq, bnkI, if_neg (by decide), d0]
          · have hun : u < n := by omega
            have hbu : B u ≠ 32 := by rcases u4 with z | z; exact absurd z d0; exact z
            rw [if_pos hun] at ta
            by_cases d1 : 60 ≤ B u ∧ B u ≤ 62
            · have e3 : fX3_take (B u) σ1 = some (1, sI (sI (sI (sI σ1 407 0 0 (B u)) 408 0 0 0) 409 0 0 0) 405 0 0 2) := by
                rw [take_1 l5 hbu]
                unfold fX3_takeSign
                by_cases y1 : B u = 60
                · rw [if_pos y1]
                · rw [if_neg y1]
                  by_cases y2 : B u = 61
                  · rw [if_pos y2]
                  · rw [if_neg y2, if_pos (by omega)]
              have hx2 : Ex [405, 407, 408, 409] σ1 (sI (sI (sI (sI σ1 407 0 0 (B u)) 408 0 0 0) 409 0 0 0) 405 0 0 2) := (((Ex.rf.sI (by decide)).sI (by decide)).sI (by decide)).sI (by decide)
              have s5 : gI (sI (sI (sI (sI σ1 407 0 0 (B u)) 408 0 0 0) 409 0 0 0) 405 0 0 2) 405 0 0 = 2 := gs
              have s9 : gI (sI (sI (sI (sI σ1 407 0 0 (B u)) 408 0 0 0) 409 0 0 0) 405 0 0 2) 409 0 0 = 0 := by rw [ii (by omega), gs]
              have s8 : gI (sI (sI (sI (sI σ1 407 0 0 (B u)) 408 0 0 0) 409 0 0 0) 405 0 0 2) 408 0 0 = 0 := by rw [ii (by omega), ii (by omega), gs]
              have s7 : gI (sI (sI (sI (sI σ1 407 0 0 (B u)) 408 0 0 0) 409 0 0 0) 405 0 0 2) 407 0 0 = B u := by rw [ii (by omega), ii (by omega), ii (by omega), gs]
              generalize sI (sI (sI (sI σ1 407 0 0 (B u)) 408 0 0 0) 409 0 0 0) 405 0 0 2 = σ2 at e3 hx2 s5 s9 s8 s7
              have hx12 : Ex SCc σc σ2 := (hx1.mono (by decide)).trans (hx2.mono (by decide))
              have t2 : TXC σ2 R n B := tc.ex hx12 (by decide) (by decide)
              obtain ⟨w, y1, y2, y3, y4⟩ := skip_ex B n (u + 1) (by omega)
              have hpw := peek_s (σ := σm) hb tm y1 y2 y3 y4
              have w2 : WC R p σc = WC R w σ2 := by rw [w1, WC_step hb t1 hun e3, WC_skip hb t2 (by rw [s5]; decide) (w - (u + 1)) (u + 1) w (by omega) y2 y3]
              have tb : ∀ {X : Option (Int × St)}, bnk (fX12_in (if w < n then B w else 0) 48 57) (fun r65 => if r65 = 0 then (some (0, sI σm 1342 0 0 (w : Int))) else (fX12_takeAsking_j85 (R : Int) (v : Int) (B u) 0 0 (sI σm 1342 0 0 (w : Int)))) = X → fX12_takeAsking (R : Int) (sI σm 1342 0 0 (q : Int)) = X := by
                intro X hX
                apply ta
                rw [bnd_some, in_eq, bnkI, if_pos d1, gs, ck_i (by omega) (by omega), sI_sI, show ((u : Int) + 1) = ((u + 1 : Nat) : Int) by omega, hpw, bnd_some]
                exact hX
              by_cases d2 : w = n
              · refine bad n σ2 (Nat.le_refl n) hx12 ?_ (tb ?_)
                · rw [w2, d2, WC_end t2, endN_j40 t2 (by rw [s5]; decide) (by rw [s5]; decide)]
                · rw [if_neg (by omega), in_eq, bnkI, if_neg (by decide), d2]
              · have hwn : w < n := by omega
                have hbw : B w ≠ 32 := by rcases y4 with z | z; exact absurd z d2; exact z
                rw [if_pos hwn] at tb
                by_cases d3 : 48 ≤ B w ∧ B w ≤ 57
                · obtain ⟨c, x1, x2, x3, x4, x5⟩ := dig_ex hwn d3
                  obtain ⟨σd, g1, g2, g3, g4, g5⟩ := digs_c hb t2 (q := w) s5 s8 s9 c x1 x2 x3 x4
                  have hxd : Ex SCc σc σd := hx12.trans (g2.mono (by decide))
                  have td : TXC σd R n B := tc.ex hxd (by decide) (by decide)
                  have f6 : gI σd 406 0 0 = (v : Int) := by rw [g2.i (c := 406) (by decide), hx2.i (c := 406) (by decide)]; exact l6
                  have f7 : gI σd 407 0 0 = B u := by rw [g2.i (c := 407) (by decide)]; exact s7
                  have f4 : gI σd 404 0 0 = (D : Int) := by rw [g2.i (c := 404) (by decide), hx2.i (c := 404) (by decide), hx1.i (c := 404) (by decide)]; exact h2
                  have f1 : ∀ e, gI σd 401 0 e = gI σc 401 0 e := fun e => by rw [g2.i (c := 401) (by decide), hx2.i (c := 401) (by decide), hx1.i (c := 401) (by decide)]
                  have f2 : ∀ e, gI σd 402 0 e = gI σc 402 0 e := fun e => by rw [g2.i (c := 402) (by decide), hx2.i (c := 402) (by decide), hx1.i (c := 402) (by decide)]
                  have f3 : ∀ e, gI σd 403 0 e = gI σc 403 0 e := fun e => by rw [g2.i (c := 403) (by decide), hx2.i (c := 403) (by decide), hx1.i (c := 403) (by decide)]
                  have f0 : ∀ e, gI σd 400 0 e = gI σc 400 0 e := fun e => by rw [g2.i (c := 400) (by decide), hx2.i (c := 400) (by decide), hx1.i (c := 400) (by decide)]
                  obtain ⟨l1, l2, l3, l4, l5', l6', l7, l8, l9⟩ := id h9
                  have en : fX3_endNumber σd = some ((), sI (sI (sI σd 402 0 D (an (gI σc 402 0 D) (xk (cmpV (B u) (gI σc 400 0 v) (digN B w c)) k))) 403 0 D 0) 405 0 0 4) := by
                    unfold fX3_endNumber
                    rw [if_pos g5, cmp_c v8 f6, bnk_some, f7, f0, g3, endOne_c (D := D) (k := k) (by omega) f4 (by rw [f3]; exact l8) (b01_cmp _ _ _), bnd_some, f2]
                  have hx4 : Ex [402, 403, 405] σd (sI (sI (sI σd 402 0 D (an (gI σc 402 0 D) (xk (cmpV (B u) (gI σc 400 0 v) (digN B w c)) k))) 403 0 D 0) 405 0 0 4) := ((Ex.rf.sI (by decide)).sI (by decide)).sI (by decide)
                  have r5 : gI (sI (sI (sI σd 402 0 D (an (gI σc 402 0 D) (xk (cmpV (B u) (gI σc 400 0 v) (digN B w c)) k))) 403 0 D 0) 405 0 0 4) 405 0 0 = 4 := gs
                  have r3 : gI (sI (sI (sI σd 402 0 D (an (gI σc 402 0 D) (xk (cmpV (B u) (gI σc 400 0 v) (digN B w c)) k))) 403 0 D 0) 405 0 0 4) 403 0 D = 0 := by rw [ii (by omega), gs]
                  have r3b : ∀ e, e ≠ D → gI (sI (sI (sI σd 402 0 D (an (gI σc 402 0 D) (xk (cmpV (B u) (gI σc 400 0 v) (digN B w c)) k))) 403 0 D 0) 405 0 0 4) 403 0 e = gI σc 403 0 e := fun e he => by rw [ii (by omega), ii (by omega), ii (by omega), f3]
                  have r2 : gI (sI (sI (sI σd 402 0 D (an (gI σc 402 0 D) (xk (cmpV (B u) (gI σc 400 0 v) (digN B w c)) k))) 403 0 D 0) 405 0 0 4) 402 0 D = an (gI σc 402 0 D) (xk (cmpV (B u) (gI σc 400 0 v) (digN B w c)) k) := by rw [ii (by omega), ii (by omega), gs]
                  have r2b : ∀ e, e ≠ D → gI (sI (sI (sI σd 402 0 D (an (gI σc 402 0 D) (xk (cmpV (B u) (gI σc 400 0 v) (digN B w c)) k))) 403 0 D 0) 405 0 0 4) 402 0 e = gI σc 402 0 e := fun e he => by rw [ii (by omega), ii (by omega), ii (by omega), f2]
                  generalize sI (sI (sI σd 402 0 D (an (gI σc 402 0 D) (xk (cmpV (B u) (gI σc 400 0 v) (digN B w c)) k))) 403 0 D 0) 405 0 0 4 = σ4 at en hx4 r5 r3 r3b r2 r2b
                  have pd := pend hb td (hx4.mono (by decide)) x3 g5 r5 en (by rw [g4]; rcases x5 with z | z | z; exact Or.inl (by omega); exact Or.inr (Or.inl z); exact Or.inr (Or.inr z))
                  -- the model
                  have tq : fX12_takeAsking (R : Int) (sI σm 1342 0 0 (q : Int)) = some (1, sI (sI (sI σm 1342 0 0 ((w + c : Nat) : Int)) 1346 0 (T + o + a) (cmpV (B u) (gI σm 1347 0 v) (digN B w c))) 1345 0 0 ((T + o + a + 1 : Nat) : Int)) := by
                    apply tb
                    have tz : ∀ b : Int, b01 b → fX12_takeAsking_j246 (gI (sI σm 1342 0 0 ((w + c : Nat) : Int)) 1345 0 0) b (sI σm 1342 0 0 ((w + c : Nat) : Int)) = some (1, sI (sI (sI σm 1342 0 0 ((w + c : Nat) : Int)) 1346 0 (T + o + a) b) 1345 0 0 ((T + o + a + 1 : Nat) : Int)) := by
                      intro b hb2
                      unfold fX12_takeAsking_j246
                      rw [ii (by omega), h5, ck_x (by omega) (by omega), ck_b hb2, ck_i (by omega) (by omega), Int.toNat_natCast]; rfl
                    unfold fX12_takeAsking_j85 fX12_takeAsking_j172
                    rw [in_eq, bnkI, if_pos d3, digs_m hb tm x1 x2 x3 x4 x5, bnk_some]
                    show (if B u = 60 then _ else _) = _
                    rw [tz 0 (Or.inl rfl), tz 1 (Or.inr rfl), Int.toNat_natCast, ii (by omega)]
                    unfold cmpV
                    by_cases y1 : B u = 60
                    · rw [if_pos y1, if_pos y1, ck_x (by omega) (by omega)]
                      split <;> rfl
                    · rw [if_neg y1, if_neg y1]
                      by_cases y2 : B u = 61
                      · rw [if_pos y2, if_neg (show ¬ B u = 62 by omega), ck_x (by omega) (by omega)]
                        split <;> rfl
                      · rw [if_neg y2, if_pos (show B u = 62 by omega), ck_x (by omega) (by omega)]
                        split <;> rfl
                  have e1 : fX12_readRule_l19 (R : Int) (D : Int) 1 σm = some (.inl ((D : Int), 0, sI (sI (sI σm 1342 0 0 ((w + c : Nat) : Int)) 1346 0 (T + o + a) (cmpV (B u) (gI σm 1347 0 v) (digN B w c))) 1345 0 0 ((T + o + a + 1 : Nat) : Int))) := ml (by rw [tq, bnd_some, if_neg (by decide)]; rfl)
                  have hxm : Ex [1342, 1345, 1346] σm (sI (sI (sI σm 1342 0 0 ((w + c : Nat) : Int)) 1346 0 (T + o + a) (cmpV (B u) (gI σm 1347 0 v) (digN B w c))) 1345 0 0 ((T + o + a + 1 : Nat) : Int)) := ((Ex.rf.sI (by decide)).sI (by decide)).sI (by decide)
                  have m42 : gI (sI (sI (sI σm 1342 0 0 ((w + c : Nat) : Int)) 1346 0 (T + o + a) (cmpV (B u) (gI σm 1347 0 v) (digN B w c))) 1345 0 0 ((T + o + a + 1 : Nat) : Int)) 1342 0 0 = ((w + c : Nat) : Int) := by rw [ii (by omega), ii (by omega), gs]
                  have m45 : gI (sI (sI (sI σm 1342 0 0 ((w + c : Nat) : Int)) 1346 0 (T + o + a) (cmpV (B u) (gI σm 1347 0 v) (digN B w c))) 1345 0 0 ((T + o + a + 1 : Nat) : Int)) 1345 0 0 = ((T + o + a + 1 : Nat) : Int) := gs
                  have m46 : gI (sI (sI (sI σm 1342 0 0 ((w + c : Nat) : Int)) 1346 0 (T + o + a) (cmpV (B u) (gI σm 1347 0 v) (digN B w c))) 1345 0 0 ((T + o + a + 1 : Nat) : Int)) 1346 0 (T + o + a) = cmpV (B u) (gI σm 1347 0 v) (digN B w c) := by rw [ii (by omega), gs]
                  have m46b : ∀ e, e ≠ T + o + a → gI (sI (sI (sI σm 1342 0 0 ((w + c : Nat) : Int)) 1346 0 (T + o + a) (cmpV (B u) (gI σm 1347 0 v) (digN B w c))) 1345 0 0 ((T + o + a + 1 : Nat) : Int)) 1346 0 e = gI σm 1346 0 e := fun e he => by rw [ii (by omega), ii (by omega), ii (by omega)]
                  generalize sI (sI (sI σm 1342 0 0 ((w + c : Nat) : Int)) 1346 0 (T + o + a) (cmpV (B u) (gI σm 1347 0 v) (digN B w c))) 1345 0 0 ((T + o + a + 1 : Nat) : Int) = σm2 at e1 hxm m42 m45 m46 m46b
                  have hxc4 : Ex SCc σc σ4 := hxd.trans (hx4.mono (by decide))
                  refine GG.step (by rw [w2, g1, pd]) (wh_stp e1) hxc4 (hxm.mono (by decide)) ?_
                  refine ((ih (w + c) x3 (by omega) σ4 σm2 (tc.ex hxc4 (by decide) (by decide)) (tm.ex hxm (by decide) (by decide)) (fun vv j hj => by rw [hxc4.i (c := 400) (by decide), hxm.i (c := 1347) (by decide)]; exact hv vv j hj)).2 L D O T o a k) ?_
                  refine ⟨r5, by rw [hx4.i (c := 404) (by decide)]; exact f4, m42, by rw [hxm.i (c := 1343) (by decide)]; exact h4, m45, by omega, by omega, by omega, ⟨l1, l2, fun z => ?_, fun z => ?_, fun j hj => ?_, ?_, ?_, ?_, r3, fun vv => ?_⟩, ?_⟩
                  · rw [hxm.i (c := 1344) (by decide), m46b _ (by omega)]; exact l3 z
                  · rw [hxm.i (c := 1344) (by decide), m46b _ (by omega)]; exact l4 z
                  · rw [hxm.i (c := 1344) (by decide)]; exact l5' j hj
                  · rw [m46]; exact b01_cmp _ _ _
                  · rw [hx4.i (c := 401) (by decide), f1]; exact l6'
                  · rw [r2]; exact b01_an _ _
                  · obtain ⟨n1, n2⟩ := l9 vv
                    rw [hx4.i (c := 401) (by decide), f1, r2, m46, n1, n2, hv vv v v8]
                    constructor
                    · split
                      · rw [m46b _ (by omega)]
                      · rfl
                    · by_cases za : a = 1
                      · rw [if_pos za, if_pos za, m46b _ (by omega)]
                      · rw [if_neg za, if_neg za]
                  · exact h10.mono (fun e he => by rw [hx4.i (c := 401) (by decide), f1]) (fun e he => r2b e (by omega)) (fun e he => r3b e (by omega)) (fun e he => hxm.i (by decide) _ _) (fun e he => m46b e (by omega))
                · refine bad w σ2 (by omega) hx12 ?_ (tb ?_)
                  · rw [w2]
                    exact WC_bad hb t2 hwn (by rw [take_2 s5 hbw, if_neg d3])
                  · rw [in_eq, bnkI, if_neg d3]
            · refine bad u (sI (sI (sI (sI σ1 407 0 0 (B u)) 408 0 0 0) 409 0 0 0) 405 0 0 2) (by omega) ((hx1.mono (by decide)).trans ((((Ex.rf.sI (by decide)).sI (by decide)).sI (by decide)).sI (by decide))) ?_ (ta ?_)
              · rw [w1]
                refine WC_bad hb t1 hun ?_
                rw [take_1 l5 hbu]
                unfold fX3_takeSign
                rw [if_neg (by omega), if_neg (by omega), if_neg (by omega)]
              · rw [bnd_some, in_eq, bnkI, if_neg d1]
        · refine bad q (sI (sI σc 406 0 0 (-1)) 405 0 0 1) (by omega) ((Ex.rf.sI (by decide)).sI (by decide)) ?_ ?_
          · rw [hwc]
            refine WC_bad hb tc hqn ?_
            rw [take_0 h1 hbq, tj]
            unfold fX3_takeOne_j65
            rw [lc, bnk_some, if_pos (by decide)]
          · unfold fX12_takeAsking
            rw [hpa, bnd_some, lm, bnk_some, if_pos rfl]
