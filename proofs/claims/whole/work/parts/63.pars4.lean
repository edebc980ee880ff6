/-! the rules' text: a joint, the whole -/
theorem sim_J {V : Prop} {R n m : Nat} {B : Nat → Int} (hb : TXB R n B) (ih : SIM V R n B m) {p : Nat} (hp : p ≤ n) (hm : n - p < m + 1) {σc σm : St} (tc : TXC σc R n B) (tm : TXM σm R n B) (hv : V → ∀ j, j < 8 → gI σc 400 0 j = gI σm 1347 0 j) {L : List (Nat × Nat × Nat)} {D O T o a k : Nat} (h : JS V σc σm p L D O T o a k) : GG V R σc σm p D 0 := by
  obtain ⟨h1, h2, h3, h4, h5, h6, h7, h8, ⟨l1, l2, l3, l4, l5, lt_, l6, l7, l8, l9⟩, h10⟩ := id h
  obtain ⟨b1, b2, b3⟩ := id hb
  obtain ⟨q, q1, q2, q3, q4⟩ := skip_ex B n p hp
  have hpk := peek_m hb tm h3 q1 q2 q3 q4
  have hwc : WC R p σc = WC R q σc := WC_skip hb tc (by rw [h1]; decide) (q - p) p q (by omega) q2 q3
  have hpa := peek_s (σ := σm) hb tm (Nat.le_refl q) q2 (fun e z1 z2 => by omega) q4
  have hxq : Ex [1342] σm (sI σm 1342 0 0 (q : Int)) := Ex.rf.sI (by decide)
  have xq : ∀ c j e, c ≠ 1342 → gI (sI σm 1342 0 0 (q : Int)) c j e = gI σm c j e := fun c j e z => ii (by omega)
  have hz : O = 0 ∨ gI σm 1344 0 (O - 1) = 40 := h10.top
  have hX : b01 (if a = 1 then an (gI σm 1346 0 (T + o)) (xk (gI σm 1346 0 (T + o + a)) k) else xk (gI σm 1346 0 (T + o + a)) k) := by
    split
    · exact b01_an _ _
    · exact b01_xk lt_ k
  have hY : b01 (if o = 1 then oo (gI σm 1346 0 T) (if a = 1 then an (gI σm 1346 0 (T + o)) (xk (gI σm 1346 0 (T + o + a)) k) else xk (gI σm 1346 0 (T + o + a)) k) else (if a = 1 then an (gI σm 1346 0 (T + o)) (xk (gI σm 1346 0 (T + o + a)) k) else xk (gI σm 1346 0 (T + o + a)) k)) := by
    split
    · exact b01_oo _ _
    · exact hX
  have hVX : V → gI σc 402 0 D = (if a = 1 then an (gI σm 1346 0 (T + o)) (xk (gI σm 1346 0 (T + o + a)) k) else xk (gI σm 1346 0 (T + o + a)) k) := fun v => by rw [(l9 v).2, lvX_eq lt_]
  have hVY : V → oo (gI σc 401 0 D) (gI σc 402 0 D) = (if o = 1 then oo (gI σm 1346 0 T) (if a = 1 then an (gI σm 1346 0 (T + o)) (xk (gI σm 1346 0 (T + o + a)) k) else xk (gI σm 1346 0 (T + o + a)) k) else (if a = 1 then an (gI σm 1346 0 (T + o)) (xk (gI σm 1346 0 (T + o + a)) k) else xk (gI σm 1346 0 (T + o + a)) k)) := fun v => by rw [lvY_eq hX, hVX v, (l9 v).1]
  obtain ⟨σk, y1, y2, y3, y4, y5, y6⟩ := close1 (σ := sI σm 1342 0 0 (q : Int)) (O := O) (T := T) (o := o) (a := a) (k := k) l1 l2 (by omega) (by omega) (by rw [xq _ _ _ (by decide)]; exact h4) (by rw [xq _ _ _ (by decide)]; exact h5) (fun j hj => by rw [xq _ _ _ (by decide)]; exact l5 j hj) (fun z => by rw [xq _ _ _ (by decide)]; exact (l4 z).1) (fun z => by rw [xq _ _ _ (by decide)]; exact (l3 z).1) (by rw [xq _ _ _ (by decide)]; exact hz) (by rw [xq _ _ _ (by decide)]; exact lt_)
  rw [xq _ _ _ (by decide), xq _ _ _ (by decide), xq _ _ _ (by decide)] at y5
  have y6' : ∀ e, e < T → gI σk 1346 0 e = gI σm 1346 0 e := fun e he => by rw [y6 e he, xq _ _ _ (by decide)]
  by_cases c0 : q = n
  · rw [if_neg (by omega)] at hpk
    have e1 : fX12_readRule_l19 (R : Int) (D : Int) 0 σm = some (.inr (.inr (.inr ((D : Int), sI σm 1342 0 0 (q : Int))))) := by
      unfold fX12_readRule_l19
      rw [if_pos rfl, hpk, bnd_some, if_pos rfl]
    by_cases c1 : D = 0
    · refine ⟨-9, σc, σk, ?_, ?_, Ex.rf, (hxq.mono (by decide)).trans (y2.mono (by decide)), Or.inl rfl, fun _ => ?_⟩
      · rw [hwc, c0, WC_end tc]
        unfold fX3_read_j40
        rw [endN_no (by rw [h1]; decide), bnd_some, if_pos h1, if_pos (by rw [h2, c1]; rfl)]
      · unfold WM
        rw [wh_inr e1, bnk_some]
        show fX12_readRule_j182 (D : Int) (sI σm 1342 0 0 (q : Int)) = _
        unfold fX12_readRule_j182
        rw [if_pos (by omega), y1, bnd_some]
      · have hT0 : T = 0 := by
          cases L with
          | nil => exact h10.2.2
          | cons x L =>
            obtain ⟨d', O', T', z1, z2, z3, z4, z5, z6⟩ := h10
            omega
        subst c1
        rw [hT0] at y5
        rw [hT0] at hVY hY
        rw [y5]
        exact ⟨hY, l6, l7, fun v => (hVY v).symm⟩
    · refine ⟨(n : Int), σc, sI σm 1342 0 0 (q : Int), ?_, ?_, Ex.rf, hxq.mono (by decide), Or.inr (by omega), fun z => by omega⟩
      · rw [hwc, c0, WC_end tc]
        unfold fX3_read_j40
        rw [endN_no (by rw [h1]; decide), bnd_some, if_pos h1, if_neg (by rw [h2]; omega), tc.1]
      · unfold WM
        rw [wh_inr e1, bnk_some]
        show fX12_readRule_j182 (D : Int) (sI σm 1342 0 0 (q : Int)) = _
        unfold fX12_readRule_j182
        rw [if_neg (by omega), gs, c0]
  · have hqn : q < n := by omega
    rw [if_pos hqn] at hpk hpa
    have hbq : B q ≠ 32 := by rcases q4 with z | z; exact absurd z c0; exact z
    have hbb := b3 q hqn
    have ml : ∀ {X : Option ((Int × Int × St) ⊕ (St ⊕ (St ⊕ (Int × St))))}, fX12_readRule_j31 (R : Int) (D : Int) 0 (sI σm 1342 0 0 (q : Int)) = X → fX12_readRule_l19 (R : Int) (D : Int) 0 σm = X := by
      intro X hX
      unfold fX12_readRule_l19
      rw [if_pos rfl, hpk, bnd_some, if_neg (by omega)]
      exact hX
    by_cases c1 : B q = 41 ∧ 0 < D
    · -- )
      obtain ⟨x, L', rfl⟩ : ∃ x L', L = x :: L' := by
        cases L with
        | nil => exact absurd h10.1 (by omega)
        | cons x L' => exact ⟨x, L', rfl⟩
      obtain ⟨d', O', T', z1, z2, z3, z4, z5, z6⟩ := h10
      obtain ⟨n1, n2, n3, n4, n5, n6, n7, n8, n9⟩ := id z5
      have e1 : fX12_readRule_l19 (R : Int) (D : Int) 0 σm = some (.inl ((d' : Int), 0, sI (sI σk 1343 0 0 ((O' + x.1 + x.2.1 + x.2.2 : Nat) : Int)) 1342 0 0 ((q + 1 : Nat) : Int))) := by
        apply ml
        unfold fX12_readRule_j31 fX12_readRule_j179
        rw [hpa, bnd_some, if_pos rfl, if_pos c1.1, if_neg (by omega), y1, bnd_some, y3, ck_i (by omega) (by omega), ck_i (by omega) (by omega), y2.i (c := 1342) (by decide), gs, ck_i (by omega) (by omega), show (D : Int) + -1 = (d' : Int) by omega, show (O : Int) - 1 = ((O' + x.1 + x.2.1 + x.2.2 : Nat) : Int) by omega]; rfl
      have e2 : fX3_take (B q) σc = some (1, sI (sI (sI (sI σc 404 0 0 (d' : Int)) 402 0 d' (an (gI σc 402 0 d') (xk (oo (gI σc 401 0 D) (gI σc 402 0 D)) x.2.2))) 403 0 d' 0) 405 0 0 4) := by
        have ej : ∀ b : Int, b01 b → fX3_takeJoint_j42 b σc = some (1, sI (sI (sI (sI σc 404 0 0 (d' : Int)) 402 0 d' (an (gI σc 402 0 d') (xk b x.2.2))) 403 0 d' 0) 405 0 0 4) := by
          intro b hb2
          unfold fX3_takeJoint_j42
          rw [h2, ck_i (by omega) (by omega), ck_b hb2, show (D : Int) - 1 = (d' : Int) by omega, endOne_c (D := d') (k := x.2.2) (by omega) gs (by rw [ii (by omega)]; exact n8) hb2, bnd_some, ii (by omega)]
        rw [take_4 h1 hbq, c1.1]
        unfold fX3_takeJoint fX3_takeJoint_j37
        rw [if_pos rfl, h2, if_neg (by omega), ck_x (by omega) (by omega), Int.toNat_natCast, ej 0 (Or.inl rfl), ej 1 (Or.inr rfl)]
        unfold oo
        by_cases w1 : gI σc 401 0 D = 0
        · rw [if_pos w1, if_pos w1, ck_x (by omega) (by omega)]
          by_cases w2 : gI σc 402 0 D = 0
          · rw [if_pos w2, if_pos w2]
          · rw [if_neg w2, if_neg w2]
        · rw [if_neg w1, if_neg w1]
      have hxc : Ex [402, 403, 404, 405] σc (sI (sI (sI (sI σc 404 0 0 (d' : Int)) 402 0 d' (an (gI σc 402 0 d') (xk (oo (gI σc 401 0 D) (gI σc 402 0 D)) x.2.2))) 403 0 d' 0) 405 0 0 4) := (((Ex.rf.sI (by decide)).sI (by decide)).sI (by decide)).sI (by decide)
      have r5 : gI (sI (sI (sI (sI σc 404 0 0 (d' : Int)) 402 0 d' (an (gI σc 402 0 d') (xk (oo (gI σc 401 0 D) (gI σc 402 0 D)) x.2.2))) 403 0 d' 0) 405 0 0 4) 405 0 0 = 4 := gs
      have r4 : gI (sI (sI (sI (sI σc 404 0 0 (d' : Int)) 402 0 d' (an (gI σc 402 0 d') (xk (oo (gI σc 401 0 D) (gI σc 402 0 D)) x.2.2))) 403 0 d' 0) 405 0 0 4) 404 0 0 = (d' : Int) := by rw [ii (by omega), ii (by omega), ii (by omega), gs]
      have r3 : gI (sI (sI (sI (sI σc 404 0 0 (d' : Int)) 402 0 d' (an (gI σc 402 0 d') (xk (oo (gI σc 401 0 D) (gI σc 402 0 D)) x.2.2))) 403 0 d' 0) 405 0 0 4) 403 0 d' = 0 := by rw [ii (by omega), gs]
      have r3b : ∀ e, e ≠ d' → gI (sI (sI (sI (sI σc 404 0 0 (d' : Int)) 402 0 d' (an (gI σc 402 0 d') (xk (oo (gI σc 401 0 D) (gI σc 402 0 D)) x.2.2))) 403 0 d' 0) 405 0 0 4) 403 0 e = gI σc 403 0 e := fun e he => by rw [ii (by omega), ii (by omega), ii (by omega), ii (by omega)]
      have r2 : gI (sI (sI (sI (sI σc 404 0 0 (d' : Int)) 402 0 d' (an (gI σc 402 0 d') (xk (oo (gI σc 401 0 D) (gI σc 402 0 D)) x.2.2))) 403 0 d' 0) 405 0 0 4) 402 0 d' = an (gI σc 402 0 d') (xk (oo (gI σc 401 0 D) (gI σc 402 0 D)) x.2.2) := by rw [ii (by omega), ii (by omega), gs]
      have r2b : ∀ e, e ≠ d' → gI (sI (sI (sI (sI σc 404 0 0 (d' : Int)) 402 0 d' (an (gI σc 402 0 d') (xk (oo (gI σc 401 0 D) (gI σc 402 0 D)) x.2.2))) 403 0 d' 0) 405 0 0 4) 402 0 e = gI σc 402 0 e := fun e he => by rw [ii (by omega), ii (by omega), ii (by omega), ii (by omega)]
      generalize sI (sI (sI (sI σc 404 0 0 (d' : Int)) 402 0 d' (an (gI σc 402 0 d') (xk (oo (gI σc 401 0 D) (gI σc 402 0 D)) x.2.2))) 403 0 d' 0) 405 0 0 4 = σ4 at e2 hxc r5 r4 r3 r3b r2 r2b
      have hxm : Ex SMm σm (sI (sI σk 1343 0 0 ((O' + x.1 + x.2.1 + x.2.2 : Nat) : Int)) 1342 0 0 ((q + 1 : Nat) : Int)) := (((hxq.mono (by decide)).trans (y2.mono (by decide))).sI (by decide)).sI (by decide)
      have m42 : gI (sI (sI σk 1343 0 0 ((O' + x.1 + x.2.1 + x.2.2 : Nat) : Int)) 1342 0 0 ((q + 1 : Nat) : Int)) 1342 0 0 = ((q + 1 : Nat) : Int) := gs
      have m43 : gI (sI (sI σk 1343 0 0 ((O' + x.1 + x.2.1 + x.2.2 : Nat) : Int)) 1342 0 0 ((q + 1 : Nat) : Int)) 1343 0 0 = ((O' + x.1 + x.2.1 + x.2.2 : Nat) : Int) := by rw [ii (by omega), gs]
      have m45 : gI (sI (sI σk 1343 0 0 ((O' + x.1 + x.2.1 + x.2.2 : Nat) : Int)) 1342 0 0 ((q + 1 : Nat) : Int)) 1345 0 0 = ((T + 1 : Nat) : Int) := by rw [ii (by omega), ii (by omega), y4]
      have m44 : ∀ e, gI (sI (sI σk 1343 0 0 ((O' + x.1 + x.2.1 + x.2.2 : Nat) : Int)) 1342 0 0 ((q + 1 : Nat) : Int)) 1344 0 e = gI σm 1344 0 e := fun e => by rw [ii (by omega), ii (by omega), y2.i (c := 1344) (by decide), xq _ _ _ (by decide)]
      have m46 : ∀ e, gI (sI (sI σk 1343 0 0 ((O' + x.1 + x.2.1 + x.2.2 : Nat) : Int)) 1342 0 0 ((q + 1 : Nat) : Int)) 1346 0 e = gI σk 1346 0 e := fun e => by rw [ii (by omega), ii (by omega)]
      generalize sI (sI σk 1343 0 0 ((O' + x.1 + x.2.1 + x.2.2 : Nat) : Int)) 1342 0 0 ((q + 1 : Nat) : Int) = σm2 at e1 hxm m42 m43 m44 m45 m46
      refine GG.step (by rw [hwc, WC_step hb tc hqn e2]) (wh_stp e1) (hxc.mono (by decide)) hxm ?_
      refine ((ih (q + 1) (by omega) (by omega) σ4 σm2 (tc.ex hxc (by decide) (by decide)) (tm.ex hxm (by decide) (by decide)) (fun vv j hj => by rw [hxc.i (c := 400) (by decide), hxm.i (c := 1347) (by decide)]; exact hv vv j hj)).2 L' d' O' T' x.1 x.2.1 x.2.2) ?_
      refine ⟨r5, r4, m42, m43, by rw [m45, z3], by omega, by omega, by omega, ⟨n1, n2, fun z => ?_, fun z => ?_, fun j hj => ?_, ?_, ?_, ?_, r3, fun vv => ?_⟩, ?_⟩
      · rw [m44, m46, y6' _ (by omega)]; exact n3 z
      · rw [m44, m46, y6' _ (by omega)]; exact n4 z
      · rw [m44]; exact n5 j hj
      · rw [m46, ← z3, y5]; exact hY
      · rw [hxc.i (c := 401) (by decide)]; exact n6
      · rw [r2]; exact b01_an _ _
      · obtain ⟨w1, w2⟩ := n9 vv
        rw [hxc.i (c := 401) (by decide), r2, w1, w2, m46, m46, m46, ← z3, y5, hVY vv]
        constructor
        · split
          · rw [y6' _ (by omega)]
          · rfl
        · by_cases za : x.2.1 = 1
          · rw [if_pos za, if_pos za, y6' _ (by omega)]
          · rw [if_neg za, if_neg za]
      · exact z6.mono (fun e he => hxc.i (by decide) _ _) (fun e he => r2b e (by omega)) (fun e he => r3b e (by omega)) (fun e he => m44 e) (fun e he => by rw [m46, y6' _ (by omega)])
    · have mj : ∀ {X : Option ((Int × Int × St) ⊕ (St ⊕ (St ⊕ (Int × St))))}, fX12_readRule_j140 (R : Int) (D : Int) (B q) (sI σm 1342 0 0 (q : Int)) = X → fX12_readRule_l19 (R : Int) (D : Int) 0 σm = X := by
        intro X hX
        apply ml
        unfold fX12_readRule_j31
        rw [hpa, bnd_some, if_pos rfl]
        by_cases w1 : B q = 41
        · rw [if_pos w1, if_pos (by omega)]; exact hX
        · rw [if_neg w1]; exact hX
      have cj : fX3_take (B q) σc = fX3_takeJoint_j60 (B q) σc := by
        rw [take_4 h1 hbq]
        unfold fX3_takeJoint
        by_cases w1 : B q = 41
        · rw [if_pos w1, if_pos (by omega)]
        · rw [if_neg w1]
      by_cases c2 : B q = 38
      · -- &
        obtain ⟨σt, t1, t2, t3, t4, t5, t6⟩ := close2 (σ := sI σm 1342 0 0 (q : Int)) (O := O) (T := T) (o := o) (a := a) (k := k) l1 l2 (by omega) (by omega) (by rw [xq _ _ _ (by decide)]; exact h4) (by rw [xq _ _ _ (by decide)]; exact h5) (fun j hj => by rw [xq _ _ _ (by decide)]; exact l5 j hj) (fun z => by rw [xq _ _ _ (by decide)]; exact (l4 z).1) (fun z => by rw [xq _ _ _ (by decide)]; exact (l3 z).1) (by rw [xq _ _ _ (by decide)]; exact hz) (by rw [xq _ _ _ (by decide)]; exact lt_)
        rw [xq _ _ _ (by decide), xq _ _ _ (by decide)] at t5
        have t6' : ∀ e, e < T + o → gI σt 1346 0 e = gI σm 1346 0 e := fun e he => by rw [t6 e he, xq _ _ _ (by decide)]
        have tself : sI σt 1342 0 0 (q : Int) = σt := sI_self (by rw [t2.i (c := 1342) (by decide), gs])
        have e1 : fX12_readRule_l19 (R : Int) (D : Int) 0 σm = some (.inl ((D : Int), 1, sI (sI (sI σt 1344 0 (O + o) 38) 1343 0 0 ((O + o + 1 : Nat) : Int)) 1342 0 0 ((q + 1 : Nat) : Int))) := by
          apply mj
          unfold fX12_readRule_j140 fX12_readRule_j154 fX12_binds fX12_readRule_j179
          have hpu := push_m (σ := σt) (q := q) (w := O + o) (s := 38) t3 (by omega) (by omega)
          rw [tself] at hpu
          rw [if_pos c2, c2, if_neg (by decide), if_pos rfl, bnk_some, t1, bnd_some, hpu, bnd_some]
        have e2 : fX3_take (B q) σc = some (1, sI σc 405 0 0 0) := by
          rw [cj, c2]
          unfold fX3_takeJoint_j60 fX3_takeJoint_j114
          rw [if_neg (by decide), if_neg (by decide), if_pos rfl]
        have hxc : Ex [405] σc (sI σc 405 0 0 0) := Ex.rf.sI (by decide)
        have hxm : Ex SMm σm (sI (sI (sI σt 1344 0 (O + o) 38) 1343 0 0 ((O + o + 1 : Nat) : Int)) 1342 0 0 ((q + 1 : Nat) : Int)) := ((((hxq.mono (by decide)).trans (t2.mono (by decide))).sI (by decide)).sI (by decide)).sI (by decide)
        have m42 : gI (sI (sI (sI σt 1344 0 (O + o) 38) 1343 0 0 ((O + o + 1 : Nat) : Int)) 1342 0 0 ((q + 1 : Nat) : Int)) 1342 0 0 = ((q + 1 : Nat) : Int) := gs
        have m43 : gI (sI (sI (sI σt 1344 0 (O + o) 38) 1343 0 0 ((O + o + 1 : Nat) : Int)) 1342 0 0 ((q + 1 : Nat) : Int)) 1343 0 0 = ((O + o + 1 : Nat) : Int) := by rw [ii (by omega), gs]
        have m45 : gI (sI (sI (sI σt 1344 0 (O + o) 38) 1343 0 0 ((O + o + 1 : Nat) : Int)) 1342 0 0 ((q + 1 : Nat) : Int)) 1345 0 0 = ((T + o + 1 : Nat) : Int) := by rw [ii (by omega), ii (by omega), ii (by omega), t4]
        have m44 : ∀ e, e < O + o → gI (sI (sI (sI σt 1344 0 (O + o) 38) 1343 0 0 ((O + o + 1 : Nat) : Int)) 1342 0 0 ((q + 1 : Nat) : Int)) 1344 0 e = gI σm 1344 0 e := fun e he => by rw [ii (by omega), ii (by omega), ii (by omega), t2.i (c := 1344) (by decide), xq _ _ _ (by decide)]
        have m44b : gI (sI (sI (sI σt 1344 0 (O + o) 38) 1343 0 0 ((O + o + 1 : Nat) : Int)) 1342 0 0 ((q + 1 : Nat) : Int)) 1344 0 (O + o) = 38 := by rw [ii (by omega), ii (by omega), gs]
        have m46 : ∀ e, gI (sI (sI (sI σt 1344 0 (O + o) 38) 1343 0 0 ((O + o + 1 : Nat) : Int)) 1342 0 0 ((q + 1 : Nat) : Int)) 1346 0 e = gI σt 1346 0 e := fun e => by rw [ii (by omega), ii (by omega), ii (by omega)]
        generalize sI (sI (sI σt 1344 0 (O + o) 38) 1343 0 0 ((O + o + 1 : Nat) : Int)) 1342 0 0 ((q + 1 : Nat) : Int) = σm2 at e1 hxm m42 m43 m44 m44b m45 m46
        refine GG.step (by rw [hwc, WC_step hb tc hqn e2]) (wh_stp e1) (hxc.mono (by decide)) hxm ?_
        refine ((ih (q + 1) (by omega) (by omega) _ σm2 (tc.ex hxc (by decide) (by decide)) (tm.ex hxm (by decide) (by decide)) (fun vv j hj => by rw [hxc.i (c := 400) (by decide), hxm.i (c := 1347) (by decide)]; exact hv vv j hj)).1 L D O T o 1 0) ?_
        refine ⟨gs, by rw [hxc.i (c := 404) (by decide)]; exact h2, m42, m43, m45, by omega, by omega, by omega, ⟨l1, Or.inr rfl, fun z => ?_, fun _ => ?_, fun j hj => by omega, ?_, ?_, ?_, fun vv => ?_⟩, ?_⟩
        · rw [m44 _ (by omega), m46, t6' _ (by omega)]; exact l3 z
        · rw [m44b, m46, t5]; exact ⟨rfl, hX⟩
        · rw [hxc.i (c := 401) (by decide)]; exact l6
        · rw [hxc.i (c := 402) (by decide)]; exact l7
        · rw [hxc.i (c := 403) (by decide)]; exact l8
        · rw [hxc.i (c := 401) (by decide), hxc.i (c := 402) (by decide), m46, m46, if_pos rfl, t5, hVX vv, (l9 vv).1]
          refine ⟨?_, rfl⟩
          split
          · rw [t6' _ (by omega)]
          · rfl
        · exact h10.mono (fun e he => hxc.i (by decide) _ _) (fun e he => hxc.i (by decide) _ _) (fun e he => hxc.i (by decide) _ _) (fun e he => m44 e (by omega)) (fun e he => by rw [m46, t6' _ (by omega)])
      · by_cases c3 : B q = 124
        · -- |
          have tself : sI σk 1342 0 0 (q : Int) = σk := sI_self (by rw [y2.i (c := 1342) (by decide), gs])
          have e1 : fX12_readRule_l19 (R : Int) (D : Int) 0 σm = some (.inl ((D : Int), 1, sI (sI (sI σk 1344 0 O 124) 1343 0 0 ((O + 1 : Nat) : Int)) 1342 0 0 ((q + 1 : Nat) : Int))) := by
            apply mj
            unfold fX12_readRule_j140 fX12_readRule_j154 fX12_binds fX12_readRule_j179
            have hpu := push_m (σ := σk) (q := q) (w := O) (s := 124) y3 (by omega) (by omega)
            rw [tself] at hpu
            rw [if_neg c2, if_pos c3, c3, if_neg (by decide), if_neg (by decide), if_pos rfl, bnk_some, y1, bnd_some, hpu, bnd_some]
          have e2 : fX3_take (B q) σc = some (1, sI (sI (sI σc 401 0 D (oo (gI σc 401 0 D) (gI σc 402 0 D))) 402 0 D 1) 405 0 0 0) := by
            have ej : ∀ b : Int, b01 b → fX3_takeJoint_j103 124 (D : Int) b σc = some (1, sI (sI (sI σc 401 0 D b) 402 0 D 1) 405 0 0 0) := by
              intro b hb2
              unfold fX3_takeJoint_j103 fX3_takeJoint_j114
              rw [ck_x (by omega) (by omega), ck_b hb2, h2, ck_x (by omega) (by omega), if_pos rfl, Int.toNat_natCast]
            rw [cj, c3]
            unfold fX3_takeJoint_j60 fX3_takeJoint_j98
            rw [if_pos rfl, h2, ck_x (by omega) (by omega), Int.toNat_natCast, ej 0 (Or.inl rfl), ej 1 (Or.inr rfl)]
            unfold oo
            by_cases w1 : gI σc 401 0 D = 0
            · rw [if_pos w1, if_pos w1, ck_x (by omega) (by omega)]
              by_cases w2 : gI σc 402 0 D = 0
              · rw [if_pos w2, if_pos w2]
              · rw [if_neg w2, if_neg w2]
            · rw [if_neg w1, if_neg w1]
          have hxc : Ex [401, 402, 405] σc (sI (sI (sI σc 401 0 D (oo (gI σc 401 0 D) (gI σc 402 0 D))) 402 0 D 1) 405 0 0 0) := ((Ex.rf.sI (by decide)).sI (by decide)).sI (by decide)
          have r1 : gI (sI (sI (sI σc 401 0 D (oo (gI σc 401 0 D) (gI σc 402 0 D))) 402 0 D 1) 405 0 0 0) 401 0 D = oo (gI σc 401 0 D) (gI σc 402 0 D) := by rw [ii (by omega), ii (by omega), gs]
          have r1b : ∀ e, e ≠ D → gI (sI (sI (sI σc 401 0 D (oo (gI σc 401 0 D) (gI σc 402 0 D))) 402 0 D 1) 405 0 0 0) 401 0 e = gI σc 401 0 e := fun e he => by rw [ii (by omega), ii (by omega), ii (by omega)]
          have r2 : gI (sI (sI (sI σc 401 0 D (oo (gI σc 401 0 D) (gI σc 402 0 D))) 402 0 D 1) 405 0 0 0) 402 0 D = 1 := by rw [ii (by omega), gs]
          have r2b : ∀ e, e ≠ D → gI (sI (sI (sI σc 401 0 D (oo (gI σc 401 0 D) (gI σc 402 0 D))) 402 0 D 1) 405 0 0 0) 402 0 e = gI σc 402 0 e := fun e he => by rw [ii (by omega), ii (by omega), ii (by omega)]
          have r5 : gI (sI (sI (sI σc 401 0 D (oo (gI σc 401 0 D) (gI σc 402 0 D))) 402 0 D 1) 405 0 0 0) 405 0 0 = 0 := gs
          generalize sI (sI (sI σc 401 0 D (oo (gI σc 401 0 D) (gI σc 402 0 D))) 402 0 D 1) 405 0 0 0 = σ4 at e2 hxc r1 r1b r2 r2b r5
          have hxm : Ex SMm σm (sI (sI (sI σk 1344 0 O 124) 1343 0 0 ((O + 1 : Nat) : Int)) 1342 0 0 ((q + 1 : Nat) : Int)) := ((((hxq.mono (by decide)).trans (y2.mono (by decide))).sI (by decide)).sI (by decide)).sI (by decide)
          have m42 : gI (sI (sI (sI σk 1344 0 O 124) 1343 0 0 ((O + 1 : Nat) : Int)) 1342 0 0 ((q + 1 : Nat) : Int)) 1342 0 0 = ((q + 1 : Nat) : Int) := gs
          have m43 : gI (sI (sI (sI σk 1344 0 O 124) 1343 0 0 ((O + 1 : Nat) : Int)) 1342 0 0 ((q + 1 : Nat) : Int)) 1343 0 0 = ((O + 1 : Nat) : Int) := by rw [ii (by omega), gs]
          have m45 : gI (sI (sI (sI σk 1344 0 O 124) 1343 0 0 ((O + 1 : Nat) : Int)) 1342 0 0 ((q + 1 : Nat) : Int)) 1345 0 0 = ((T + 1 : Nat) : Int) := by rw [ii (by omega), ii (by omega), ii (by omega), y4]
          have m44 : ∀ e, e < O → gI (sI (sI (sI σk 1344 0 O 124) 1343 0 0 ((O + 1 : Nat) : Int)) 1342 0 0 ((q + 1 : Nat) : Int)) 1344 0 e = gI σm 1344 0 e := fun e he => by rw [ii (by omega), ii (by omega), ii (by omega), y2.i (c := 1344) (by decide), xq _ _ _ (by decide)]
          have m44b : gI (sI (sI (sI σk 1344 0 O 124) 1343 0 0 ((O + 1 : Nat) : Int)) 1342 0 0 ((q + 1 : Nat) : Int)) 1344 0 O = 124 := by rw [ii (by omega), ii (by omega), gs]
          have m46 : ∀ e, gI (sI (sI (sI σk 1344 0 O 124) 1343 0 0 ((O + 1 : Nat) : Int)) 1342 0 0 ((q + 1 : Nat) : Int)) 1346 0 e = gI σk 1346 0 e := fun e => by rw [ii (by omega), ii (by omega), ii (by omega)]
          generalize sI (sI (sI σk 1344 0 O 124) 1343 0 0 ((O + 1 : Nat) : Int)) 1342 0 0 ((q + 1 : Nat) : Int) = σm2 at e1 hxm m42 m43 m44 m44b m45 m46
          refine GG.step (by rw [hwc, WC_step hb tc hqn e2]) (wh_stp e1) (hxc.mono (by decide)) hxm ?_
          refine ((ih (q + 1) (by omega) (by omega) σ4 σm2 (tc.ex hxc (by decide) (by decide)) (tm.ex hxm (by decide) (by decide)) (fun vv j hj => by rw [hxc.i (c := 400) (by decide), hxm.i (c := 1347) (by decide)]; exact hv vv j hj)).1 L D O T 1 0 0) ?_
          refine ⟨r5, by rw [hxc.i (c := 404) (by decide)]; exact h2, m42, m43, m45, by omega, by omega, by omega, ⟨Or.inr rfl, Or.inl rfl, fun _ => ?_, fun z => by omega, fun j hj => by omega, ?_, Or.inr r2, ?_, fun vv => ?_⟩, ?_⟩
          · rw [m44b, m46, y5]; exact ⟨rfl, hY⟩
          · rw [r1]; exact b01_oo _ _
          · rw [hxc.i (c := 403) (by decide)]; exact l8
          · rw [r1, r2, m46, if_pos rfl, y5, hVY vv]
            exact ⟨rfl, rfl⟩
          · exact h10.mono (fun e he => r1b e (by omega)) (fun e he => r2b e (by omega)) (fun e he => hxc.i (by decide) _ _) (fun e he => m44 e (by omega)) (fun e he => by rw [m46, y6' _ (by omega)])
        · -- a fault
          refine ⟨(q : Int), sI σc 405 0 0 0, sI σm 1342 0 0 (q : Int), ?_, ?_, Ex.rf.sI (by decide), hxq.mono (by decide), Or.inr (by omega), fun z => by omega⟩
          · rw [hwc]
            refine WC_bad hb tc hqn ?_
            rw [cj]
            unfold fX3_takeJoint_j60 fX3_takeJoint_j114
            rw [if_neg c3, if_neg c3, if_neg c2]
          · have e1 : fX12_readRule_l19 (R : Int) (D : Int) 0 σm = some (.inr (.inr (.inl (sI σm 1342 0 0 (q : Int))))) := by
              apply mj
              unfold fX12_readRule_j140
              rw [if_neg c2, if_neg c3]
            unfold WM
            rw [wh_inr e1, bnk_some]
            show fX12_readRule_j174 _ = _
            unfold fX12_readRule_j174
            rw [gs]
theorem sim_all {V : Prop} {R n : Nat} {B : Nat → Int} (hb : TXB R n B) (m : Nat) : SIM V R n B m := by
  induction m with
  | zero => intro p hp hm; omega
  | succ m ih =>
    intro p hp hm σc σm tc tm hv
    exact ⟨fun L D O T o a k h => sim_W hb ih hp hm tc tm hv h, fun L D O T o a k h => sim_J hb ih hp hm tc tm hv h⟩
/-- both readers over one text -/
theorem read_cm {V : Prop} {R n : Nat} {B : Nat → Int} (hb : TXB R n B) {σ τ : St} (tc : TXC σ R n B) (tm : TXM τ R n B) (hv : V → ∀ j, j < 8 → gI σ 400 0 j = gI τ 1347 0 j) : ∃ r σ' τ', fX3_read R σ = some (r, σ') ∧ fX12_readRule (R : Int) τ = some (r, τ') ∧ Ex SCc σ σ' ∧ Ex SMm τ τ' ∧ (r = -9 ∨ (0 ≤ r ∧ r ≤ 80)) ∧ (r = -9 → b01 (gI τ' 1346 0 0) ∧ b01 (gI σ' 401 0 0) ∧ b01 (gI σ' 402 0 0) ∧ (V → gI τ' 1346 0 0 = oo (gI σ' 401 0 0) (gI σ' 402 0 0))) := by
  have hxc : Ex [401, 402, 403, 404, 405] σ (sI (sI (sI (sI (sI σ 404 0 0 0) 401 0 0 0) 402 0 0 1) 403 0 0 0) 405 0 0 0) := ((((Ex.rf.sI (by decide)).sI (by decide)).sI (by decide)).sI (by decide)).sI (by decide)
  have hxm : Ex [1342, 1343, 1345] τ (sI (sI (sI τ 1342 0 0 0) 1343 0 0 0) 1345 0 0 0) := ((Ex.rf.sI (by decide)).sI (by decide)).sI (by decide)
  have eo : fX3_openLevel (sI σ 404 0 0 0) = some ((), sI (sI (sI (sI (sI σ 404 0 0 0) 401 0 0 0) 402 0 0 1) 403 0 0 0) 405 0 0 0) := by
    unfold fX3_openLevel
    rw [gs, ck_x (by decide) (by decide), ck_x (by decide) (by decide), ck_x (by decide) (by decide)]; rfl
  obtain ⟨r, a, b, g1, g2, g3, g4, g5, g6⟩ := (sim_all (V := V) hb (n + 1) 0 (by omega) (by omega) _ _ (tc.ex hxc (by decide) (by decide)) (tm.ex hxm (by decide) (by decide)) (fun v j hj => by rw [hxc.i (c := 400) (by decide), hxm.i (c := 1347) (by decide)]; exact hv v j hj)).1 [] 0 0 0 0 0 0 (by
    refine ⟨gs, by rw [ii (by omega), ii (by omega), ii (by omega), ii (by omega), gs]; rfl, by rw [ii (by omega), ii (by omega), gs]; rfl, by rw [ii (by omega), gs]; rfl, gs, by omega, by omega, by omega, ⟨Or.inl rfl, Or.inl rfl, fun z => by omega, fun z => by omega, fun j hj => by omega, Or.inl ?_, Or.inr ?_, ?_, fun v => ⟨?_, ?_⟩⟩, rfl, rfl, rfl⟩
    · rw [ii (by omega), ii (by omega), ii (by omega), gs]
    · rw [ii (by omega), ii (by omega), gs]
    · rw [ii (by omega), gs]; rfl
    · rw [ii (by omega), ii (by omega), ii (by omega), gs]; rfl
    · rw [ii (by omega), ii (by omega), gs]; rfl)
  refine ⟨r, a, b, ?_, ?_, (hxc.mono (by decide)).trans g3, (hxm.mono (by decide)).trans g4, g5, g6⟩
  · unfold fX3_read
    rw [eo, bnd_some]
    exact g1
  · unfold fX12_readRule
    exact g2
