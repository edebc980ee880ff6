/-! the model lays the network -/
def SCm : List Nat := [1384, 1385, 1386, 1387, 1388, 1389, 1390, 1391]
def SCe : List Nat := [1384, 1385, 1386, 1387, 1388]
def EG (τ : St) (k : Nat) (u v : Nat) (r p : Int) : Prop := (gI τ 1385 0 (2 * k) = (u : Int) ∧ gI τ 1386 0 (2 * k) = (v : Int) ∧ gI τ 1387 0 (2 * k) = r ∧ gI τ 1388 0 (2 * k) = p) ∧ gI τ 1385 0 (2 * k + 1) = (v : Int) ∧ gI τ 1386 0 (2 * k + 1) = (u : Int) ∧ gI τ 1387 0 (2 * k + 1) = 0 ∧ gI τ 1388 0 (2 * k + 1) = - p
def Kp (τ τ' : St) (K : Nat) : Prop := ∀ k, k < K → ∀ u v r p, EG τ k u v r p → EG τ' k u v r p
theorem Kp.trans {τ1 τ2 τ3 : St} {K K' : Nat} (h1 : Kp τ1 τ2 K) (h2 : Kp τ2 τ3 K') (hk : K ≤ K') : Kp τ1 τ3 K := fun k q u v r p h => h2 k (by omega) u v r p (h1 k q u v r p h)
theorem edge_m {τ : St} {K u v : Nat} {r p : Int} (hK : gI τ 1384 0 0 = ((2 * K : Nat) : Int)) (hb : K ≤ 98) (hp : -10000 ≤ p ∧ p ≤ 10000) : ∃ τ', fX12_edge (u : Int) (v : Int) r p τ = some ((), τ') ∧ Ex SCe τ τ' ∧ gI τ' 1384 0 0 = ((2 * (K + 1) : Nat) : Int) ∧ EG τ' K u v r p ∧ Kp τ τ' K := by
  have e1 : ((2 * K : Nat) : Int) + 1 = ((2 * K + 1 : Nat) : Int) := by omega
  have e2 : ((2 * K : Nat) : Int) + 2 = ((2 * (K + 1) : Nat) : Int) := by omega
  have w1 : ∀ {α : Type} {k : Option α}, ck (0 ≤ ((2 * K : Nat) : Int) ∧ ((2 * K : Nat) : Int) < 200) k = k := ck_x (by omega) (by omega)
  have w2 : ∀ {α : Type} {k : Option α}, ck (0 ≤ ((2 * K + 1 : Nat) : Int) ∧ ((2 * K + 1 : Nat) : Int) < 200) k = k := ck_x (by omega) (by omega)
  have w3 : ∀ {α : Type} {k : Option α}, ck (inr ((2 * K + 1 : Nat) : Int)) k = k := ck_i (by omega) (by omega)
  refine ⟨sI (sI (sI (sI (sI (sI (sI (sI (sI τ 1385 0 (2 * K) (u : Int)) 1386 0 (2 * K) (v : Int)) 1387 0 (2 * K) r) 1388 0 (2 * K) p) 1385 0 (2 * K + 1) (v : Int)) 1386 0 (2 * K + 1) (u : Int)) 1387 0 (2 * K + 1) 0) 1388 0 (2 * K + 1) (-p)) 1384 0 0 ((2 * (K + 1) : Nat) : Int), ?_, ?_, ?_, ?_, ?_⟩
  · unfold fX12_edge
    rw [hK, e1, e2, Int.toNat_natCast, Int.toNat_natCast, w1, w1, w1, w1, w3, w2, w3, w2, w3, w2, w3, ck_i (by omega) (by omega), w2, ck_i (by omega) (by omega)]
  · exact ((((((((Ex.rf.sI (by decide)).sI (by decide)).sI (by decide)).sI (by decide)).sI (by decide)).sI (by decide)).sI (by decide)).sI (by decide)).sI (by decide)
  · rw [gs]
  · refine ⟨⟨?_, ?_, ?_, ?_⟩, ?_, ?_, ?_, ?_⟩ <;> simp [gI_sI]
  · intro k hk u' v' r' p' h
    have n1 : ¬ (2 * k = 2 * K) := by omega
    have n2 : ¬ (2 * k = 2 * K + 1) := by omega
    have n3 : ¬ (2 * k + 1 = 2 * K) := by omega
    have n4 : ¬ (2 * k + 1 = 2 * K + 1) := by omega
    have n5 : ¬ (k = K) := by omega
    obtain ⟨⟨a1, a2, a3, a4⟩, a5, a6, a7, a8⟩ := h
    refine ⟨⟨?_, ?_, ?_, ?_⟩, ?_, ?_, ?_, ?_⟩ <;> (rw [ii (by omega), ii (by omega), ii (by omega), ii (by omega), ii (by omega), ii (by omega), ii (by omega), ii (by omega), ii (by omega)]; assumption)
def frH (σ : St) (h : Nat) : Nat := (gI σ 301 0 h).toNat
def cnH (σ : St) (h : Nat) : Nat := (gI σ 302 0 h).toNat + 1 - (gI σ 301 0 h).toNat
def eaH (σ : St) (h w : Nat) : Int := gI σ 303 0 h * gI σ 304 0 w / 100
theorem RH.fc {σ : St} (h : RH σ) : ∀ i, i < hlN σ → gI σ 301 0 i = (frH σ i : Int) ∧ gI σ 302 0 i = ((frH σ i + cnH σ i : Nat) : Int) - 1 ∧ frH σ i + cnH σ i ≤ 9 ∧ 1 ≤ cnH σ i := by
  intro i hi
  obtain ⟨-, -, -, h4, -⟩ := h.hl
  obtain ⟨-, -, -, a, b, c, -⟩ := h4 i hi
  unfold frH cnH
  omega
theorem ea_bd {σ : St} {w h : Nat} (hH : RH σ) (hw : w < 9) (hh : h < hlN σ) : 0 ≤ eaH σ h w ∧ eaH σ h w ≤ 9999 := by
  obtain ⟨-, -, b3, b4⟩ := gn_bd (w := w) (h := h) hH hw hh
  unfold eaH
  omega
theorem earns_m {σ τ : St} {w h : Nat} (hH : RH σ) (hx : Ex SCm σ τ) (hw : w < 9) (hh : h < hlN σ) : fX12_earns (h : Int) (w : Int) τ = some (eaH σ h w) := by
  obtain ⟨-, -, b3, b4⟩ := gn_bd (w := w) (h := h) hH hw hh
  obtain ⟨-, -, h8, h4, h5, -⟩ := hH.hl
  have c1 := (h4 h hh).2.2.1
  have c2 := (h5 w hw).1
  unfold fX12_earns
  rw [ck_x (by omega) (by omega), ck_x (by omega) (by omega), Int.toNat_natCast, Int.toNat_natCast, hx.i (c := 1381) (by decide), hx.i (c := 1382) (by decide), c1, c2, ck_i (by omega) (by omega), idivI (by omega) (by omega)]
  rfl
def cpW (σ : St) (F : Nat → Int) (w : Nat) : Int := (prN_ σ : Int) - sumN (fun h => if F h = (w : Int) then 1 else 0) (hlN σ)
def bsW (σ : St) (F : Nat → Int) (w : Nat) : Int := sumN (fun h => if F h = (w : Int) then eaH σ h w else 0) (hlN σ)
theorem bs_bd {σ : St} {F : Nat → Int} {w : Nat} (hH : RH σ) (hw : w < 9) : ∀ i, i ≤ hlN σ → (0 ≤ sumN (fun h => if F h = (w : Int) then eaH σ h w else 0) i ∧ sumN (fun h => if F h = (w : Int) then eaH σ h w else 0) i ≤ 9999 * i) ∧ (0 ≤ sumN (fun h => if F h = (w : Int) then (1 : Int) else 0) i ∧ sumN (fun h => if F h = (w : Int) then (1 : Int) else 0) i ≤ 1 * i) := by
  intro i hi
  have a := sumN_bd2 (g := fun h => if F h = (w : Int) then eaH σ h w else 0) (lo := 0) (hi := 9999) i (fun h hh => by
    have := ea_bd (w := w) (h := h) hH hw (by omega)
    show 0 ≤ (if F h = (w : Int) then eaH σ h w else 0) ∧ (if F h = (w : Int) then eaH σ h w else 0) ≤ 9999
    split <;> omega)
  have b := sumN_bd2 (g := fun h => if F h = (w : Int) then (1 : Int) else 0) (lo := 0) (hi := 1) i (fun h hh => by
    show 0 ≤ (if F h = (w : Int) then (1 : Int) else 0) ∧ (if F h = (w : Int) then (1 : Int) else 0) ≤ 1
    split <;> omega)
  omega
theorem week_in {σ τ : St} {F : Nat → Int} {w : Nat} {x : Int} (hH : RH σ) (hx : Ex SCm σ τ) (hF : ∀ h, h < hlN σ → gI τ 1391 0 h = F h) (hw : w < 9) (hxb : 0 ≤ x ∧ x ≤ 1000000) : wh (fun s => fX12_earnsMost_l23 (w : Int) τ s.1 s.2.1 s.2.2) ((x, (prN_ σ : Int), 0)) = some (x + bsW σ F w, cpW σ F w) := by
  obtain ⟨e1, e2, h8, h4, h5, e6, e7, e8⟩ := hH.hl
  have hb := bs_bd (F := F) hH hw
  have := wh_seq (f := fun s => fX12_earnsMost_l23 (w : Int) τ s.1 s.2.1 s.2.2) (r := (x + bsW σ F w, cpW σ F w)) (hlN σ) (fun i => (x + sumN (fun h => if F h = (w : Int) then eaH σ h w else 0) i, (prN_ σ : Int) - sumN (fun h => if F h = (w : Int) then (1 : Int) else 0) i, (i : Int))) (fun i hi => by
    show fX12_earnsMost_l23 (w : Int) τ (x + sumN (fun h => if F h = (w : Int) then eaH σ h w else 0) i) ((prN_ σ : Int) - sumN (fun h => if F h = (w : Int) then (1 : Int) else 0) i) (i : Int) = some (.inl (x + (sumN (fun h => if F h = (w : Int) then eaH σ h w else 0) i + (if F i = (w : Int) then eaH σ i w else 0)), (prN_ σ : Int) - (sumN (fun h => if F h = (w : Int) then (1 : Int) else 0) i + (if F i = (w : Int) then (1 : Int) else 0)), ((i + 1 : Nat) : Int)))
    have b1 := hb i (by omega)
    have b2 := ea_bd (w := w) (h := i) hH hw hi
    unfold fX12_earnsMost_l23 fX12_earnsMost_j56
    rw [hx.i (c := 1378) (by decide), e2, if_neg (by omega), ck_x (by omega) (by omega), Int.toNat_natCast, hF i hi]
    by_cases c : F i = (w : Int)
    · rw [if_pos c, if_pos c, if_pos c, ck_i (by omega) (by omega), earns_m hH hx hw hi, bnk_some, ck_i (by omega) (by omega), ck_i (by omega) (by omega), Int.add_assoc, ← Int.sub_eq_add_neg, Int.sub_sub]; rfl
    · rw [if_neg c, if_neg c, if_neg c, ck_i (by omega) (by omega), Int.add_zero, Int.add_zero]; rfl) (by
    show fX12_earnsMost_l23 (w : Int) τ (x + bsW σ F w) (cpW σ F w) ((hlN σ : Nat) : Int) = _
    unfold fX12_earnsMost_l23
    rw [hx.i (c := 1378) (by decide), e2, if_pos (by omega)])
  have z : x + sumN (fun h => if F h = (w : Int) then eaH σ h w else 0) 0 = x := by show x + 0 = x; omega
  have z2 : (prN_ σ : Int) - sumN (fun h => if F h = (w : Int) then (1 : Int) else 0) 0 = (prN_ σ : Int) := by show (prN_ σ : Int) - 0 = (prN_ σ : Int); omega
  simp only [z, z2] at this
  exact this
theorem weeks_m {σ τ : St} {F : Nat → Int} (hH : RH σ) (hx : Ex SCm σ τ) (hF : ∀ h, h < hlN σ → gI τ 1391 0 h = F h) : ∀ i w, w + i = 9 → ∀ τ1, Ex SCe τ τ1 → gI τ1 1384 0 0 = ((2 * w : Nat) : Int) → (∀ k, k < w → EG τ1 k (10 + k) 1 (cpW σ F k) 0 ∧ 0 ≤ cpW σ F k) → (∃ τ', wh (fun s => fX12_earnsMost_l9 s.1 s.2.1 s.2.2) ((sumN (bsW σ F) w, (w : Int), τ1)) = some (.inl τ') ∧ Ex SCe τ τ' ∧ ∃ w, w < 9 ∧ cpW σ F w < 0) ∨ (∃ τ', wh (fun s => fX12_earnsMost_l9 s.1 s.2.1 s.2.2) ((sumN (bsW σ F) w, (w : Int), τ1)) = some (.inr (sumN (bsW σ F) 9, τ')) ∧ Ex SCe τ τ' ∧ gI τ' 1384 0 0 = ((2 * 9 : Nat) : Int) ∧ ∀ k, k < 9 → EG τ' k (10 + k) 1 (cpW σ F k) 0 ∧ 0 ≤ cpW σ F k) := by
  obtain ⟨e1, e2, h8, h4, h5, e6, e7, e8⟩ := hH.hl
  intro i
  induction i with
  | zero =>
    intro w hw τ1 hE hK hk
    have : w = 9 := by omega
    subst this
    refine .inr ⟨τ1, wh_inr ?_, hE, hK, hk⟩
    show fX12_earnsMost_l9 (sumN (bsW σ F) 9) ((9 : Nat) : Int) τ1 = _
    unfold fX12_earnsMost_l9
    rw [if_pos (by decide)]
  | succ i ih =>
    intro w hw τ1 hE hK hk
    have hx1 : Ex SCm σ τ1 := hx.trans (hE.mono (by decide))
    have hF1 : ∀ h, h < hlN σ → gI τ1 1391 0 h = F h := fun h hh => by rw [hE.i (c := 1391) (by decide)]; exact hF h hh
    have hsb := sumN_bd2 (g := bsW σ F) (lo := 0) (hi := 79992) w (fun k hk' => by
      have := (bs_bd (F := F) (w := k) hH (by omega) (hlN σ) (Nat.le_refl _)).1
      unfold bsW; omega)
    have hw' := week_in hH hx1 hF1 (w := w) (by omega) (x := sumN (bsW σ F) w) (by omega)
    have hc8 : cpW σ F w ≤ 8 := by
      have := (bs_bd (F := F) (w := w) hH (by omega) (hlN σ) (Nat.le_refl _)).2
      unfold cpW; omega
    have st : fX12_earnsMost_l9 (sumN (bsW σ F) w) (w : Int) τ1 = fX12_earnsMost_j62 (sumN (bsW σ F) w + bsW σ F w) (w : Int) (cpW σ F w) τ1 := by
      unfold fX12_earnsMost_l9 fX12_earnsMost_j23
      rw [if_neg (by omega), hx1.i (c := 1383) (by decide), e7]
      exact bnk_of hw' rfl
    by_cases c : 0 ≤ cpW σ F w
    · obtain ⟨τ2, d1, d2, d3, d4, d5⟩ := edge_m (u := 10 + w) (v := 1) (r := cpW σ F w) (p := 0) hK (by omega) (by omega)
      have st2 : fX12_earnsMost_l9 (sumN (bsW σ F) w) (w : Int) τ1 = some (.inl (sumN (bsW σ F) (w + 1), ((w + 1 : Nat) : Int), τ2)) := by
        rw [st]
        unfold fX12_earnsMost_j62
        rw [if_pos c, ck_i (by omega) (by omega), show (10 : Int) + (w : Int) = ((10 + w : Nat) : Int) by omega, show (1 : Int) = ((1 : Nat) : Int) by rfl, d1, bnd_some, ck_i (by omega) (by omega)]; rfl
      rcases ih (w + 1) (by omega) τ2 (hE.trans d2) d3 (fun k hk' => by
        by_cases z : k = w
        · rw [z]; exact ⟨d4, c⟩
        · have := hk k (by omega)
          exact ⟨d5 k (by omega) _ _ _ _ this.1, this.2⟩) with ⟨τ', k1, k2⟩ | ⟨τ', k1, k2⟩
      · exact .inl ⟨τ', wh_inl st2 k1, k2⟩
      · exact .inr ⟨τ', wh_inl st2 k1, k2⟩
    · refine .inl ⟨τ1, wh_inr ?_, hE, w, by omega, by omega⟩
      show fX12_earnsMost_l9 (sumN (bsW σ F) w) (w : Int) τ1 = _
      rw [st]
      unfold fX12_earnsMost_j62
      rw [if_neg c]
