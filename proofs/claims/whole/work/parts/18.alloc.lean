/-! objects and arrays that are made -/
def upA (ad : Nat → Nat → Nat) (K j q : Nat) : Nat → Nat → Nat := fun K2 j2 => if K2 = K ∧ j2 = j then q else ad K2 j2
def nwO (σ : St) (K : Nat) : St := (fun c j e => if (c / 100 = K + 1 ∧ la c = none) ∧ j = gN σ K then 0 else gI σ c j e, σ.2.1, fun c j e => if c / 100 = K + 51 ∧ j = gN σ K then none else gP σ c j e, fun K2 => if K2 = K then gN σ K + 1 else gN σ K2)
def nwA (σ : St) (a : Nat) : St := (fun c j e => if c = a ∧ j = gN σ a then 0 else gI σ c j e, fun c j e => if c = a ∧ j = gN σ a then 0 else gJ σ c j e, fun c j e => if c = a ∧ j = gN σ a then none else gP σ c j e, fun K2 => if K2 = a then gN σ a + 1 else gN σ K2)
theorem gI_nwO (σ : St) (K c j e : Nat) : gI (nwO σ K) c j e = if (c / 100 = K + 1 ∧ la c = none) ∧ j = gN σ K then 0 else gI σ c j e := rfl
theorem gJ_nwO (σ : St) (K c j e : Nat) : gJ (nwO σ K) c j e = gJ σ c j e := rfl
theorem gP_nwO (σ : St) (K c j e : Nat) : gP (nwO σ K) c j e = if c / 100 = K + 51 ∧ j = gN σ K then none else gP σ c j e := rfl
theorem gN_nwO (σ : St) (K K2 : Nat) : gN (nwO σ K) K2 = if K2 = K then gN σ K + 1 else gN σ K2 := rfl
theorem gI_nwA (σ : St) (a c j e : Nat) : gI (nwA σ a) c j e = if c = a ∧ j = gN σ a then 0 else gI σ c j e := rfl
theorem gJ_nwA (σ : St) (a c j e : Nat) : gJ (nwA σ a) c j e = if c = a ∧ j = gN σ a then 0 else gJ σ c j e := rfl
theorem gP_nwA (σ : St) (a c j e : Nat) : gP (nwA σ a) c j e = if c = a ∧ j = gN σ a then none else gP σ c j e := rfl
theorem gN_nwA (σ : St) (a K2 : Nat) : gN (nwA σ a) K2 = if K2 = a then gN σ a + 1 else gN σ K2 := rfl
theorem vo_up {ad : Nat → Nat → Nat} {K j q K2 : Nat} {r : Option Nat} (h : ∀ x, r = some x → ¬ (K2 = K ∧ x = j)) : vo (upA ad K j q) K2 r = vo ad K2 r := by
  cases r with
  | none => rfl
  | some x =>
    show Value.ref (upA ad K j q K2 x) = Value.ref (ad K2 x)
    unfold upA
    rw [if_neg (h x rfl)]
theorem map_up {ad : Nat → Nat → Nat} {K j q K2 : Nat} {r : Option Nat} (h : ∀ x, r = some x → ¬ (K2 = K ∧ x = j)) : r.map (upA ad K j q K2) = r.map (ad K2) := by
  cases r with
  | none => rfl
  | some x =>
    show some (upA ad K j q K2 x) = some (ad K2 x)
    unfold upA
    rw [if_neg (h x rfl)]
theorem enc_up {cA : Nat → ClassId} {ad : Nat → Nat → Nat} {σ : St} {K q K2 j2 : Nat} (h : PW σ) (hj : j2 < gN σ K2) : enc cA (upA ad K (gN σ K) q) σ K2 j2 = enc cA ad σ K2 j2 := by
  cases hl : la K2 with
  | none =>
    rw [enc_obj hl, enc_obj hl]
    congr 2
    unfold encO
    apply List.ext_getElem?
    intro k
    rw [List.getElem?_mapIdx, List.getElem?_mapIdx]
    cases ht : (ftl K2)[k]? with
    | none => rfl
    | some t =>
      show some (encF (upA ad K (gN σ K) q) σ K2 j2 k t) = some (encF ad σ K2 j2 k t)
      congr 1
      unfold encF
      by_cases h1 : t ≤ 1
      · rw [if_pos h1, if_pos h1]
      · rw [if_neg h1, if_neg h1]
        have hp := h.2 K2 k t j2
        by_cases h2 : t = 2
        · rw [if_pos h2, if_pos h2]
          refine vo_up (fun x hx z => ?_)
          have := hp x ht h1 hj hx
          rw [if_pos h2, z.1, z.2] at this
          exact Nat.lt_irrefl _ this
        · rw [if_neg h2, if_neg h2]
          refine vo_up (fun x hx z => ?_)
          have := hp x ht h1 hj hx
          rw [if_neg h2, z.1, z.2] at this
          exact Nat.lt_irrefl _ this
  | some p =>
    obtain ⟨et, n⟩ := p
    rw [enc_arr hl, enc_arr hl]
    congr 1
    unfold encA
    by_cases h1 : et ≤ 1
    · rw [if_pos h1, if_pos h1]
    · rw [if_neg h1, if_neg h1]
      by_cases h2 : et = 2
      · rw [if_pos h2, if_pos h2]
      · rw [if_neg h2, if_neg h2]
        have e3 : et = (et - 3) + 3 := by omega
        rw [show (fun e => (gP σ K2 j2 e).map (upA ad K (gN σ K) q (et - 3))) = (fun e => (gP σ K2 j2 e).map (ad (et - 3))) from funext fun e => map_up (fun x hx z => by
          have := h.1 K2 (et - 3) n j2 e x (by rw [← e3]; exact hl) hj hx
          rw [z.1, z.2] at this
          exact Nat.lt_irrefl _ this)]
theorem div_co {K k : Nat} (h : k < 100) : co K k / 100 = K + 1 := by unfold co; omega
theorem div_pco {K k : Nat} (h : k < 100) : pco K k / 100 = K + 51 := by unfold pco co; omega
theorem enc_nwO {cA : Nat → ClassId} {ad : Nat → Nat → Nat} {σ : St} {K K2 j2 : Nat} (hj : j2 < gN σ K2) : enc cA ad (nwO σ K) K2 j2 = enc cA ad σ K2 j2 := by
  refine enc_congr (fun k t h1 h2 => ?_) (fun k t h1 h2 => ?_) (fun q hq e => ⟨?_, rfl, ?_⟩)
  · rw [gI_nwO, if_neg]
    rintro ⟨⟨z1, -⟩, z2⟩
    rw [div_co (tb_K h1).2] at z1
    have : K2 = K := by omega
    subst this
    omega
  · rw [gP_nwO, if_neg]
    rintro ⟨z1, z2⟩
    rw [div_pco (tb_K h1).2] at z1
    have : K2 = K := by omega
    subst this
    omega
  · rw [gI_nwO, if_neg]
    rintro ⟨⟨-, z1⟩, -⟩
    rw [hq] at z1; cases z1
  · rw [gP_nwO, if_neg]
    rintro ⟨z1, -⟩
    have := la_lt hq
    omega
theorem enc_nwA {cA : Nat → ClassId} {ad : Nat → Nat → Nat} {σ : St} {a K2 j2 : Nat} {q0 : Nat × Nat} (ha : la a = some q0) (hj : j2 < gN σ K2) : enc cA ad (nwA σ a) K2 j2 = enc cA ad σ K2 j2 := by
  have hl := la_lt ha
  refine enc_congr (fun k t h1 h2 => ?_) (fun k t h1 h2 => ?_) (fun q hq e => ⟨?_, ?_, ?_⟩)
  · rw [gI_nwA, if_neg]
    rintro ⟨z1, -⟩
    have := (tb_t h1).1 h2
    rw [z1, ha] at this; cases this
  · rw [gP_nwA, if_neg]
    rintro ⟨z1, -⟩
    unfold pco at z1
    omega
  · rw [gI_nwA, if_neg]
    rintro ⟨z1, z2⟩
    subst z1; omega
  · rw [gJ_nwA, if_neg]
    rintro ⟨z1, z2⟩
    subst z1; omega
  · rw [gP_nwA, if_neg]
    rintro ⟨z1, z2⟩
    subst z1; omega
theorem PW_nwO {σ : St} {K : Nat} (hK : la K = none) (h : PW σ) : PW (nwO σ K) := by
  have mono : ∀ x, gN σ x ≤ gN (nwO σ K) x := fun x => by
    rw [gN_nwO]
    by_cases q : x = K
    · rw [if_pos q, q]; omega
    · rw [if_neg q]; omega
  constructor
  · intro a K2 n j e x h1 h2 h3
    have ha := la_lt h1
    rw [gP_nwO, if_neg (fun z => by omega)] at h3
    rw [gN_nwO, if_neg (fun z => by rw [z, hK] at h1; cases h1)] at h2
    exact Nat.lt_of_lt_of_le (h.1 a K2 n j e x h1 h2 h3) (mono _)
  · intro K2 k t j x h1 h2 h3 h4
    rw [gP_nwO] at h4
    by_cases q : pco K2 k / 100 = K + 51 ∧ j = gN σ K
    · rw [if_pos q] at h4; cases h4
    · rw [if_neg q] at h4
      refine Nat.lt_of_lt_of_le (h.2 K2 k t j x h1 h2 ?_ h4) (mono _)
      rw [gN_nwO] at h3
      by_cases z : K2 = K
      · rw [if_pos z] at h3
        rw [z]
        have : j ≠ gN σ K := fun z2 => q ⟨by rw [div_pco (tb_K h1).2, z], z2⟩
        omega
      · rw [if_neg z] at h3; exact h3
theorem PW_nwA {σ : St} {a : Nat} {q0 : Nat × Nat} (ha : la a = some q0) (h : PW σ) : PW (nwA σ a) := by
  have mono : ∀ x, gN σ x ≤ gN (nwA σ a) x := fun x => by
    rw [gN_nwA]
    by_cases q : x = a
    · rw [if_pos q, q]; omega
    · rw [if_neg q]; omega
  constructor
  · intro a2 K2 n j e x h1 h2 h3
    rw [gP_nwA] at h3
    by_cases q : a2 = a ∧ j = gN σ a
    · rw [if_pos q] at h3; cases h3
    · rw [if_neg q] at h3
      refine Nat.lt_of_lt_of_le (h.1 a2 K2 n j e x h1 ?_ h3) (mono _)
      rw [gN_nwA] at h2
      by_cases z : a2 = a
      · rw [if_pos z] at h2
        have : j ≠ gN σ a := fun z2 => q ⟨z, z2⟩
        rw [z]; omega
      · rw [if_neg z] at h2; exact h2
  · intro K2 k t j x h1 h2 h3 h4
    have hl := la_lt ha
    rw [gP_nwA, if_neg (fun z => by have := z.1; unfold pco at this; omega)] at h4
    refine Nat.lt_of_lt_of_le (h.2 K2 k t j x h1 h2 ?_ h4) (mono _)
    rw [gN_nwA, if_neg (fun z => by have := (tb_t h1).2; rw [z, ha] at this; cases this)] at h3
    exact h3
theorem inr_nwO {σ : St} {K : Nat} (h : ∀ c j e, inr (gI σ c j e)) : ∀ c j e, inr (gI (nwO σ K) c j e) := by
  intro c j e
  rw [gI_nwO]
  split
  · decide
  · exact h c j e
theorem inr_nwA {σ : St} {a : Nat} (h : ∀ c j e, inr (gI σ c j e)) : ∀ c j e, inr (gI (nwA σ a) c j e) := by
  intro c j e
  rw [gI_nwA]
  split
  · decide
  · exact h c j e
theorem inq_nwA {σ : St} {a : Nat} (h : ∀ c j e, inq (gJ σ c j e)) : ∀ c j e, inq (gJ (nwA σ a) c j e) := by
  intro c j e
  rw [gJ_nwA]
  split
  · decide
  · exact h c j e
/-- a cell is made -/
theorem WD.nw {sb : Bool} {D : va_G} {cA : Nat → ClassId} {lo : Nat} {ad : Nat → Nat → Nat} {σ σ2 : St} {H H2 : Heap} {K : Nat} (h : WD sb D cA lo ad σ H) (hN : ∀ K2, gN σ2 K2 = if K2 = K then gN σ K + 1 else gN σ K2) (hSF : sb = true → SF σ → SF σ2) (hPW : PW σ2) (hr : ∀ c j e, inr (gI σ2 c j e)) (hq : ∀ c j e, inq (gJ σ2 c j e)) (hlo : lo ≤ H.size)
    (hat : va_at D vwCl (H.size, enc cA (upA ad K (gN σ K) H.size) σ2 K (gN σ K)) H2) (ho : ∀ K2 j2, j2 < gN σ K2 → enc cA (upA ad K (gN σ K) H.size) σ2 K2 j2 = enc cA ad σ K2 j2) (hH : ∀ q : Nat, q < H.size → H2[q]? = H[q]?) : WD sb D cA lo (upA ad K (gN σ K) H.size) σ2 H2 := by
  obtain ⟨h1, h2, h3, -, -, h6, h7⟩ := h
  have cas : ∀ K2 j2, j2 < gN σ2 K2 → (K2 = K ∧ j2 = gN σ K) ∨ j2 < gN σ K2 := by
    intro K2 j2 hj
    rw [hN] at hj
    by_cases z : K2 = K
    · rw [if_pos z] at hj
      rcases Nat.lt_or_ge j2 (gN σ K) with q | q
      · exact Or.inr (by rw [z]; exact q)
      · exact Or.inl ⟨z, by omega⟩
    · rw [if_neg z] at hj; exact Or.inr hj
  have old : ∀ K2 j2, j2 < gN σ K2 → upA ad K (gN σ K) H.size K2 j2 = ad K2 j2 := by
    intro K2 j2 hj
    unfold upA
    rw [if_neg (fun z => by rw [z.1, z.2] at hj; exact Nat.lt_irrefl _ hj)]
  have new : upA ad K (gN σ K) H.size K (gN σ K) = H.size := if_pos ⟨rfl, rfl⟩
  refine ⟨fun K2 j2 hj => ?_, fun K2 j2 K3 j3 a b e => ?_, fun K2 j2 hj => ?_, hr, hq, fun q => hSF q (h6 q), hPW⟩
  · rcases cas K2 j2 hj with ⟨z1, z2⟩ | z
    · rw [z1, z2, new]; exact hat
    · rw [old K2 j2 z, ho K2 j2 z]
      exact (h1 K2 j2 z).kept (hH _ (h1 K2 j2 z).lt)
  · rcases cas K2 j2 a with ⟨z1, z2⟩ | z <;> rcases cas K3 j3 b with ⟨y1, y2⟩ | y
    · exact ⟨by rw [z1, y1], by rw [z2, y2]⟩
    · rw [z1, z2, new, old K3 j3 y] at e
      have := (h1 K3 j3 y).lt
      have : ad K3 j3 < H.size := this
      omega
    · rw [y1, y2, new, old K2 j2 z] at e
      have := (h1 K2 j2 z).lt
      have : ad K2 j2 < H.size := this
      omega
    · rw [old K2 j2 z, old K3 j3 y] at e
      exact h2 K2 j2 K3 j3 z y e
  · rcases cas K2 j2 hj with ⟨z1, z2⟩ | z
    · rw [z1, z2, new]; exact hlo
    · rw [old K2 j2 z]; exact h3 K2 j2 z
def dfl (K : Nat) : List Value := (ftl K).map (fun t => if t ≤ 1 then Value.int 0 else .null)
theorem encO_nwO {ad : Nat → Nat → Nat} {σ : St} {K : Nat} : encO ad (nwO σ K) K (gN σ K) = dfl K := by
  unfold encO dfl
  apply List.ext_getElem?
  intro k
  rw [List.getElem?_mapIdx, List.getElem?_map]
  cases ht : (ftl K)[k]? with
  | none => rfl
  | some t =>
    show some (encF ad (nwO σ K) K (gN σ K) k t) = some (if t ≤ 1 then Value.int 0 else .null)
    congr 1
    unfold encF
    have hk := (tb_K ht).2
    by_cases h1 : t ≤ 1
    · rw [if_pos h1, if_pos h1, gI_nwO, if_pos ⟨⟨div_co hk, (tb_t ht).1 h1⟩, rfl⟩]; rfl
    · have hp : gP (nwO σ K) (pco K k) (gN σ K) 0 = none := by rw [gP_nwO, if_pos ⟨div_pco hk, rfl⟩]
      rw [if_neg h1, if_neg h1, hp]
      by_cases h2 : t = 2
      · rw [if_pos h2]; rfl
      · rw [if_neg h2]; rfl
/-- what the tables say of a kind that is made -/
def LkN (own : String) (i K N : Nat) : Prop := ∃ (Cn : String) (T : u_T) (ty : Nat → FieldType), vwCl[K]? = some (Cn, T, N) ∧ (∀ w ∈ u_ws Cn T N, w ∈ lw_u) ∧ (∀ k, k < N → parseFieldDescriptor (T k).2.2.1 = some (ty k)) ∧ Cond.classLink own i Cn ∈ lw_u ∧ Cond.instantiable Cn N ∈ lw_u ∧ Cond.initialized Cn ∈ lw_u ∧ la K = none ∧ (∀ j, j < N → defaultValue (ty j) = vp_V (dfl K) j)
section ALLOC
variable {κ : Cxt} {own : String} {cc : ByteArray} {nL d pc : Nat} {ret : Option FieldType} {cs : Nat × Nat} {Q : State → Prop} {lv : List (Nat × Value)} {st stk : List Value} {ad : Nat → Nat → Nat} {σ : St}
theorem z_new {i K N : Nat} (C : Cx κ own cc nL ret d) (hL : LkN own i K N) (hSF : isT κ → SF σ → SF (nwO σ K)) (hcs : csOK κ (cs.1 + 1, cs.2 + N)) (hd : decode cc pc = .ok (.new i, 3))
    (kz : ∀ ad2 : Nat → Nat → Nat, (∀ K2 j2, ¬ (K2 = K ∧ j2 = gN σ K) → ad2 K2 j2 = ad K2 j2) → Z κ (cs.1 + 1, cs.2 + N) Q (pc + 3) lv (vo ad2 K (some (gN σ K)) :: st) ad2 (nwO σ K)) : Z κ cs Q pc lv st ad σ := by
  obtain ⟨p, l, e, R, s, m, args, below, meth, c, D, cA, lo, sb⟩ := κ
  obtain ⟨hx, hb, hml, hown, hts, hlk, hK, hr, hR, hlo, hSA⟩ := C
  obtain ⟨Cn, T, ty, hc, hin, hty, hcl, hinst, hini, hlaK, hdf⟩ := hL
  intro H locs ls hl hW hS
  have hKn := hK.1 K _ hc
  refine W.newcK hx hb hown (hts _ hcl) (hts _ hinst) (hts _ hini) rfl hd hcs.1 hcs.2 hKn.2.1 rfl fun H1 kC hkC e1 z1 o1 => ?_
  have hz := kz (upA ad K (gN σ K) H.size) (fun K2 j2 h => by unfold upA; rw [if_neg h])
  have hv : vo (upA ad K (gN σ K) H.size) K (some (gN σ K)) = Value.ref H.size := by
    show Value.ref (upA ad K (gN σ K) H.size K (gN σ K)) = _
    unfold upA; rw [if_pos ⟨rfl, rfl⟩]
  rw [hv] at hz
  refine hz H1 locs ls hl (hW.nw (gN_nwO σ K) hSF (PW_nwO hlaK hW.2.2.2.2.2.2) (inr_nwO hW.2.2.2.1) hW.2.2.2.2.1 (Nat.le_trans hlo hS.1) ?_ (fun K2 j2 h => by rw [enc_nwO (σ := σ) (ad := upA ad K (gN σ K) H.size) h, enc_up hW.2.2.2.2.2.2 h]) o1) ⟨Nat.le_trans hS.1 (by omega), fun x h1 h2 => (o1 x (Nat.lt_of_lt_of_le h1 hS.1)).trans (hS.2.1 x h1 h2), hS.2.2⟩
  rw [enc_obj hlaK, encO_nwO]
  exact ⟨_, hc, (u_born ty hts hin hKn hkC e1 hty).to hdf⟩
theorem z_newarr {a et n t0 : Nat} {x : Int} {atype : ArrayType} {ty : FieldType} (C : Cx κ own cc nL ret d) (hla : la a = some (et, n)) (hty : newarray.typeOf atype = ty) (hac : Cond.arrayClass ty ∈ lw_u) (ht : ∀ cA, (tyl cA)[t0]? = some (cA et, ty)) (he : (et = 0 ∧ ty = .int) ∨ (et = 1 ∧ ty = .boolean) ∨ (et = 2 ∧ ty = .long)) (hx1 : x = (n : Int)) (hn : n ≤ 3000) (hSF : isT κ → SF σ → SF (nwA σ a)) (hcs : csOK κ (cs.1 + 1, cs.2 + n)) (hd : decode cc pc = .ok (.newarray atype, 2))
    (kz : ∀ ad2 : Nat → Nat → Nat, (∀ K2 j2, ¬ (K2 = a ∧ j2 = gN σ a) → ad2 K2 j2 = ad K2 j2) → Z κ (cs.1 + 1, cs.2 + n) Q (pc + 2) lv (vo ad2 a (some (gN σ a)) :: st) ad2 (nwA σ a)) : Z κ cs Q pc lv (vi x :: st) ad σ := by
  obtain ⟨p, l, e, R, s, m, args, below, meth, c, D, cA, lo, sb⟩ := κ
  obtain ⟨hx, hb, hml, hown, hts, hlk, hK, hr, hR, hlo, hSA⟩ := C
  subst hx1
  intro H locs ls hl hW hS
  have hi : inr (n : Int) := by constructor <;> omega
  have hNm := (hK.2 t0 _ (ht cA)).2
  have hfc : s.vm.findClass ("[" ++ ty.toString) = some (cA et) := by
    rcases he with ⟨-, q⟩ | ⟨-, q⟩ | ⟨-, q⟩ <;> (subst q; exact hNm)
  subst hty
  have hn0 : ¬ Int32.ofInt (n : Int) < 0 := by
    have : ¬ Int32.ofInt (n : Int) < Int32.ofInt 0 := by
      rw [i32_lt hi (by decide)]; omega
    exact this
  refine va_newaK (N := n) hx hb (hts _ hac) rfl hd rfl hn0 (by rw [i32_clamp hi]; omega) ?_ hcs.1 hcs.2 rfl fun H1 cA1 e1 z1 o1 hAr hN1 => ?_
  · rcases he with ⟨-, q⟩ | ⟨-, q⟩ | ⟨-, q⟩ <;> (rw [q]; show n * _ ≤ _; simp only [componentBytes]; omega)
  have hcA : cA1 = cA et := Option.some.inj (hN1.symm.trans hfc)
  subst hcA
  have hz := kz (upA ad a (gN σ a) H.size) (fun K2 j2 h => by unfold upA; rw [if_neg h])
  have hv : vo (upA ad a (gN σ a) H.size) a (some (gN σ a)) = Value.ref H.size := by
    show Value.ref (upA ad a (gN σ a) H.size a (gN σ a)) = _
    unfold upA; rw [if_pos ⟨rfl, rfl⟩]
  rw [hv] at hz
  refine hz H1 locs ls hl (hW.nw (gN_nwA σ a) hSF (PW_nwA hla hW.2.2.2.2.2.2) (inr_nwA hW.2.2.2.1) (inq_nwA hW.2.2.2.2.1) (Nat.le_trans hlo hS.1) ?_ (fun K2 j2 h => by rw [enc_nwA (σ := σ) (ad := upA ad a (gN σ a) H.size) hla h, enc_up hW.2.2.2.2.2.2 h]) o1) ⟨Nat.le_trans hS.1 (by omega), fun x h1 h2 => (o1 x (Nat.lt_of_lt_of_le h1 hS.1)).trans (hS.2.1 x h1 h2), hS.2.2⟩
  rw [enc_arr hla]
  show H1[H.size]? = some (vp_cell _ _)
  rw [e1]
  unfold encA
  rcases he with ⟨q1, q⟩ | ⟨q1, q⟩ | ⟨q1, q⟩
  · subst q1
    rw [if_pos (by omega), q, vp_cell_i]
    congr 2
    funext x
    rw [gI_nwA, if_pos ⟨rfl, rfl⟩]; rfl
  · subst q1
    rw [if_pos (by omega), q, vp_cell_i]
    congr 2
    funext x
    rw [gI_nwA, if_pos ⟨rfl, rfl⟩]; rfl
  · subst q1
    rw [if_neg (by omega), if_pos rfl, q, vp_cell_l]
    congr 2
    funext x
    rw [gJ_nwA, if_pos ⟨rfl, rfl⟩]; rfl
theorem z_newref {a K n t0 i : Nat} {x : Int} {Cn : String} (C : Cx κ own cc nL ret d) (hla : la a = some (K + 3, n)) (hcl : Cond.classLink own i Cn ∈ lw_u) (hao : Cn ∈ aoL) (ht : ∀ cA, (tyl cA)[t0]? = some (cA (K + 3), .object Cn)) (hx1 : x = (n : Int)) (hn : n ≤ 3000) (hSF : isT κ → SF σ → SF (nwA σ a)) (hcs : csOK κ (cs.1 + 1, cs.2 + n)) (hd : decode cc pc = .ok (.anewarray i, 3))
    (kz : ∀ ad2 : Nat → Nat → Nat, (∀ K2 j2, ¬ (K2 = a ∧ j2 = gN σ a) → ad2 K2 j2 = ad K2 j2) → Z κ (cs.1 + 1, cs.2 + n) Q (pc + 3) lv (vo ad2 a (some (gN σ a)) :: st) ad2 (nwA σ a)) : Z κ cs Q pc lv (vi x :: st) ad σ := by
  obtain ⟨p, l, e, R, s, m, args, below, meth, c, D, cA, lo, sb⟩ := κ
  obtain ⟨hx, hb, hml, hown, hts, hlk, hK, hr, hR, hlo, hSA⟩ := C
  subst hx1
  intro H locs ls hl hW hS
  have hi : inr (n : Int) := by constructor <;> omega
  have hnn : (Int32.ofInt (n : Int)).toNatClampNeg = n := by rw [i32_clamp hi]; omega
  obtain ⟨kA0, comp0, -, -, -, hfc⟩ := (hK.2 t0 _ (ht cA)).2
  have hn0 : ¬ Int32.ofInt (n : Int) < 0 := by
    have : ¬ Int32.ofInt (n : Int) < Int32.ofInt 0 := by
      rw [i32_lt hi (by decide)]; omega
    exact this
  refine W.anew hx hb hown (hts _ hcl) (va_AO.use (hSA.2 Cn hao)) rfl hd rfl hn0 (by rw [hnn]; omega) hcs.1 (by rw [hnn]; exact hcs.2) fun cA1 kA comp f1 f2 f3 f4 => ?_
  rw [hnn]
  have hcA : cA1 = cA (K + 3) := Option.some.inj (f1.symm.trans hfc)
  subst hcA
  generalize hH1 : H.push ({ cls := cA (K + 3), slots := Array.replicate n .null, vm := .none } : Cell) = H1
  have z1 : H1.size = H.size + 1 := by rw [← hH1, Array.size_push]
  have e1 : H1[H.size]? = some (arrV (cA (K + 3)) n (fun _ => .null)) := by rw [← hH1, Array.getElem?_push_size, ← arrV_new]
  have o1 : ∀ q : Nat, q < H.size → H1[q]? = H[q]? := fun q hq => by rw [← hH1, Array.getElem?_push, if_neg (Nat.ne_of_lt hq)]
  have hz := kz (upA ad a (gN σ a) H.size) (fun K2 j2 h => by unfold upA; rw [if_neg h])
  have hv : vo (upA ad a (gN σ a) H.size) a (some (gN σ a)) = Value.ref H.size := by
    show Value.ref (upA ad a (gN σ a) H.size a (gN σ a)) = _
    unfold upA; rw [if_pos ⟨rfl, rfl⟩]
  rw [hv] at hz
  refine hz H1 locs ls hl (hW.nw (gN_nwA σ a) hSF (PW_nwA hla hW.2.2.2.2.2.2) (inr_nwA hW.2.2.2.1) (inq_nwA hW.2.2.2.2.1) (Nat.le_trans hlo hS.1) ?_ (fun K2 j2 h => by rw [enc_nwA (σ := σ) (ad := upA ad a (gN σ a) H.size) hla h, enc_up hW.2.2.2.2.2.2 h]) o1) ⟨Nat.le_trans hS.1 (by omega), fun x h1 h2 => (o1 x (Nat.lt_of_lt_of_le h1 hS.1)).trans (hS.2.1 x h1 h2), hS.2.2⟩
  rw [enc_arr hla]
  show H1[H.size]? = some (vp_cell _ _)
  rw [e1]
  unfold encA
  rw [if_neg (by omega), if_neg (by omega), vp_cell_q]
  congr 2
  funext x
  rw [gP_nwA, if_pos ⟨rfl, rfl⟩]; rfl
end ALLOC
