/-! fields and arrays -/
def okj (κ : Cxt) (σ : St) (K j : Nat) : Prop := j < gN σ K ∨ (isT κ ∧ ((K ∈ sgl ∧ j = 0) ∨ (K = 702 ∧ j < gN σ 6) ∨ (K = 904 ∧ j < gN σ 8)))
theorem SF.ok {σ : St} (h : SF σ) {K j : Nat} (hj : (K ∈ sgl ∧ j = 0) ∨ (K = 702 ∧ j < gN σ 6) ∨ (K = 904 ∧ j < gN σ 8)) : j < gN σ K := by
  obtain ⟨-, -, h6, h7, h8⟩ := h
  rcases hj with ⟨q1, q2⟩ | ⟨q1, q2⟩ | ⟨q1, q2⟩
  · rw [h6 K q1, q2]; exact Nat.zero_lt_one
  · rw [q1, h7]; exact q2
  · rw [q1, h8]; exact q2
theorem WD.ok {p : Program} {l : Launch} {e : Env} {R : Room} {s : State} {m : MethodId} {args : Array Value} {below : List Frame} {meth : Method} {c : Code} {sb : Bool} {D : va_G} {cA : Nat → ClassId} {lo : Nat} {ad : Nat → Nat → Nat} {σ : St} {H : Heap} (h : WD sb D cA lo ad σ H) {K j : Nat} (hj : okj (p, l, e, R, s, m, args, below, meth, c, D, cA, lo, sb) σ K j) : j < gN σ K := by
  rcases hj with q | ⟨q1, q2⟩
  · exact q
  · exact (h.2.2.2.2.2.1 q1).ok q2
theorem va_P1 {D : va_G} {cl : List vw_C} {q : Nat × va_E} {H : Heap} (h : va_at D cl q H) : va_P D cl [q] H := by
  intro k x hk
  cases k with
  | zero => cases hk; exact h
  | succ k => simp at hk
theorem WD.at {p : Program} {l : Launch} {e : Env} {R : Room} {s : State} {m : MethodId} {args : Array Value} {below : List Frame} {meth : Method} {c : Code} {sb : Bool} {D : va_G} {cA : Nat → ClassId} {lo : Nat} {ad : Nat → Nat → Nat} {σ : St} {H : Heap} (h : WD sb D cA lo ad σ H) {K j : Nat} (hj : okj (p, l, e, R, s, m, args, below, meth, c, D, cA, lo, sb) σ K j) : va_at D vwCl (ad K j, enc cA ad σ K j) H := h.1 K j (h.ok hj)
/-- a field that an instruction names: its class, its place, and what the tables say of it -/
def LkF (own : String) (i K k : Nat) : Prop := ∃ (Cn : String) (T : u_T) (N : Nat), vwCl[K]? = some (Cn, T, N) ∧ k < N ∧ (∀ w ∈ u_ws Cn T N, w ∈ lw_u) ∧ (T k).1 = Cn ∧ (Cond.fieldLink own i Cn (T k).2.1 (T k).2.2.1 ∈ lw_u ∨ ∃ host, Cond.fieldLinkNest own i Cn (T k).2.1 (T k).2.2.1 host ∈ lw_u)
def LkP (own : String) (i K k t : Nat) : Prop := ∃ (Cn : String) (T : u_T) (N : Nat) (ty : Nat → FieldType), vwCl[K]? = some (Cn, T, N) ∧ k < N ∧ (∀ w ∈ u_ws Cn T N, w ∈ lw_u) ∧ (T k).1 = Cn ∧ (Cond.fieldLink own i Cn (T k).2.1 (T k).2.2.1 ∈ lw_u ∨ ∃ host, Cond.fieldLinkNest own i Cn (T k).2.1 (T k).2.2.1 host ∈ lw_u) ∧
  (∀ k, k < N → parseFieldDescriptor (T k).2.2.1 = some (ty k)) ∧ (∀ a, a < N → ∀ b, b < N → a ≠ b → (T a).2.1 ≠ (T b).2.1) ∧ (T k).2.2.2 = false ∧ ((t = 0 ∧ ty k = .int) ∨ (t = 1 ∧ ty k = .boolean))
theorem encO_set {ad : Nat → Nat → Nat} {σ : St} {K j k t : Nat} {v : Int} (h : (ftl K)[k]? = some t) (h1 : t ≤ 1) : encO ad (sI σ (co K k) j 0 v) K j = (encO ad σ K j).set k (vi v) := by
  have hk := tb_K h
  apply List.ext_getElem?
  intro x
  unfold encO
  by_cases hx : x = k
  · subst hx
    have hl : x < ((ftl K).mapIdx (fun k t => encF ad σ K j k t)).length := by
      rw [List.length_mapIdx]; exact (List.getElem?_eq_some_iff.mp h).1
    rw [List.getElem?_set_self hl, List.getElem?_mapIdx, h]
    show some (encF ad _ K j x t) = _
    unfold encF
    rw [if_pos h1, gI_sI, if_pos ⟨rfl, rfl, rfl⟩]
  · rw [List.getElem?_set_ne (Ne.symm hx), List.getElem?_mapIdx, List.getElem?_mapIdx]
    cases ht : (ftl K)[x]? with
    | none => rfl
    | some t2 =>
      show some (encF ad _ K j x t2) = some (encF ad _ K j x t2)
      unfold encF
      rw [show gI (sI σ (co K k) j 0 v) (co K x) j 0 = gI σ (co K x) j 0 from by rw [gI_sI, if_neg (fun q => hx (co_inj (tb_K ht).2 hk.2 q.1).2)]]
      rfl
theorem inr_sI {σ : St} {c j e : Nat} {v : Int} (h : ∀ c j e, inr (gI σ c j e)) (hv : inr v) : ∀ c2 j2 e2, inr (gI (sI σ c j e v) c2 j2 e2) := by
  intro c2 j2 e2
  rw [gI_sI]
  by_cases q : c2 = c ∧ j2 = j ∧ e2 = e
  · rw [if_pos q]; exact hv
  · rw [if_neg q]; exact h c2 j2 e2
theorem inq_sJ {σ : St} {c j e : Nat} {v : Int} (h : ∀ c j e, inq (gJ σ c j e)) (hv : inq v) : ∀ c2 j2 e2, inq (gJ (sJ σ c j e v) c2 j2 e2) := by
  intro c2 j2 e2
  rw [gJ_sJ]
  by_cases q : c2 = c ∧ j2 = j ∧ e2 = e
  · rw [if_pos q]; exact hv
  · rw [if_neg q]; exact h c2 j2 e2
/-- an int column's write leaves the other cells -/
theorem enc_field {cA : Nat → ClassId} {ad : Nat → Nat → Nat} {σ : St} {K j k t : Nat} {v : Int} (h : (ftl K)[k]? = some t) (h1 : t ≤ 1) (K2 j2 : Nat) (hne : ¬ (K2 = K ∧ j2 = j)) : enc cA ad (sI σ (co K k) j 0 v) K2 j2 = enc cA ad σ K2 j2 := by
  have hk := tb_K h
  have hn := (tb_t h).1 h1
  refine enc_congr (fun k2 t2 h2 _ => ?_) (fun _ _ _ _ => rfl) (fun q hq e => ⟨?_, rfl, rfl⟩)
  · rw [gI_sI, if_neg (fun q => hne ⟨(co_inj (tb_K h2).2 hk.2 q.1).1, q.2.1⟩)]
  · rw [gI_sI, if_neg (fun q2 => by rw [q2.1, hn] at hq; cases hq)]
theorem enc_elemI {cA : Nat → ClassId} {ad : Nat → Nat → Nat} {σ : St} {a j e : Nat} {q0 : Nat × Nat} {v : Int} (h : la a = some q0) (K2 j2 : Nat) (hne : ¬ (K2 = a ∧ j2 = j)) : enc cA ad (sI σ a j e v) K2 j2 = enc cA ad σ K2 j2 := by
  refine enc_congr (fun k2 t2 h2 h3 => ?_) (fun _ _ _ _ => rfl) (fun q hq e => ⟨?_, rfl, rfl⟩)
  · rw [gI_sI, if_neg (fun q => by have := (tb_t h2).1 h3; rw [q.1, h] at this; cases this)]
  · rw [gI_sI, if_neg (fun q2 => hne ⟨q2.1, q2.2.1⟩)]
theorem enc_elemJ {cA : Nat → ClassId} {ad : Nat → Nat → Nat} {σ : St} {a j e : Nat} {v : Int} (K2 j2 : Nat) (hne : ¬ (K2 = a ∧ j2 = j)) : enc cA ad (sJ σ a j e v) K2 j2 = enc cA ad σ K2 j2 := by
  refine enc_congr (fun k2 t2 h2 h3 => rfl) (fun _ _ _ _ => rfl) (fun q hq e => ⟨rfl, ?_, rfl⟩)
  rw [gJ_sJ, if_neg (fun q2 => hne ⟨q2.1, q2.2.1⟩)]
theorem enc_elemP {cA : Nat → ClassId} {ad : Nat → Nat → Nat} {σ : St} {a j e : Nat} {v : Option Nat} {q0 : Nat × Nat} (h : la a = some q0) (K2 j2 : Nat) (hne : ¬ (K2 = a ∧ j2 = j)) : enc cA ad (sP σ a j e v) K2 j2 = enc cA ad σ K2 j2 := by
  refine enc_congr (fun k2 t2 h2 h3 => rfl) (fun k2 t2 h2 h3 => ?_) (fun q hq e => ⟨rfl, rfl, ?_⟩)
  · have := la_lt h
    rw [gP_sP, if_neg (fun q => by have := q.1; unfold pco at this; omega)]
  rw [gP_sP, if_neg (fun q2 => hne ⟨q2.1, q2.2.1⟩)]
theorem SF_sP {σ : St} {a j e : Nat} {v : Option Nat} (ha : a < 5000) (h : SF σ) : SF (sP σ a j e v) := by
  have key : ∀ K k j2, gP (sP σ a j e v) (pco K k) j2 0 = gP σ (pco K k) j2 0 := fun K k j2 => by
    rw [gP_sP, if_neg (fun q => by have := q.1; unfold pco at this; omega)]
  exact ⟨fun K k j2 h1 h2 => (key K k j2).trans (h.1 K k j2 h1 h2), fun K k j2 K2 h1 h2 => (key K k j2).trans (h.2.1 K k j2 K2 h1 h2), h.2.2⟩
theorem PW_sP {σ : St} {a j e K n : Nat} {v : Option Nat} (hla : la a = some (K + 3, n)) (hv : ∀ j2, v = some j2 → j2 < gN σ K) (h : PW σ) : PW (sP σ a j e v) := by
  constructor
  · intro a2 K2 n2 j2 e2 x h1 h2 h3
    rw [gP_sP] at h3
    by_cases q : a2 = a ∧ j2 = j ∧ e2 = e
    · rw [if_pos q] at h3
      rw [q.1, hla] at h1
      have : K + 3 = K2 + 3 := congrArg Prod.fst (Option.some.inj h1)
      rw [show K2 = K by omega]
      exact hv x h3
    · rw [if_neg q] at h3
      exact h.1 a2 K2 n2 j2 e2 x h1 h2 h3
  · intro K2 k t j2 x h1 h2 h3 h4
    have hl := la_lt hla
    rw [gP_sP, if_neg (fun q => by have := q.1; unfold pco at this; omega)] at h4
    exact h.2 K2 k t j2 x h1 h2 h3 h4
theorem i32_bool {v : Int} (h : v = 0 ∨ v = 1) : narrow .boolean (.int (Int32.ofInt v)) = .int (Int32.ofInt v) := by
  rcases h with rfl | rfl <;> rfl
section HEAP
variable {κ : Cxt} {own : String} {cc : ByteArray} {nL d pc : Nat} {ret : Option FieldType} {cs : Nat × Nat} {Q : State → Prop} {lv : List (Nat × Value)} {st : List Value} {ad : Nat → Nat → Nat} {σ : St}
theorem z_get {i K k j t : Nat} (C : Cx κ own cc nL ret d) (hL : LkF own i K k) (ht : (ftl K)[k]? = some t) (hj : okj κ σ K j) (hd : decode cc pc = .ok (.getfield i, 3)) (kz : Z κ cs Q (pc + 3) lv (encF ad σ K j k t :: st) ad σ) : Z κ cs Q pc lv (vo ad K (some j) :: st) ad σ := by
  obtain ⟨p, l, e, R, s, m, args, below, meth, c, D, cA, lo, sb⟩ := κ
  obtain ⟨hx, hb, hml, hown, hts, hlk, hK, hr, hR, hlo, hSA⟩ := C
  intro H locs ls hl hW hS
  have hz := kz H locs ls hl hW hS
  obtain ⟨Cn, T, N, hc, hk, hin, hCn, hlink⟩ := hL
  have hP := hW.at hj
  rw [enc_obj (tb_t ht).2] at hP
  rcases hlink with hlink | ⟨host, hlink⟩
  · exact va_get (D := D) (ref := Cn) hx hb hts hin hown hK (va_P1 hP) 0 rfl hc k hk (hts _ hlink) (fun x h => by rw [hCn] at h; exact h) (encO_get ht) hd hz
  · exact va_getN (D := D) (ref := Cn) hx hb hts hin hown hK (va_P1 hP) 0 rfl hc k hk (hts _ hlink) (fun x h => by rw [hCn] at h; exact h) (encO_get ht) hd hz
theorem z_getI {i K k j t : Nat} (C : Cx κ own cc nL ret d) (hL : LkF own i K k) (ht : (ftl K)[k]? = some t) (h1 : t ≤ 1) (hj : okj κ σ K j) (hd : decode cc pc = .ok (.getfield i, 3)) (kz : Z κ cs Q (pc + 3) lv (vi (gI σ (co K k) j 0) :: st) ad σ) : Z κ cs Q pc lv (vo ad K (some j) :: st) ad σ :=
  z_get C hL ht hj hd (by unfold encF; rw [if_pos h1]; exact kz)
theorem z_getP {i K k j t : Nat} {r : Option Nat} (C : Cx κ own cc nL ret d) (hL : LkF own i K k) (ht : (ftl K)[k]? = some t) (h1 : ¬ t ≤ 1) (hj : okj κ σ K j) (hp : gP σ (pco K k) j 0 = r) (hd : decode cc pc = .ok (.getfield i, 3)) (kz : Z κ cs Q (pc + 3) lv (vo ad (if t = 2 then co K k else t - 3) r :: st) ad σ) : Z κ cs Q pc lv (vo ad K (some j) :: st) ad σ :=
  z_get C hL ht hj hd (by
    unfold encF
    rw [if_neg h1, hp]
    by_cases q : t = 2
    · rw [if_pos q] at kz ⊢; exact kz
    · rw [if_neg q] at kz ⊢; exact kz)
theorem z_okn {K j : Nat} (hj : okj κ σ K j) (k : j < gN σ K → Z κ cs Q pc lv st ad σ) : Z κ cs Q pc lv st ad σ := by
  obtain ⟨p, l, e, R, s, m, args, below, meth, c, D, cA, lo, sb⟩ := κ
  intro H locs ls hl hW hS
  exact k (hW.ok hj) H locs ls hl hW hS
theorem z_getA {i K k j : Nat} (T : isT κ) (C : Cx κ own cc nL ret d) (hL : LkF own i K k) (ht : (ftl K)[k]? = some 2) (hj : okj κ σ K j) (hd : decode cc pc = .ok (.getfield i, 3)) (kz : Z κ cs Q (pc + 3) lv (vo ad (co K k) (some j) :: st) ad σ) : Z κ cs Q pc lv (vo ad K (some j) :: st) ad σ :=
  z_sf T (fun hSF => z_okn hj (fun hn => z_getP C hL ht (by omega) hj (hSF.1 K k j ht hn) hd kz))
theorem z_getR {i K k j K2 : Nat} (T : isT κ) (C : Cx κ own cc nL ret d) (hL : LkF own i K k) (ht : (ftl K)[k]? = some (K2 + 3)) (hj : okj κ σ K j) (hd : decode cc pc = .ok (.getfield i, 3)) (kz : Z κ cs Q (pc + 3) lv (vo ad K2 (some 0) :: st) ad σ) : Z κ cs Q pc lv (vo ad K (some j) :: st) ad σ :=
  z_sf T (fun hSF => z_okn hj (fun hn => z_getP C hL ht (by omega) hj (hSF.2.1 K k j K2 ht hn) hd (by rw [if_neg (by omega), show K2 + 3 - 3 = K2 by omega]; exact kz)))
theorem z_put {i K k j t : Nat} {v : Int} (C : Cx κ own cc nL ret d) (hL : LkP own i K k t) (ht : (ftl K)[k]? = some t) (hj : okj κ σ K j) (hv : inr v) (hv2 : t = 0 ∨ v = 0 ∨ v = 1) (hd : decode cc pc = .ok (.putfield i, 3)) (kz : Z κ cs Q (pc + 3) lv st ad (sI σ (co K k) j 0 v)) : Z κ cs Q pc lv (vi v :: vo ad K (some j) :: st) ad σ := by
  obtain ⟨p, l, e, R, s, m, args, below, meth, c, D, cA, lo, sb⟩ := κ
  obtain ⟨hx, hb, hml, hown, hts, hlk, hK, hr, hR, hlo, hSA⟩ := C
  intro H locs ls hl hW hS0
  obtain ⟨Cn, T, N, ty, hc, hk, hin, hCn, hlink, hty, hnm, hfin, htk⟩ := hL
  have h1 : t ≤ 1 := by rcases htk with q | q <;> omega
  have hat := hW.at hj
  rw [enc_obj (tb_t ht).2] at hat
  have hap := va_apart (own := own) hts hin ty hty hnm hK hc
  obtain ⟨r, h2, cell, q1, q2, q3, q4⟩ := hat
  have hr2 : r = (Cn, T, N) := Option.some.inj (h2.symm.trans hc)
  subst hr2
  obtain ⟨hS, hfc, kC, hkC, hkind⟩ := hK.1 K _ hc
  obtain ⟨cf, kf, fi, f, hi, hsl⟩ := hS k hk
  have hlay := hts _ (hin _ (u_in_lay hk))
  unfold u_lay at hlay
  rw [if_neg (by rw [hfin]; decide)] at hlay
  have hst := (u_facts hfc hkC (u_lays hts hin hk) hi).1
  have hn : narrow (ty k) (vi v) = vi v := by
    rcases htk with ⟨-, q⟩ | ⟨q0, q⟩
    · rw [q]; rfl
    · rw [q]; exact i32_bool (hv2.resolve_left (by omega))
  have hfit : fits (ty k) (vi v) = true := by
    rcases htk with ⟨-, q⟩ | ⟨q0, q⟩
    · rw [q]; rfl
    · rw [q]
      rcases hv2 with z | z | z
      · omega
      · rw [z]; rfl
      · rw [z]; rfl
  have h6 := u_store hfc hkC hkind hlay hi (hty k hk) hn hfit
  have hfs : k < (encO ad σ K j).length := by unfold encO; rw [List.length_mapIdx]; exact (List.getElem?_eq_some_iff.mp ht).1
  have fin : ∀ H2 : Heap, H2[ad K j]? = some (cell.setSlot f.slot (vi v)) → H2.size = H.size → (∀ q, q ≠ ad K j → H2[q]? = H[q]?) → W p l e R s m args below meth c H2 (locs ++ [⟨ad K j, f.slot⟩]) cs.1 cs.2 Q (F0 m (pc + 3) ls st) := by
    intro H2 e1 e2 e3
    rw [hsl] at e1
    refine kz H2 _ ls hl (hW.wr rfl id id (inr_sI hW.2.2.2.1 hv) hW.2.2.2.2.1 (hW.ok hj) ?_ (enc_field ht h1) e3) (hS0.put e2 e3 (hW.2.2.1 K j (hW.ok hj)))
    rw [enc_obj (tb_t ht).2, encO_set ht h1]
    exact ⟨_, hc, t_OB.to (V := updV (vp_V (encO ad σ K j)) k (vi v)) ⟨_, e1, q2, q3, t_set q4 hap hk (vi v)⟩ (fun j2 _ => vp_updV_set hfs (vi v) j2)⟩
  rcases hlink with hlink | ⟨host, hlink⟩
  · exact W.putK (ref := Cn) hx hb (f := f) ⟨hown, hts _ hlink, ⟨_, _, _, by rw [hCn] at hi; exact hi⟩, hst⟩ (by rw [q2]; exact h6) q1 q3 (by rw [hsl]; exact k2_hasslot (q4 k hk)) rfl rfl hd fin
  · exact va_WputK (ref := Cn) hx hb (f := f) hown (hts _ hlink) (by rw [hCn] at hi; exact hi) hst (by rw [q2]; exact h6) q1 q3 (by rw [hsl]; exact k2_hasslot (q4 k hk)) rfl rfl hd fin
/-- at an array's cell -/
theorem z_ald {a j et n : Nat} {x : Int} {t0 : Nat} {ty : FieldType} (C : Cx κ own cc nL ret d) (hla : la a = some (et, n)) (hj : okj κ σ a j) (hi : inr x) (hb2 : 0 ≤ x ∧ x < (n : Int)) (ht : ∀ cA, (tyl cA)[t0]? = some (cA et, ty)) (he : (et = 0 ∧ ty = .int) ∨ (et = 1 ∧ ty = .boolean)) (hd : decode cc pc = .ok ((if et = 0 then .iaload else .baload), 1)) (kz : Z κ cs Q (pc + 1) lv (vi (gI σ a j x.toNat) :: st) ad σ) : Z κ cs Q pc lv (vi x :: vo ad a (some j) :: st) ad σ := by
  obtain ⟨p, l, e, R, s, m, args, below, meth, c, D, cA, lo, sb⟩ := κ
  obtain ⟨hx, hb, hml, hown, hts, hlk, hK, hr, hR, hlo, hSA⟩ := C
  intro H locs ls hl hW hS
  have hz := kz H locs ls hl hW hS
  have hat := hW.at hj
  rw [enc_arr hla] at hat
  have e1 : encA cA ad σ a et n j = (cA et, n, .inl (fun e => Int32.ofInt (gI σ a j e))) := if_pos (by rcases he with q | q <;> omega)
  rw [e1] at hat
  rw [← i32_clamp hi] at hz
  rcases he with ⟨q1, q2⟩ | ⟨q1, q2⟩
  · subst q1; subst q2
    exact va_iald (D := D) hx hb hK (va_P1 hat) 0 t0 rfl (ht cA) (i32_in hi hb2) hd hz
  · subst q1; subst q2
    exact va_zald (D := D) hx hb hK (va_P1 hat) 0 t0 rfl (ht cA) (i32_in hi hb2) hd hz
theorem z_iaload {a j n : Nat} {x : Int} (C : Cx κ own cc nL ret d) (hla : la a = some (0, n)) (hj : okj κ σ a j) (hi : inr x) (hb2 : 0 ≤ x ∧ x < (n : Int)) (hd : decode cc pc = .ok (.iaload, 1)) (kz : Z κ cs Q (pc + 1) lv (vi (gI σ a j x.toNat) :: st) ad σ) : Z κ cs Q pc lv (vi x :: vo ad a (some j) :: st) ad σ :=
  z_ald (t0 := 0) C hla hj hi hb2 (fun _ => rfl) (Or.inl ⟨rfl, rfl⟩) hd kz
theorem z_baload {a j n : Nat} {x : Int} (C : Cx κ own cc nL ret d) (hla : la a = some (1, n)) (hj : okj κ σ a j) (hi : inr x) (hb2 : 0 ≤ x ∧ x < (n : Int)) (hd : decode cc pc = .ok (.baload, 1)) (kz : Z κ cs Q (pc + 1) lv (vi (gI σ a j x.toNat) :: st) ad σ) : Z κ cs Q pc lv (vi x :: vo ad a (some j) :: st) ad σ :=
  z_ald (t0 := 1) C hla hj hi hb2 (fun _ => rfl) (Or.inr ⟨rfl, rfl⟩) hd kz
theorem z_laload {a j n : Nat} {x : Int} (C : Cx κ own cc nL ret d) (hla : la a = some (2, n)) (hj : okj κ σ a j) (hi : inr x) (hb2 : 0 ≤ x ∧ x < (n : Int)) (hd : decode cc pc = .ok (.laload, 1)) (kz : Z κ cs Q (pc + 1) lv (vj (gJ σ a j x.toNat) :: st) ad σ) : Z κ cs Q pc lv (vi x :: vo ad a (some j) :: st) ad σ := by
  obtain ⟨p, l, e, R, s, m, args, below, meth, c, D, cA, lo, sb⟩ := κ
  obtain ⟨hx, hb, hml, hown, hts, hlk, hK, hr, hR, hlo, hSA⟩ := C
  intro H locs ls hl hW hS
  have hz := kz H locs ls hl hW hS
  have hat := hW.at hj
  rw [enc_arr hla] at hat
  rw [← i32_clamp hi] at hz
  exact va_lald (D := D) hx hb hK (va_P1 hat) 0 2 rfl rfl (i32_in hi hb2) hd hz
theorem z_aaload {a j K n t0 : Nat} {Cn : String} {x : Int} (C : Cx κ own cc nL ret d) (hla : la a = some (K + 3, n)) (ht : ∀ cA, (tyl cA)[t0]? = some (cA (K + 3), .object Cn)) (hj : okj κ σ a j) (hi : inr x) (hb2 : 0 ≤ x ∧ x < (n : Int)) (hd : decode cc pc = .ok (.aaload, 1)) (kz : Z κ cs Q (pc + 1) lv (vo ad K (gP σ a j x.toNat) :: st) ad σ) : Z κ cs Q pc lv (vi x :: vo ad a (some j) :: st) ad σ := by
  obtain ⟨p, l, e, R, s, m, args, below, meth, c, D, cA, lo, sb⟩ := κ
  obtain ⟨hx, hb, hml, hown, hts, hlk, hK, hr, hR, hlo, hSA⟩ := C
  intro H locs ls hl hW hS
  have hz := kz H locs ls hl hW hS
  have hat := hW.at hj
  rw [enc_arr hla] at hat
  have e1 : encA cA ad σ a (K + 3) n j = (cA (K + 3), n, .inr (.inr (.inr (.inr (fun e => (gP σ a j e).map (ad K)))))) := by
    unfold encA
    rw [if_neg (by omega), if_neg (by omega), show K + 3 - 3 = K by omega]
  rw [e1] at hat
  rw [← i32_clamp hi] at hz
  exact va_aldq (D := D) hx hb hK (va_P1 hat) 0 t0 rfl (ht cA) (i32_in hi hb2) hd hz
theorem z_ast {a j et n : Nat} {x v : Int} {t0 : Nat} {ty : FieldType} (C : Cx κ own cc nL ret d) (hla : la a = some (et, n)) (hj : okj κ σ a j) (hi : inr x) (hb2 : 0 ≤ x ∧ x < (n : Int)) (hv : inr v) (ht : ∀ cA, (tyl cA)[t0]? = some (cA et, ty)) (he : (et = 0 ∧ ty = .int) ∨ (et = 1 ∧ ty = .boolean ∧ (v = 0 ∨ v = 1))) (hd : decode cc pc = .ok ((if et = 0 then .iastore else .bastore), 1)) (kz : Z κ cs Q (pc + 1) lv st ad (sI σ a j x.toNat v)) : Z κ cs Q pc lv (vi v :: vi x :: vo ad a (some j) :: st) ad σ := by
  obtain ⟨p, l, e, R, s, m, args, below, meth, c, D, cA, lo, sb⟩ := κ
  obtain ⟨hx, hb, hml, hown, hts, hlk, hK, hr, hR, hlo, hSA⟩ := C
  intro H locs ls hl hW hS
  have hat := hW.at hj
  rw [enc_arr hla] at hat
  have he1 : et ≤ 1 := by rcases he with q | q <;> omega
  have e1 : ∀ σ, encA cA ad σ a et n j = (cA et, n, .inl (fun e => Int32.ofInt (gI σ a j e))) := fun σ => if_pos he1
  rw [e1] at hat
  have hin := i32_in hi hb2
  have fin : ∀ H2 : Heap, H2[ad a j]? = some (Cell.setSlot (arrV (cA et) n (fun q => .int (Int32.ofInt (gI σ a j q)))) (Int32.ofInt x).toNatClampNeg (.int (Int32.ofInt v))) → H2.size = H.size → (∀ q, q ≠ ad a j → H2[q]? = H[q]?) → W p l e R s m args below meth c H2 (locs ++ [⟨ad a j, (Int32.ofInt x).toNatClampNeg⟩]) cs.1 cs.2 Q (F0 m (pc + 1) ls st) := by
    intro H2 g1 g2 g3
    refine kz H2 _ ls hl (hW.wr rfl id id (inr_sI hW.2.2.2.1 hv) hW.2.2.2.2.1 (hW.ok hj) ?_ (enc_elemI hla) g3) (hS.put g2 g3 (hW.2.2.1 a j (hW.ok hj)))
    rw [enc_arr hla, e1]
    show H2[ad a j]? = some (vp_cell _ _)
    rw [g1, vp_cell_i, arrV_store, i32_clamp hi]
    congr 2
    funext q
    by_cases hq : q = x.toNat
    · subst hq
      simp [updV, gI_sI]
    · simp [updV, gI_sI, hq]
  rcases he with ⟨q1, q2⟩ | ⟨q1, q2, q3⟩
  · subst q1; subst q2
    exact W.iast hx hb hat ((hK.2 t0 _ (ht cA)).1 n (fun j2 => .int (Int32.ofInt (gI σ a j j2)))) (fun q => by cases q) (by show ¬ (_ ∨ (arrV _ _ _).slots.size ≤ _); rw [arrV_size]; exact hin) rfl rfl hd fin
  · subst q1; subst q2
    refine W.zast hx hb hat ((hK.2 t0 _ (ht cA)).1 n (fun j2 => .int (Int32.ofInt (gI σ a j j2)))) (fun q => by cases q) (by show ¬ (_ ∨ (arrV _ _ _).slots.size ≤ _); rw [arrV_size]; exact hin) rfl rfl hd ?_
    rw [i32_bool q3]
    exact fin
theorem z_iastore {a j n : Nat} {x v : Int} (C : Cx κ own cc nL ret d) (hla : la a = some (0, n)) (hj : okj κ σ a j) (hi : inr x) (hb2 : 0 ≤ x ∧ x < (n : Int)) (hv : inr v) (hd : decode cc pc = .ok (.iastore, 1)) (kz : Z κ cs Q (pc + 1) lv st ad (sI σ a j x.toNat v)) : Z κ cs Q pc lv (vi v :: vi x :: vo ad a (some j) :: st) ad σ :=
  z_ast (t0 := 0) C hla hj hi hb2 hv (fun _ => rfl) (Or.inl ⟨rfl, rfl⟩) hd kz
theorem z_bastore {a j n : Nat} {x v : Int} (C : Cx κ own cc nL ret d) (hla : la a = some (1, n)) (hj : okj κ σ a j) (hi : inr x) (hb2 : 0 ≤ x ∧ x < (n : Int)) (hv : inr v) (hv2 : v = 0 ∨ v = 1) (hd : decode cc pc = .ok (.bastore, 1)) (kz : Z κ cs Q (pc + 1) lv st ad (sI σ a j x.toNat v)) : Z κ cs Q pc lv (vi v :: vi x :: vo ad a (some j) :: st) ad σ :=
  z_ast (t0 := 1) C hla hj hi hb2 hv (fun _ => rfl) (Or.inr ⟨rfl, rfl, hv2⟩) hd kz
theorem z_lastore {a j n : Nat} {x v : Int} (C : Cx κ own cc nL ret d) (hla : la a = some (2, n)) (hj : okj κ σ a j) (hi : inr x) (hb2 : 0 ≤ x ∧ x < (n : Int)) (hv : inq v) (hd : decode cc pc = .ok (.lastore, 1)) (kz : Z κ cs Q (pc + 1) lv st ad (sJ σ a j x.toNat v)) : Z κ cs Q pc lv (vj v :: vi x :: vo ad a (some j) :: st) ad σ := by
  obtain ⟨p, l, e, R, s, m, args, below, meth, c, D, cA, lo, sb⟩ := κ
  obtain ⟨hx, hb, hml, hown, hts, hlk, hK, hr, hR, hlo, hSA⟩ := C
  intro H locs ls hl hW hS
  have hat := hW.at hj
  rw [enc_arr hla] at hat
  have hin := i32_in hi hb2
  refine W.last hx hb (cell := arrV (cA 2) n (fun q => .long (Int64.ofInt (gJ σ a j q)))) hat ((hK.2 2 _ rfl).1 n (fun j2 => .long (Int64.ofInt (gJ σ a j j2)))) (fun q => by cases q) (by show ¬ (_ ∨ (arrV _ _ _).slots.size ≤ _); rw [arrV_size]; exact hin) rfl rfl hd (fun H2 g1 g2 g3 => ?_)
  refine kz H2 _ ls hl (hW.wr rfl id id hW.2.2.2.1 (inq_sJ hW.2.2.2.2.1 hv) (hW.ok hj) ?_ enc_elemJ g3) (hS.put g2 g3 (hW.2.2.1 a j (hW.ok hj)))
  rw [enc_arr hla]
  show H2[ad a j]? = some (vp_cell (cA 2) (n, .inr (.inl _)))
  rw [g1, vp_cell_l, arrV_store, i32_clamp hi]
  congr 2
  funext q
  by_cases hq : q = x.toNat
  · subst hq
    simp [updV, gJ_sJ]
  · simp [updV, gJ_sJ, hq]
theorem z_aastore {a j K n t0 : Nat} {Cn : String} {x : Int} {v : Option Nat} (C : Cx κ own cc nL ret d) (hla : la a = some (K + 3, n)) (ht : ∀ cA, (tyl cA)[t0]? = some (cA (K + 3), .object Cn)) (hcl : ∃ T N, vwCl[K]? = some (Cn, T, N)) (hlK : la K = none) (hj : okj κ σ a j) (hi : inr x) (hb2 : 0 ≤ x ∧ x < (n : Int)) (hv : ∀ j2, v = some j2 → j2 < gN σ K) (hd : decode cc pc = .ok (.aastore, 1)) (kz : Z κ cs Q (pc + 1) lv st ad (sP σ a j x.toNat v)) : Z κ cs Q pc lv (vo ad K v :: vi x :: vo ad a (some j) :: st) ad σ := by
  obtain ⟨p, l, e, R, s, m, args, below, meth, c, D, cA, lo, sb⟩ := κ
  obtain ⟨hx, hb, hml, hown, hts, hlk, hK, hr, hR, hlo, hSA⟩ := C
  intro H locs ls hl hW hS
  have hat := hW.at hj
  rw [enc_arr hla] at hat
  have e1 : ∀ σ, encA cA ad σ a (K + 3) n j = (cA (K + 3), n, .inr (.inr (.inr (.inr (fun e => (gP σ a j e).map (ad K)))))) := by
    intro σ
    unfold encA
    rw [if_neg (by omega), if_neg (by omega), show K + 3 - 3 = K by omega]
  rw [e1] at hat
  have hin := i32_in hi hb2
  have h0 : ¬ Int32.ofInt x < 0 := fun q => hin (Or.inl q)
  have hlt : (Int32.ofInt x).toNatClampNeg < n := Nat.not_le.mp fun q => hin (Or.inr q)
  have fin : ∀ H2 : Heap, H2[ad a j]? = some (Cell.setSlot (arrV (cA (K + 3)) n (fun q => va_rf ((gP σ a j q).map (ad K)))) (Int32.ofInt x).toNatClampNeg (vo ad K v)) → H2.size = H.size → (∀ q, q ≠ ad a j → H2[q]? = H[q]?) → W p l e R s m args below meth c H2 (locs ++ [⟨ad a j, (Int32.ofInt x).toNatClampNeg⟩]) cs.1 cs.2 Q (F0 m (pc + 1) ls st) := by
    intro H2 g1 g2 g3
    refine kz H2 _ ls hl (hW.wr rfl (SF_sP (la_lt hla)) (PW_sP hla hv) hW.2.2.2.1 hW.2.2.2.2.1 (hW.ok hj) ?_ (enc_elemP hla) g3) (hS.put g2 g3 (hW.2.2.1 a j (hW.ok hj)))
    rw [enc_arr hla, e1]
    show H2[ad a j]? = some (vp_cell _ _)
    rw [g1, vp_cell_q, arrV_store, i32_clamp hi]
    congr 2
    funext q
    by_cases hq : q = x.toNat
    · subst hq
      simp [updV, gP_sP, vo]
    · simp [updV, gP_sP, hq]
  cases v with
  | none => exact va_WaastN (C := Cn) hx hb hat ((hK.2 t0 _ (ht cA)).1 n (fun q => va_rf ((gP σ a j q).map (ad K)))) (fun h => by cases h) (by show ¬ (_ ∨ (arrV _ _ _).slots.size ≤ _); rw [arrV_size]; exact hin) rfl rfl hd fin
  | some j2 =>
    obtain ⟨T, N, hc⟩ := hcl
    have hv2 := hW.1 K j2 (hv j2 rfl)
    rw [enc_obj hlK] at hv2
    obtain ⟨r2, hr2, cellV, g1, g2, g3, -⟩ := hv2
    have hcls := (hK.1 K _ hc).2
    obtain ⟨kA, comp, k1, k2, k3, -⟩ := (hK.2 t0 _ (ht cA)).2
    have hcomp : comp = D.1 K := Option.some.inj (k3.symm.trans hcls.1)
    subst hcomp
    obtain ⟨kC, hkC, -⟩ := hcls.2
    exact W.aast hx hb hat (fun q h => by cases h) (fun h => by cases h) k1 k2 rfl hkC ⟨h0, by show _ < (arrV _ _ _).slots.size; rw [arrV_size]; exact hlt⟩ g1 (fun q h => by rw [g3] at h; cases h) (by rw [g2]; exact hkC) (by rw [g2]; exact va_assign hcls) rfl rfl hd fin
theorem z_alen {a j et n t0 : Nat} {ty : FieldType} (C : Cx κ own cc nL ret d) (hla : la a = some (et, n)) (ht : ∀ cA, (tyl cA)[t0]? = some (cA et, ty)) (h3 : et ≤ 2) (hj : okj κ σ a j) (hd : decode cc pc = .ok (.arraylength, 1)) (kz : Z κ cs Q (pc + 1) lv (vi (n : Int) :: st) ad σ) : Z κ cs Q pc lv (vo ad a (some j) :: st) ad σ := by
  obtain ⟨p, l, e, R, s, m, args, below, meth, c, D, cA, lo, sb⟩ := κ
  obtain ⟨hx, hb, hml, hown, hts, hlk, hK, hr, hR, hlo, hSA⟩ := C
  intro H locs ls hl hW hS
  have hz := kz H locs ls hl hW hS
  have hat := hW.at hj
  rw [enc_arr hla] at hat
  obtain ⟨x, hx1, hx2⟩ : ∃ x : vp_A, encA cA ad σ a et n j = (cA et, x) ∧ x.1 = n := by
    unfold encA
    by_cases q : et ≤ 1
    · rw [if_pos q]; exact ⟨_, rfl, rfl⟩
    · rw [if_neg q, if_pos (by omega), show et = 2 by omega]; exact ⟨_, rfl, rfl⟩
  rw [hx1] at hat
  refine va_alen (D := D) hx hb hK (va_P1 hat) 0 t0 rfl (ht cA) (v := Int32.ofInt (n : Int)) ?_ hd hz
  rw [hx2]; rfl
end HEAP
