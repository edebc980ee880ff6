/-! makers: constructors, and the methods that make an object -/
def offK (κ : Cxt) : Cxt := match κ with
  | (p, l, e, R, s, m, args, below, meth, c, D, cA, lo, _) => (p, l, e, R, s, m, args, below, meth, c, D, cA, lo, false)
def isF (κ : Cxt) : Prop := match κ with
  | (_, _, _, _, _, _, _, _, _, _, _, _, _, sb) => sb = false
def isInit (κ : Cxt) : Prop := match κ with
  | (_, _, _, _, _, _, _, _, meth, _, _, _, _, _) => meth.name = "<init>"
theorem isF_off {κ : Cxt} : isF (offK κ) := by
  obtain ⟨p, l, e, R, s, m, args, below, meth, c, D, cA, lo, sb⟩ := κ
  rfl
theorem noT {κ : Cxt} {P : Prop} (F : isF κ) : isT κ → P := by
  obtain ⟨p, l, e, R, s, m, args, below, meth, c, D, cA, lo, sb⟩ := κ
  intro T
  have h1 : sb = false := F
  have h2 : sb = true := T
  rw [h1] at h2; cases h2
theorem Cx.off {κ : Cxt} {own : String} {cc : ByteArray} {nL d : Nat} {ret : Option FieldType} (C : Cx κ own cc nL ret d) : Cx (offK κ) own cc nL ret d := by
  obtain ⟨p, l, e, R, s, m, args, below, meth, c, D, cA, lo, sb⟩ := κ
  exact C
theorem csOK_off {κ : Cxt} {cs : Nat × Nat} (h : csOK κ cs) : csOK (offK κ) cs := by
  obtain ⟨p, l, e, R, s, m, args, below, meth, c, D, cA, lo, sb⟩ := κ
  exact h
theorem csOK_le {κ : Cxt} {a b : Nat × Nat} (h : csOK κ b) (h1 : a.1 ≤ b.1) (h2 : a.2 ≤ b.2) : csOK κ a := by
  obtain ⟨p, l, e, R, s, m, args, below, meth, c, D, cA, lo, sb⟩ := κ
  exact ⟨Nat.le_trans h1 h.1, Nat.le_trans h2 h.2⟩
theorem WD.off {sb : Bool} {D : va_G} {cA : Nat → ClassId} {lo : Nat} {ad : Nat → Nat → Nat} {σ : St} {H : Heap} (h : WD sb D cA lo ad σ H) : WD false D cA lo ad σ H := ⟨h.1, h.2.1, h.2.2.1, h.2.2.2.1, h.2.2.2.2.1, (fun q => by cases q), h.2.2.2.2.2.2⟩
theorem WD.on {sb sb2 : Bool} {D : va_G} {cA : Nat → ClassId} {lo : Nat} {ad : Nat → Nat → Nat} {σ : St} {H : Heap} (hS : SF σ) (h : WD sb D cA lo ad σ H) : WD sb2 D cA lo ad σ H := ⟨h.1, h.2.1, h.2.2.1, h.2.2.2.1, h.2.2.2.2.1, fun _ => hS, h.2.2.2.2.2.2⟩
def WSb (sb : Bool) (D : va_G) (cA : Nat → ClassId) (lo : Nat) (ad : Nat → Nat → Nat) (σ : St) (U : State) : Prop := WD sb D cA lo ad σ U.heap ∧ va_K D vwCl (tyl cA) U ∧ lo ≤ U.heap.size ∧ SAt U lo ∧ NWs U
theorem WSb.moved {sb : Bool} {D : va_G} {cA : Nat → ClassId} {lo : Nat} {ad : Nat → Nat → Nat} {σ : St} {u U : State} (hvm : U.vm = u.vm) (hH : U.heap = u.heap) (h : WSb sb D cA lo ad σ u) : WSb sb D cA lo ad σ U :=
  have ha : u.vm.Alike U.vm := by rw [hvm]; exact Vm.Alike.refl u.vm
  ⟨by rw [hH]; exact h.1, va_K.moved ha h.2.1, by rw [hH]; exact h.2.2.1, h.2.2.2.1.moved ha (fun q _ => by rw [hH]), h.2.2.2.2.same hvm⟩
/-- what stood before stands, where it stood -/
def Grw (σ : St) (ad : Nat → Nat → Nat) (σ2 : St) (ad2 : Nat → Nat → Nat) : Prop := ∀ K j, j < gN σ K → j < gN σ2 K ∧ ad2 K j = ad K j
def QCA (sb : Bool) (D : va_G) (cA : Nat → ClassId) (lo : Nat) (ad : Nat → Nat → Nat) (σ : St) {α : Type} (en : (Nat → Nat → Nat) → α → Option Value) (ok : α → Prop) (X : α → St → Prop) : Array Value → State → Outcome → State → Prop := fun _ U o t =>
  ∃ (r : α) (σ2 : St) (ad2 : Nat → Nat → Nat), o = .returned (en ad2 r) ∧ ok r ∧ X r σ2 ∧ Grw σ ad σ2 ad2 ∧ WD sb D cA lo ad2 σ2 t.heap ∧ va_F (fun q => lo ≤ q) U t
def rmA (d mc ms : Nat) : Room := { frames := d, cells := mc, slots := ms, locals := 40 * d }
def CtA (sb : Bool) (y : MethodName) (cc : ByteArray) (nL : Nat) (ret : Option FieldType) (d mc ms : Nat) {α : Type} (av : (Nat → Nat → Nat) → List Value) (f : St → Option (α × St)) (en : (Nat → Nat → Nat) → α → Option Value) (ok : α → Prop) (pre : St → Prop) : Prop :=
  ∀ (l : Launch) (D : va_G) (cA : Nat → ClassId) (lo : Nat) (ad : Nat → Nat → Nat) (σ : St) (X : α → St → Prop), pre σ → wpO (f σ) (fun q => X q.1 q.2) →
    Met l y (.code y cc nL ret :: lw_g) (rmA d mc ms) (fun a U => a = (av ad).toArray ∧ WSb sb D cA lo ad σ U) (QCA sb D cA lo ad σ en ok X) mc ms (fun q => lo ≤ q)
def QmA (κ : Cxt) (sb : Bool) (mc ms : Nat) (ad : Nat → Nat → Nat) (σ : St) {α : Type} (en : (Nat → Nat → Nat) → α → Option Value) (ok : α → Prop) (X : α → St → Prop) : State → Prop := match κ with
  | (_, _, _, _, s, _, args, below, _, _, D, cA, lo, _) => MQ below (QCA sb D cA lo ad σ en ok X) args s mc ms (fun q => lo ≤ q)
theorem CtA.of {sb : Bool} {y : MethodName} {cc : ByteArray} {nL : Nat} {ret : Option FieldType} {d mc ms : Nat} {α : Type} {av : (Nat → Nat → Nat) → List Value} {f : St → Option (α × St)} {en : (Nat → Nat → Nat) → α → Option Value} {ok : α → Prop} {pre : St → Prop} (hy : plainName y.cls = true) (hlen : ∀ ad, (lg_sl (av ad)).length ≤ nL)
    (body : ∀ (κ : Cxt) (ad : Nat → Nat → Nat) (σ : St) (X : α → St → Prop), Cx κ y.cls cc nL ret d → (sb = true → isT κ) → (sb = false → isF κ) → (y.name = "<init>" → isInit κ) → csOK κ (mc, ms) → pre σ → wpO (f σ) (fun q => X q.1 q.2) → Z κ (0, 0) (QmA κ sb mc ms ad σ en ok X) 0 (lv_args 0 (av ad)) [] ad σ) : CtA sb y cc nL ret d mc ms av f en ok pre := by
  intro l D cA lo ad σ X hpre hwp
  refine Met.ofW (cc := cc) (maxL := nL) (ret := ret) hy rfl ?_
  intro p e s m args below meth c s₁ B hml hv
  obtain ⟨rfl, hW, hK, hlo, hSA, hNW⟩ := hv
  have hts := atoms_spec (ws := .code y cc nL ret :: lw_g) B.pre
  have C : Cx (p, l, e, rmA d mc ms, s, m, (av ad).toArray, below, meth, c, D, cA, lo, sb) y.cls cc nL ret d :=
    ⟨B.exec, B.bytes, hml, findClass_of_methodNamed B.named, fun w hw => (List.mem_append.mp hw).elim (fun q => hts w (List.mem_cons_of_mem _ q)) (fun q => va_Nw.use (lw_n_onT q) (hNW w q)), B.notSynchronized, hK, B.returns, ⟨Nat.le_refl _, Nat.le_refl _⟩, hlo, hSA⟩
  rw [lg_entry_eq]
  have hl := lv_entry (av ad) (n := nL) (hlen ad)
  exact body _ ad σ X C id id (fun q => by
    have := (name_of_methodNamed B.named B.method).1
    rw [q] at this; exact this) ⟨Nat.le_refl _, Nat.le_refl _⟩ hpre hwp s.heap [] _ (by rw [hml]; exact hl) hW va_S.rf
def LkPF (own : String) (i K k c t : Nat) : Prop := c = co K k ∧ (ftl K)[k]? = some t ∧ ∃ (T : u_T) (N : Nat) (ty : Nat → FieldType), vwCl[K]? = some (own, T, N) ∧ k < N ∧ (∀ w ∈ u_ws own T N, w ∈ lw_u) ∧ (T k).1 = own ∧ Cond.fieldLink own i own (T k).2.1 (T k).2.2.1 ∈ lw_u ∧
  (∀ k, k < N → parseFieldDescriptor (T k).2.2.1 = some (ty k)) ∧ (∀ a, a < N → ∀ b, b < N → a ≠ b → (T a).2.1 ≠ (T b).2.1) ∧ ((t = 0 ∧ ty k = .int) ∨ (¬ t ≤ 1 ∧ (∀ a, narrow (ty k) (.ref a) = .ref a) ∧ ∀ a, fits (ty k) (.ref a) = true))
theorem gP_pco {σ : St} {K k j K2 k2 j2 : Nat} {v : Option Nat} (h1 : k < 100) (h2 : k2 < 100) (h : ¬ (K2 = K ∧ k2 = k ∧ j2 = j)) : gP (sP σ (pco K k) j 0 v) (pco K2 k2) j2 0 = gP σ (pco K2 k2) j2 0 := by
  rw [gP_sP, if_neg]
  rintro ⟨z1, z2, -⟩
  have := co_inj (K := K2) (k := k2) (K2 := K) (k2 := k) h2 h1 (by unfold pco at z1; omega)
  exact h ⟨this.1, this.2, z2⟩
theorem encO_setP {ad : Nat → Nat → Nat} {σ : St} {K j k t : Nat} {v : Option Nat} (h : (ftl K)[k]? = some t) (h1 : ¬ t ≤ 1) : encO ad (sP σ (pco K k) j 0 v) K j = (encO ad σ K j).set k (vo ad (if t = 2 then co K k else t - 3) v) := by
  have hk := tb_K h
  apply List.ext_getElem?
  intro x
  unfold encO
  by_cases hx : x = k
  · subst hx
    have hl : x < ((ftl K).mapIdx (fun k t => encF ad σ K j k t)).length := by
      rw [List.length_mapIdx]; exact (List.getElem?_eq_some_iff.mp h).1
    rw [List.getElem?_set_self hl, List.getElem?_mapIdx, h]
    show some (encF ad _ K j x t) = _
    unfold encF
    have hp : gP (sP σ (pco K x) j 0 v) (pco K x) j 0 = v := by rw [gP_sP, if_pos ⟨rfl, rfl, rfl⟩]
    rw [if_neg h1, hp]
    by_cases q : t = 2
    · rw [if_pos q, if_pos q]
    · rw [if_neg q, if_neg q]
  · rw [List.getElem?_set_ne (Ne.symm hx), List.getElem?_mapIdx, List.getElem?_mapIdx]
    cases ht : (ftl K)[x]? with
    | none => rfl
    | some t2 =>
      show some (encF ad _ K j x t2) = some (encF ad _ K j x t2)
      unfold encF
      rw [gP_pco hk.2 (tb_K ht).2 (fun q => hx q.2.1)]
      rfl
theorem enc_ref {cA : Nat → ClassId} {ad : Nat → Nat → Nat} {σ : St} {K j k t : Nat} {v : Option Nat} (h : (ftl K)[k]? = some t) (K2 j2 : Nat) (hne : ¬ (K2 = K ∧ j2 = j)) : enc cA ad (sP σ (pco K k) j 0 v) K2 j2 = enc cA ad σ K2 j2 := by
  refine enc_congr (fun _ _ _ _ => rfl) (fun k2 t2 h2 h3 => gP_pco (tb_K h).2 (tb_K h2).2 (fun q => hne ⟨q.1, q.2.2⟩)) (fun q hq e => ⟨rfl, rfl, ?_⟩)
  have := la_lt hq
  rw [gP_sP, if_neg (fun z => by have := z.1; unfold pco at this; omega)]
theorem PW_ref {σ : St} {K j k t : Nat} {v : Option Nat} (ht : (ftl K)[k]? = some t) (hv : ∀ x, v = some x → x < gN σ (if t = 2 then co K k else t - 3)) (h : PW σ) : PW (sP σ (pco K k) j 0 v) := by
  constructor
  · intro a2 K2 n2 j2 e2 x h1 h2 h3
    have := la_lt h1
    rw [gP_sP, if_neg (fun z => by have := z.1; unfold pco at this; omega)] at h3
    exact h.1 a2 K2 n2 j2 e2 x h1 h2 h3
  · intro K2 k2 t2 j2 x h1 h2 h3 h4
    by_cases q : K2 = K ∧ k2 = k ∧ j2 = j
    · obtain ⟨q1, q2, q3⟩ := q
      subst q1; subst q2; subst q3
      rw [gP_sP, if_pos ⟨rfl, rfl, rfl⟩] at h4
      rw [ht] at h1
      cases h1
      exact hv x h4
    · rw [gP_pco (tb_K ht).2 (tb_K h1).2 q] at h4
      exact h.2 K2 k2 t2 j2 x h1 h2 h3 h4
section CTOR
variable {κ : Cxt} {own : String} {cc : ByteArray} {nL d pc : Nat} {ret : Option FieldType} {cs : Nat × Nat} {Q : State → Prop} {lv : List (Nat × Value)} {st stk : List Value} {ad : Nat → Nat → Nat} {σ : St}
theorem z_off (k : Z (offK κ) cs Q pc lv st ad σ) : Z κ cs Q pc lv st ad σ := by
  obtain ⟨p, l, e, R, s, m, args, below, meth, c, D, cA, lo, sb⟩ := κ
  intro H locs ls hl hW hS
  exact k H locs ls hl hW.off hS
theorem z_on (hSF : SF σ) (k : Z κ cs Q pc lv st ad σ) : Z (offK κ) cs Q pc lv st ad σ := by
  obtain ⟨p, l, e, R, s, m, args, below, meth, c, D, cA, lo, sb⟩ := κ
  intro H locs ls hl hW hS
  exact k H locs ls hl (hW.on hSF) hS
theorem z_widen {k n : Nat} (h1 : cs.1 ≤ k) (h2 : cs.2 ≤ n) (kz : Z κ (k, n) Q pc lv st ad σ) : Z κ cs Q pc lv st ad σ := by
  obtain ⟨p, l, e, R, s, m, args, below, meth, c, D, cA, lo, sb⟩ := κ
  intro H locs ls hl hW hS
  exact W.widen h1 h2 (kz H locs ls hl hW hS)
theorem z_conv {lv2 : List (Nat × Value)} {st2 : List Value} (h1 : lv = lv2) (h2 : st = st2) (k : Z κ cs Q pc lv2 st2 ad σ) : Z κ cs Q pc lv st ad σ := by
  subst h1; subst h2; exact k
theorem z_objInit {i K j : Nat} (C : Cx κ own cc nL ret d) (hd1 : 1 ≤ d) (hk : Cond.methodLink own i Lib.objectInit ∈ lw_u) (hi : Cond.instanceMethod Lib.objectInit ∈ lw_u) (hc : Cond.code Lib.objectInit ⟨#[0xb1]⟩ 1 none ∈ lw_u) (hst : (st.map fun v => v.category).sum ≤ 8) (hd : decode cc pc = .ok (.invokespecial i, 3)) (kz : Z κ cs Q (pc + 3) lv st ad σ) : Z κ cs Q pc lv (vo ad K (some j) :: st) ad σ := by
  obtain ⟨p, l, e, R, s, m, args, below, meth, c, D, cA, lo, sb⟩ := κ
  obtain ⟨hx, hb, hml, hown, hts, hlk, hK, hr, hR, hlo, hSA⟩ := C
  intro H locs ls hl hW hS
  have hz := kz H locs ls hl hW hS
  have hroom : 2 * (F0 m pc ls (vo ad K (some j) :: st)).monitorRoom + (st.map fun v => v.category).sum ≤ 8 := lv_room hst
  exact W.objInit hx hb hown (hts _ hk) (hts _ hi) (hts _ hc) rfl hl.1 rfl hd (Nat.le_trans hd1 hR.1) (by have := hR.2; omega) hz
theorem z_pFR {i K k j c t : Nat} {v : Value} {σ2 : St} (hI : isInit κ) (C : Cx κ own cc nL ret d) (hL : LkPF own i K k c t) (hj : okj κ σ K j) (hv : (t = 0 ∧ ∃ z, v = vi z) ∨ (¬ t ≤ 1 ∧ ∃ a, v = .ref a)) (hd : decode cc pc = .ok (.putfield i, 3))
    (hN : σ2.2.2.2 = σ.2.2.2) (hSF : isT κ → SF σ → SF σ2) (hPW : PW σ → PW σ2) (hr1 : (∀ c j e, inr (gI σ c j e)) → ∀ c j e, inr (gI σ2 c j e)) (hq1 : ∀ c j e, gJ σ2 c j e = gJ σ c j e) (hset : encO ad σ2 K j = (encO ad σ K j).set k v) (hoth : ∀ cA K2 j2, ¬ (K2 = K ∧ j2 = j) → enc cA ad σ2 K2 j2 = enc cA ad σ K2 j2)
    (kz : Z κ cs Q (pc + 3) lv st ad σ2) : Z κ cs Q pc lv (v :: vo ad K (some j) :: st) ad σ := by
  obtain ⟨p, l, e, R, s, m, args, below, meth, c, D, cA, lo, sb⟩ := κ
  obtain ⟨hx, hb, hml, hown, hts, hlk, hK, hr, hR, hlo, hSA⟩ := C
  intro H locs ls hl hW hS0
  obtain ⟨-, ht, T, N, ty, hc, hk, hin, hCn, hlink, hty, hnm, htk⟩ := hL
  have hat := hW.at hj
  rw [enc_obj (tb_t ht).2] at hat
  have hap := va_apart (own := own) hts hin ty hty hnm hK hc
  obtain ⟨r, h2, cell, q1, q2, q3, q4⟩ := hat
  have hr2 : r = (own, T, N) := Option.some.inj (h2.symm.trans hc)
  subst hr2
  obtain ⟨hS, hfc, kC, hkC, hkind⟩ := hK.1 K _ hc
  obtain ⟨cf, kf, fi, f, hi, hsl⟩ := hS k hk
  have hlay := hts _ (hin _ (u_in_lay hk))
  have hst := (u_facts hfc hkC (u_lays hts hin hk) hi).1
  have hnf : narrow (ty k) v = v ∧ fits (ty k) v = true := by
    rcases hv with ⟨z1, z, rfl⟩ | ⟨z1, a, rfl⟩
    · rcases htk with ⟨-, y⟩ | ⟨y, -⟩
      · rw [y]; exact ⟨rfl, rfl⟩
      · omega
    · rcases htk with ⟨y, -⟩ | ⟨-, y1, y2⟩
      · omega
      · exact ⟨y1 a, y2 a⟩
  have hfs : k < (encO ad σ K j).length := by unfold encO; rw [List.length_mapIdx]; exact (List.getElem?_eq_some_iff.mp ht).1
  have fin : ∀ H2 : Heap, H2[ad K j]? = some (cell.setSlot f.slot v) → H2.size = H.size → (∀ q, q ≠ ad K j → H2[q]? = H[q]?) → W p l e R s m args below meth c H2 (locs ++ [⟨ad K j, f.slot⟩]) cs.1 cs.2 Q (F0 m (pc + 3) ls st) := by
    intro H2 e1 e2 e3
    rw [hsl] at e1
    refine kz H2 _ ls hl ?_ (hS0.put e2 e3 (hW.2.2.1 K j (hW.ok hj)))
    have hg : ∀ K, gN σ2 K = gN σ K := fun K => congrFun hN K
    obtain ⟨h1, h2, h3, h4, h5, h6, h7⟩ := hW
    have hjn : j < gN σ K := WD.ok (p := p) (l := l) (e := e) (R := R) (s := s) (m := m) (args := args) (below := below) (meth := meth) (c := c) ⟨h1, h2, h3, h4, h5, h6, h7⟩ hj
    refine ⟨fun K2 j2 hj2 => ?_, fun K2 j2 K3 j3 a b c => h2 K2 j2 K3 j3 (by rw [← hg]; exact a) (by rw [← hg]; exact b) c, fun K2 j2 a => h3 K2 j2 (by rw [← hg]; exact a), hr1 h4, fun c j e => by rw [hq1]; exact h5 c j e, fun q => hSF q (h6 q), hPW h7⟩
    rw [hg] at hj2
    by_cases hk2 : K2 = K ∧ j2 = j
    · rw [hk2.1, hk2.2, enc_obj (tb_t ht).2, hset]
      exact ⟨_, hc, t_OB.to (V := updV (vp_V (encO ad σ K j)) k v) ⟨_, e1, q2, q3, t_set q4 hap hk v⟩ (fun j2 _ => vp_updV_set hfs v j2)⟩
    · rw [hoth cA K2 j2 hk2]
      exact (h1 K2 j2 hj2).kept (e3 _ (fun q => hk2 (h2 K2 j2 K j hj2 hjn q)))
  have hi2 : s.fieldFound? own (T k).2.1 (T k).2.2.1 = some (cf, kf, fi, f) := by rw [hCn] at hi; exact hi
  unfold u_lay at hlay
  by_cases hfin : (T k).2.2.2 = true
  · rw [if_pos hfin] at hlay
    have hcf : m.cls = cf := by
      obtain ⟨_, _, c2, _, _, _, -, -, hf2, -, -, -, hown2, -⟩ := Cond.laysFinal_spec hlay
      have e1 : c2 = cf := by have := hi.symm.trans hf2; simp at this; exact this.1.symm
      rw [hCn] at hown2
      rw [← e1]; exact Option.some.inj (hown.symm.trans hown2)
    have h6 := u_fits hfc hkC hkind (Or.inr hlay) hi (hty k hk) hnf.1 hnf.2
    exact W.putFinK hx hb hown (hts _ hlink) hi2 hst hcf hI (by rw [q2]; exact h6) q1 q3 (by rw [hsl]; exact k2_hasslot (q4 k hk)) rfl rfl hd fin
  · rw [if_neg hfin] at hlay
    have h6 := u_store hfc hkC hkind hlay hi (hty k hk) hnf.1 hnf.2
    exact W.putK (ref := own) hx hb (f := f) ⟨hown, hts _ hlink, ⟨_, _, _, hi2⟩, hst⟩ (by rw [q2]; exact h6) q1 q3 (by rw [hsl]; exact k2_hasslot (q4 k hk)) rfl rfl hd fin
theorem z_pF {i K k j c : Nat} {v : Int} (hI : isInit κ) (C : Cx κ own cc nL ret d) (hL : LkPF own i K k c 0) (hj : okj κ σ K j) (hv : inr v) (hd : decode cc pc = .ok (.putfield i, 3)) (kz : Z κ cs Q (pc + 3) lv st ad (sI σ c j 0 v)) : Z κ cs Q pc lv (vi v :: vo ad K (some j) :: st) ad σ := by
  have hL2 := hL
  obtain ⟨rfl, ht, -⟩ := hL2
  exact z_pFR (σ2 := sI σ (co K k) j 0 v) hI C hL hj (Or.inl ⟨rfl, v, rfl⟩) hd rfl (fun _ h => h) (fun h => h) (fun h => inr_sI h hv) (fun _ _ _ => rfl) (encO_set ht (by decide)) (fun cA K2 j2 h => enc_field ht (by decide) K2 j2 h) kz
theorem z_pR {i K k j c t K2 j2 : Nat} (hI : isInit κ) (F : isF κ) (C : Cx κ own cc nL ret d) (hL : LkPF own i K k c t) (h1 : ¬ t ≤ 1) (hK2 : K2 = if t = 2 then co K k else t - 3) (hj : okj κ σ K j) (hj2 : j2 < gN σ K2) (hd : decode cc pc = .ok (.putfield i, 3)) (kz : Z κ cs Q (pc + 3) lv st ad (sP σ (5000 + c) j 0 (some j2))) : Z κ cs Q pc lv (vo ad K2 (some j2) :: vo ad K (some j) :: st) ad σ := by
  have hL2 := hL
  obtain ⟨rfl, ht, -⟩ := hL2
  exact z_pFR (σ2 := sP σ (pco K k) j 0 (some j2)) hI C hL hj (Or.inr ⟨h1, _, rfl⟩) hd rfl (noT F) (PW_ref ht (fun x hx => by cases hx; rw [← hK2]; exact hj2)) (fun h => h) (fun _ _ _ => rfl) (by rw [encO_setP ht h1, hK2]) (fun cA K3 j3 h => enc_ref ht K3 j3 h) kz
theorem z_returnA {mc ms : Nat} {sb2 : Bool} {σ2 : St} {ad2 : Nat → Nat → Nat} {X : Unit → St → Prop} (C : Cx κ own cc nL none d) (hd : decode cc pc = .ok (.return_, 1)) (hg : Grw σ ad σ2 ad2) (hX : X () σ2) (hS : sb2 = true → SF σ2) : Z κ (mc, ms) (QmA κ sb2 mc ms ad σ enV okV X) pc lv [] ad2 σ2 := by
  obtain ⟨p, l, e, R, s, m, args, below, meth, c, D, cA, lo, sb⟩ := κ
  obtain ⟨hx, hb, hml, hown, hts, hlk, hK, hre, hR, hlo, hSA⟩ := C
  intro H locs ls hl hW hS0
  exact W.vret hx hb hre (fun t ht hWm => ⟨(), σ2, ad2, rfl, trivial, hX, hg, by rw [ht]; exact ⟨hW.1, hW.2.1, hW.2.2.1, hW.2.2.2.1, hW.2.2.2.2.1, hS, hW.2.2.2.2.2.2⟩, hS0.F ht⟩) hS0.2.2 hd hlk
theorem z_ireturnA {mc ms : Nat} {sb2 : Bool} {σ2 : St} {ad2 : Nat → Nat → Nat} {X : Int → St → Prop} {r : Int} (C : Cx κ own cc nL (some .int) d) (hd : decode cc pc = .ok (.ireturn, 1)) (hr : inr r) (hg : Grw σ ad σ2 ad2) (hX : X r σ2) (hS : sb2 = true → SF σ2) : Z κ (mc, ms) (QmA κ sb2 mc ms ad σ enI okI X) pc lv [vi r] ad2 σ2 := by
  obtain ⟨p, l, e, R, s, m, args, below, meth, c, D, cA, lo, sb⟩ := κ
  obtain ⟨hx, hb, hml, hown, hts, hlk, hK, hre, hR, hlo, hSA⟩ := C
  intro H locs ls hl hW hS0
  exact W.iret hx hb hre (fun t ht hWm => ⟨r, σ2, ad2, rfl, hr, hX, hg, by rw [ht]; exact ⟨hW.1, hW.2.1, hW.2.2.1, hW.2.2.2.1, hW.2.2.2.2.1, hS, hW.2.2.2.2.2.2⟩, hS0.F ht⟩) hS0.2.2 hd hlk
variable {y : MethodName} {bc : ByteArray} {nL2 d2 n i mc ms : Nat} {ret2 : Option FieldType} {α β : Type} {av : (Nat → Nat → Nat) → List Value} {f : St → Option (α × St)} {en : (Nat → Nat → Nat) → α → Option Value} {ok : α → Prop} {pre : St → Prop} {kf : α → St → Option β} {Xc : β → Prop}
theorem z_runA {p : Program} {l : Launch} {e : Env} {R : Room} {s : State} {m : MethodId} {args a0 : Array Value} {below : List Frame} {meth : Method} {c : Code} {D : va_G} {cA : Nat → ClassId} {lo : Nat} {sb : Bool} {H : Heap} {locs : List Loc} {ls : Array Slot} {X : α → St → Prop}
    (hr : va_Run p l e R s m args below meth c H locs cs.1 cs.2 mc ms (F0 m pc ls stk) st (QCA sb D cA lo ad σ en ok X a0) (fun q => lo ≤ q)) (hl : lv_has ls c.maxLocals lv) (hS : va_S (fun q => lo ≤ q) s.heap H locs)
    (k : ∀ r σ2 ad2, ok r → X r σ2 → Grw σ ad σ2 ad2 → Z (p, l, e, R, s, m, args, below, meth, c, D, cA, lo, sb) (cs.1 + mc, cs.2 + ms) Q (pc + 3) lv ((en ad2 r).toList ++ st) ad2 σ2) : W p l e R s m args below meth c H locs cs.1 cs.2 Q (F0 m pc ls stk) := by
  intro T hT X0
  obtain ⟨v, st₀, t, T2, L, h0, X2, hL, e1, e2, ⟨r, σ2, ad2, hv, hok, hX, hN, hWD, hz, hk⟩, stp⟩ := hr T hT X0
  cases hv
  rw [h0] at hz hk
  obtain ⟨t2, a1, b1⟩ := k r σ2 ad2 hok hX hN T2.heap (locs ++ L) ls hl (by rw [e1]; exact hWD)
    ⟨Nat.le_trans hS.1 (by rw [e1]; exact hz), fun q h1 h2 => by rw [e1, hk q (Nat.lt_of_lt_of_le h1 hS.1) h2]; exact hS.2.1 q h1 h2, fun q hq => by
      rcases List.mem_append.mp hq with h | h
      · exact hS.2.2 q h
      · exact hL q h⟩ T2 rfl X2
  exact ⟨t2, stp t2 a1, b1⟩
/-- a constructor is called -/
theorem z_cI {K j : Nat} (F : isF κ) (C : Cx κ own cc nL ret d) (hM : CtA false y bc nL2 none d2 mc ms av f en ok pre) (hL : LkM own i y bc nL2 none n) (hV : Cond.instanceMethod y ∈ lw_u) (hy : y.name = "<init>") (hdec : decode cc pc = .ok (.invokespecial i, 3)) (As : List Value) (hav : av ad = vo ad K (some j) :: As) (hs : stk = As.reverse ++ vo ad K (some j) :: st) (hn : As.length = n) (hpre : pre σ) (hd2 : d2 + 1 ≤ d) (hst : (st.map fun v => v.category).sum ≤ 8) (hcs : csOK κ (cs.1 + mc, cs.2 + ms))
    (h : wpO (bnd (f σ) kf) Xc) (k : ∀ r σ2 ad2, ok r → Grw σ ad σ2 ad2 → wpO (kf r σ2) Xc → Z κ (cs.1 + mc, cs.2 + ms) Q (pc + 3) lv ((en ad2 r).toList ++ st) ad2 σ2) : Z κ cs Q pc lv stk ad σ := by
  obtain ⟨p, l, e, R, s, m, args, below, meth, c, D, cA, lo, sb⟩ := κ
  obtain ⟨hx, hb, hml, hown, hts, hlk, hK, hre, hR, hlo, hSA⟩ := C
  obtain ⟨hcode, hini, hdd, hn21, hlink⟩ := hL
  have F : sb = false := F
  subst F
  intro H locs ls hl hW hS
  have hMet := hM l D cA lo ad σ (fun r s => wpO (kf r s) Xc) hpre (wpO_bnd.mp h)
  have hG2 : ∀ w ∈ Cond.code y bc nL2 none :: lw_g, w ∈ lw_u ∧ goodWord w = true := fun w hw => by
    rcases List.mem_cons.mp hw with q | q
    · rw [q]; exact ⟨hcode, rfl⟩
    · exact ⟨List.mem_append_left _ q, (List.mem_filter.mp q).2⟩
  have hG : GoodIn lw_u (Cond.code y bc nL2 none :: lw_g) := lw_goodIn hG2
  have hNW : NWs s := fun w hw => va_Nw.of (lw_n_onT hw) (hts w (List.mem_append_right _ hw))
  have hRR : (rmA d2 mc ms).frames + 1 ≤ R.frames ∧ 8 + (nL2 + 11) + (rmA d2 mc ms).locals ≤ R.locals := by
    obtain ⟨r1, r2⟩ := hR
    show d2 + 1 ≤ R.frames ∧ 8 + (nL2 + 11) + 40 * d2 ≤ R.locals
    constructor <;> omega
  have hp : PreS s H (fun a U => a = (av ad).toArray ∧ WSb false D cA lo ad σ U) (.ref (ad K j) :: As) :=
    ⟨fun a U g mk q => ⟨q.1, WSb.moved (u := U) (U := U.calling g mk a) rfl rfl q.2⟩, fun U hU hWm =>
      ⟨by rw [hav]; rfl, by rw [hU]; exact hW, va_K.moved hWm.alike hK, by rw [hU]; exact Nat.le_trans hlo hS.1, hSA.moved hWm.alike (fun q hq => by rw [hU]; exact hS.2.1 q (Nat.lt_of_lt_of_le hq hlo) (Nat.not_le.mpr hq)), hNW.warm hWm⟩⟩
  have hF : CallFix p m c cc c.maxLocals s args lw_u own := ⟨hx, hb, rfl, hown, hts⟩
  have hsz : (F0 m pc ls stk).locals.size = c.maxLocals := hl.1
  have hroom : 2 * (F0 m pc ls stk).monitorRoom + (st.map fun v => v.category).sum ≤ 8 := lv_room hst
  rcases hlink with hlink | ⟨host, hlink⟩
  · exact z_runA (va_runI hF hMet (cwI n hts hG rfl rfl rfl (hts _ hini) (hts _ hlink) (hts _ hV) hy hdd hRR) hp rfl hn hsz hs hroom hdec hcs) hl hS (fun r σ2 ad2 h1 h2 h3 => k r σ2 ad2 h1 h3 h2)
  · exact z_runA (va_runIN (host := host) hF hMet ⟨va_cnB n hts hG rfl rfl rfl (va_Nw.of rfl (hts _ hlink)) (hts _ hini) hdd hRR, hy, hts _ hV⟩ hp rfl hn hsz hs hroom hdec hcs) hl hS (fun r σ2 ad2 h1 h2 h3 => k r σ2 ad2 h1 h3 h2)
/-- a method that makes an object is called -/
theorem z_cVA {K j N : Nat} {Tt : u_T} (T : isT κ) (C : Cx κ own cc nL ret d) (hM : CtA true y bc nL2 ret2 d2 mc ms av f en ok pre) (hL : LkM own i y bc nL2 ret2 n) (hV : LkV y) (hdec : decode cc pc = .ok (.invokevirtual i, 3)) (As : List Value) (hav : av ad = vo ad K (some j) :: As) (hs : stk = As.reverse ++ vo ad K (some j) :: st) (hn : As.length = n) (hcl : vwCl[K]? = some (y.cls, Tt, N)) (hlK : la K = none) (hj : okj κ σ K j) (hpre : pre σ) (hd2 : d2 + 1 ≤ d) (hst : (st.map fun v => v.category).sum ≤ 8) (hcs : csOK κ (cs.1 + mc, cs.2 + ms))
    (h : wpO (bnd (f σ) kf) Xc) (k : ∀ r σ2 ad2, ok r → Grw σ ad σ2 ad2 → wpO (kf r σ2) Xc → Z κ (cs.1 + mc, cs.2 + ms) Q (pc + 3) lv ((en ad2 r).toList ++ st) ad2 σ2) : Z κ cs Q pc lv stk ad σ := by
  obtain ⟨p, l, e, R, s, m, args, below, meth, c, D, cA, lo, sb⟩ := κ
  obtain ⟨hx, hb, hml, hown, hts, hlk, hK, hre, hR, hlo, hSA⟩ := C
  obtain ⟨hcode, hini, hdd, hn21, hlink⟩ := hL
  have T : sb = true := T
  subst T
  intro H locs ls hl hW hS
  have hMet := hM l D cA lo ad σ (fun r s => wpO (kf r s) Xc) hpre (wpO_bnd.mp h)
  have hat := hW.at hj
  rw [enc_obj hlK] at hat
  have hG2 : ∀ w ∈ Cond.code y bc nL2 ret2 :: lw_g, w ∈ lw_u ∧ goodWord w = true := fun w hw => by
    rcases List.mem_cons.mp hw with q | q
    · rw [q]; exact ⟨hcode, rfl⟩
    · exact ⟨List.mem_append_left _ q, (List.mem_filter.mp q).2⟩
  have hG : GoodIn lw_u (Cond.code y bc nL2 ret2 :: lw_g) := lw_goodIn hG2
  have hNW : NWs s := fun w hw => va_Nw.of (lw_n_onT hw) (hts w (List.mem_append_right _ hw))
  have hRR : (rmA d2 mc ms).frames + 1 ≤ R.frames ∧ 8 + (nL2 + 11) + (rmA d2 mc ms).locals ≤ R.locals := by
    obtain ⟨r1, r2⟩ := hR
    show d2 + 1 ≤ R.frames ∧ 8 + (nL2 + 11) + 40 * d2 ≤ R.locals
    constructor <;> omega
  have hp : PreV s H y.cls (ad K j) (fun a U => a = (av ad).toArray ∧ WSb true D cA lo ad σ U) As :=
    ⟨fun a U g mk q => ⟨q.1, WSb.moved (u := U) (U := U.calling g mk a) rfl rfl q.2⟩, va_recv hK (va_P1 hat) hcl (q0 := 0) rfl, fun U hU hWm =>
      ⟨by rw [hav]; rfl, by rw [hU]; exact hW, va_K.moved hWm.alike hK, by rw [hU]; exact Nat.le_trans hlo hS.1, hSA.moved hWm.alike (fun q hq => by rw [hU]; exact hS.2.1 q (Nat.lt_of_lt_of_le hq hlo) (Nat.not_le.mpr hq)), hNW.warm hWm⟩⟩
  have hF : CallFix p m c cc c.maxLocals s args lw_u own := ⟨hx, hb, rfl, hown, hts⟩
  have hsz : (F0 m pc ls stk).locals.size = c.maxLocals := hl.1
  have hroom : 2 * (F0 m pc ls stk).monitorRoom + (st.map fun v => v.category).sum ≤ 8 := lv_room hst
  rcases hlink with hlink | ⟨host, hlink⟩
  · refine z_runA (va_runV hF hMet (cwV (C := y.cls) n hts ?_ rfl rfl rfl ⟨rfl, hdd⟩ hRR) hp rfl hn hsz hs hroom hdec hcs) hl hS (fun r σ2 ad2 h1 h2 h3 => k r σ2 ad2 h1 h3 h2)
    refine lw_goodIn (fun w hw => ?_)
    rcases List.mem_append.mp hw with q | q
    · simp only [List.mem_cons, List.not_mem_nil, or_false] at q
      rcases q with q | q | q | q
      · rw [q]; exact ⟨hlink, rfl⟩
      · rw [q]; exact ⟨hV.1, rfl⟩
      · rw [q]; exact ⟨hV.2, rfl⟩
      · rw [q]; exact ⟨hini, rfl⟩
    · exact hG2 w q
  · exact z_runA (va_runVN (C := y.cls) (host := host) hF hMet ⟨va_cnB n hts hG rfl rfl rfl (va_Nw.of rfl (hts _ hlink)) (hts _ hini) hdd hRR, hts _ hV.1, hts _ hV.2⟩ hp rfl hn hsz hs hroom hdec hcs) hl hS (fun r σ2 ad2 h1 h2 h3 => k r σ2 ad2 h1 h3 h2)
end CTOR
