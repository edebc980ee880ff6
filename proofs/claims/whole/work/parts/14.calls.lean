/-! contracts, calls, returns -/
theorem lw_goodIn {l : List Cond} (h : ∀ w ∈ l, w ∈ lw_u ∧ goodWord w = true) : GoodIn lw_u l := fun w hw => ⟨(h w hw).1, good_of_word (h w hw).2⟩
def NWs (U : State) : Prop := ∀ w ∈ lw_n, va_Nw w U
theorem lw_n_onT {w : Cond} (h : w ∈ lw_n) : w.onTables = true := by
  have h1 := (List.mem_filter.mp h).2
  cases w <;> first | rfl | (simp [isNest] at h1)
theorem NWs.warm {s U : State} (hW : s.WarmedH U.vm) (h : NWs s) : NWs U := by
  intro w hw
  have h1 := (List.mem_filter.mp hw).2
  have h2 := h w hw
  cases w with
  | fieldLinkNest a i b n d h => exact va_Nw.warmF hW h2
  | methodLinkNest a i y h => exact va_Nw.warmM hW h2
  | _ => simp [isNest] at h1
theorem NWs.same {u U : State} (hv : U.vm = u.vm) (h : NWs u) : NWs U := fun w hw => va_tabs (lw_n_onT hw) hv.symm (h w hw)
theorem SAt.moved {u U : State} {lo : Nat} (hvm : u.vm.Alike U.vm) (hH : ∀ q, q < lo → U.heap[q]? = u.heap[q]?) (h : SAt u lo) : SAt U lo := by
  obtain ⟨⟨t9, tT, h1, h2, h3, h4⟩, h5⟩ := h
  have k : ∀ q : Nat, q < u.heap.size → ¬ (lo ≤ q) → U.heap[q]? = u.heap[q]? := fun q _ hq => hH q (Nat.lt_of_not_le hq)
  exact ⟨⟨t9, tT, (h1.moved hvm).kept k, (h2.moved hvm).kept k, (h3.moved hvm).kept k, (h4.moved hvm).kept k⟩, fun Cn hC => (h5 Cn hC).moved hvm⟩
def WS (D : va_G) (cA : Nat → ClassId) (lo : Nat) (ad : Nat → Nat → Nat) (σ : St) (U : State) : Prop := WD true D cA lo ad σ U.heap ∧ va_K D vwCl (tyl cA) U ∧ lo ≤ U.heap.size ∧ SAt U lo ∧ NWs U
theorem WS.moved {D : va_G} {cA : Nat → ClassId} {lo : Nat} {ad : Nat → Nat → Nat} {σ : St} {u U : State} (hvm : U.vm = u.vm) (hH : U.heap = u.heap) (h : WS D cA lo ad σ u) : WS D cA lo ad σ U :=
  have ha : u.vm.Alike U.vm := by rw [hvm]; exact Vm.Alike.refl u.vm
  ⟨by rw [hH]; exact h.1, va_K.moved ha h.2.1, by rw [hH]; exact h.2.2.1, h.2.2.2.1.moved ha (fun q _ => by rw [hH]), h.2.2.2.2.same hvm⟩
/-- a method's end: its answer, the world behind it -/
def QC (D : va_G) (cA : Nat → ClassId) (lo : Nat) (ad : Nat → Nat → Nat) (σ : St) {α : Type} (en : (Nat → Nat → Nat) → α → Option Value) (ok : α → Prop) (X : α → St → Prop) : Array Value → State → Outcome → State → Prop := fun _ U o t =>
  ∃ (r : α) (σ2 : St), o = .returned (en ad r) ∧ ok r ∧ X r σ2 ∧ σ2.2.2.2 = σ.2.2.2 ∧ WD true D cA lo ad σ2 t.heap ∧ va_F (fun q => lo ≤ q) U t
/-- A CONTRACT: where f answers, the method answers so, at any world -/
def Ct (y : MethodName) (cc : ByteArray) (nL : Nat) (ret : Option FieldType) (d : Nat) {α : Type} (av : (Nat → Nat → Nat) → List Value) (f : St → Option (α × St)) (en : (Nat → Nat → Nat) → α → Option Value) (ok : α → Prop) (pre : St → Prop) : Prop :=
  ∀ (l : Launch) (D : va_G) (cA : Nat → ClassId) (lo : Nat) (ad : Nat → Nat → Nat) (σ : St) (X : α → St → Prop), pre σ → wpO (f σ) (fun q => X q.1 q.2) →
    Met l y (.code y cc nL ret :: lw_g) (rmd d) (fun a U => a = (av ad).toArray ∧ WS D cA lo ad σ U) (QC D cA lo ad σ en ok X) 0 0 (fun q => lo ≤ q)
def Qm (κ : Cxt) (ad : Nat → Nat → Nat) (σ : St) {α : Type} (en : (Nat → Nat → Nat) → α → Option Value) (ok : α → Prop) (X : α → St → Prop) : State → Prop := match κ with
  | (_, _, _, _, s, _, args, below, _, _, D, cA, lo, _) => MQ below (QC D cA lo ad σ en ok X) args s 0 0 (fun q => lo ≤ q)
abbrev enI : (Nat → Nat → Nat) → Int → Option Value := fun _ r => some (vi r)
abbrev enJ : (Nat → Nat → Nat) → Int → Option Value := fun _ r => some (vj r)
abbrev enV : (Nat → Nat → Nat) → Unit → Option Value := fun _ _ => none
abbrev enR (K : Nat) : (Nat → Nat → Nat) → Option Nat → Option Value := fun ad r => some (vo ad K r)
abbrev okI : Int → Prop := fun r => inr r
abbrev okB : Int → Prop := fun r => r = 0 ∨ r = 1
abbrev okL : Int → Prop := fun r => inq r
abbrev okV : Unit → Prop := fun _ => True
abbrev okR : Option Nat → Prop := fun _ => True
theorem Ct.of {y : MethodName} {cc : ByteArray} {nL : Nat} {ret : Option FieldType} {d : Nat} {α : Type} {av : (Nat → Nat → Nat) → List Value} {f : St → Option (α × St)} {en : (Nat → Nat → Nat) → α → Option Value} {ok : α → Prop} {pre : St → Prop} (hy : plainName y.cls = true) (hlen : ∀ ad, (lg_sl (av ad)).length ≤ nL)
    (body : ∀ (κ : Cxt) (ad : Nat → Nat → Nat) (σ : St) (X : α → St → Prop), Cx κ y.cls cc nL ret d → isT κ → pre σ → wpO (f σ) (fun q => X q.1 q.2) → Z κ (0, 0) (Qm κ ad σ en ok X) 0 (lv_args 0 (av ad)) [] ad σ) : Ct y cc nL ret d av f en ok pre := by
  intro l D cA lo ad σ X hpre hwp
  refine Met.ofW (cc := cc) (maxL := nL) (ret := ret) hy rfl ?_
  intro p e s m args below meth c s₁ B hml hv
  obtain ⟨rfl, hW, hK, hlo, hSA, hNW⟩ := hv
  have hts := atoms_spec (ws := .code y cc nL ret :: lw_g) B.pre
  have C : Cx (p, l, e, rmd d, s, m, (av ad).toArray, below, meth, c, D, cA, lo, true) y.cls cc nL ret d :=
    ⟨B.exec, B.bytes, hml, findClass_of_methodNamed B.named, fun w hw => (List.mem_append.mp hw).elim (fun q => hts w (List.mem_cons_of_mem _ q)) (fun q => va_Nw.use (lw_n_onT q) (hNW w q)), B.notSynchronized, hK, B.returns, ⟨Nat.le_refl _, Nat.le_refl _⟩, hlo, hSA⟩
  rw [lg_entry_eq]
  have hl := lv_entry (av ad) (n := nL) (hlen ad)
  exact body _ ad σ X C rfl hpre hwp s.heap [] _ (by rw [hml]; exact hl) hW va_S.rf
section RET
variable {κ : Cxt} {own : String} {cc : ByteArray} {nL d pc : Nat} {lv : List (Nat × Value)} {ad : Nat → Nat → Nat} {σ σ2 : St}
theorem z_ireturn {X : Int → St → Prop} {r : Int} (T : isT κ) (C : Cx κ own cc nL (some .int) d) (hd : decode cc pc = .ok (.ireturn, 1)) (hr : inr r) (hN : σ2.2.2.2 = σ.2.2.2) (hX : X r σ2) : Z κ (0, 0) (Qm κ ad σ enI okI X) pc lv [vi r] ad σ2 := by
  obtain ⟨p, l, e, R, s, m, args, below, meth, c, D, cA, lo, sb⟩ := κ
  obtain ⟨hx, hb, hml, hown, hts, hlk, hK, hre, hR, hlo, hSA⟩ := C
  have T : sb = true := T
  subst T
  intro H locs ls hl hW hS
  exact W.iret hx hb hre (fun t ht hWm => ⟨r, σ2, rfl, hr, hX, hN, by rw [ht]; exact hW, hS.F ht⟩) hS.2.2 hd hlk
theorem z_breturn {X : Int → St → Prop} {r : Int} (T : isT κ) (C : Cx κ own cc nL (some .boolean) d) (hd : decode cc pc = .ok (.ireturn, 1)) (hr : r = 0 ∨ r = 1) (hN : σ2.2.2.2 = σ.2.2.2) (hX : X r σ2) : Z κ (0, 0) (Qm κ ad σ enI okB X) pc lv [vi r] ad σ2 := by
  obtain ⟨p, l, e, R, s, m, args, below, meth, c, D, cA, lo, sb⟩ := κ
  obtain ⟨hx, hb, hml, hown, hts, hlk, hK, hre, hR, hlo, hSA⟩ := C
  have T : sb = true := T
  subst T
  intro H locs ls hl hW hS
  exact W.zret hx hb hre (i32_bool hr) (fun t ht hWm => ⟨r, σ2, rfl, hr, hX, hN, by rw [ht]; exact hW, hS.F ht⟩) hS.2.2 hd hlk
theorem z_lreturn {X : Int → St → Prop} {r : Int} (T : isT κ) (C : Cx κ own cc nL (some .long) d) (hd : decode cc pc = .ok (.lreturn, 1)) (hr : inq r) (hN : σ2.2.2.2 = σ.2.2.2) (hX : X r σ2) : Z κ (0, 0) (Qm κ ad σ enJ okL X) pc lv [vj r] ad σ2 := by
  obtain ⟨p, l, e, R, s, m, args, below, meth, c, D, cA, lo, sb⟩ := κ
  obtain ⟨hx, hb, hml, hown, hts, hlk, hK, hre, hR, hlo, hSA⟩ := C
  have T : sb = true := T
  subst T
  intro H locs ls hl hW hS
  exact W.lret hx hb hre (fun t ht hWm => ⟨r, σ2, rfl, hr, hX, hN, by rw [ht]; exact hW, hS.F ht⟩) hS.2.2 hd hlk
theorem z_return {X : Unit → St → Prop} (T : isT κ) (C : Cx κ own cc nL none d) (hd : decode cc pc = .ok (.return_, 1)) (hN : σ2.2.2.2 = σ.2.2.2) (hX : X () σ2) : Z κ (0, 0) (Qm κ ad σ enV okV X) pc lv [] ad σ2 := by
  obtain ⟨p, l, e, R, s, m, args, below, meth, c, D, cA, lo, sb⟩ := κ
  obtain ⟨hx, hb, hml, hown, hts, hlk, hK, hre, hR, hlo, hSA⟩ := C
  have T : sb = true := T
  subst T
  intro H locs ls hl hW hS
  exact W.vret hx hb hre (fun t ht hWm => ⟨(), σ2, rfl, trivial, hX, hN, by rw [ht]; exact hW, hS.F ht⟩) hS.2.2 hd hlk
theorem z_areturn {X : Option Nat → St → Prop} {r : Option Nat} {K : Nat} {Cn : String} (T : isT κ) (C : Cx κ own cc nL (some (.object Cn)) d) (hd : decode cc pc = .ok (.areturn, 1)) (hN : σ2.2.2.2 = σ.2.2.2) (hX : X r σ2) : Z κ (0, 0) (Qm κ ad σ (enR K) okR X) pc lv [vo ad K r] ad σ2 := by
  obtain ⟨p, l, e, R, s, m, args, below, meth, c, D, cA, lo, sb⟩ := κ
  obtain ⟨hx, hb, hml, hown, hts, hlk, hK, hre, hR, hlo, hSA⟩ := C
  have T : sb = true := T
  subst T
  intro H locs ls hl hW hS
  exact W.aret hx hb hre (Or.inl ⟨_, rfl⟩) (by cases r with | none => exact Or.inl rfl | some a => exact Or.inr ⟨_, rfl⟩) (fun t ht hWm => ⟨r, σ2, rfl, trivial, hX, hN, by rw [ht]; exact hW, hS.F ht⟩) hS.2.2 hd hlk
end RET
/-- what the tables say of a method that an instruction calls -/
def LkM (own : String) (i : Nat) (y : MethodName) (bc : ByteArray) (nL : Nat) (ret : Option FieldType) (n : Nat) : Prop :=
  Cond.code y bc nL ret ∈ lw_u ∧ Cond.initialized y.cls ∈ lw_u ∧ (y.cls ≠ "java/lang/invoke/MethodHandle" ∧ y.cls ≠ "java/lang/invoke/VarHandle" ∧ (parseMethodDescriptor y.desc).map (fun d => d.parameters.length) = some n) ∧ nL ≤ 21 ∧
  (Cond.methodLink own i y ∈ lw_u ∨ ∃ host, Cond.methodLinkNest own i y host ∈ lw_u)
def LkV (y : MethodName) : Prop := Cond.instanceMethod y ∈ lw_u ∧ Cond.selects y.cls y y ∈ lw_u
def csOK (κ : Cxt) (cs : Nat × Nat) : Prop := match κ with
  | (_, _, _, R, _, _, _, _, _, _, _, _, _, _) => cs.1 ≤ R.cells ∧ cs.2 ≤ R.slots
theorem csOK_0 {κ : Cxt} : csOK κ (0, 0) := by
  obtain ⟨p, l, e, R, s, m, args, below, meth, c, D, cA, lo, sb⟩ := κ
  exact ⟨Nat.zero_le _, Nat.zero_le _⟩
section CALL
variable {κ : Cxt} {own : String} {cc : ByteArray} {nL d pc : Nat} {ret : Option FieldType} {cs : Nat × Nat} {Q : State → Prop} {lv : List (Nat × Value)} {st stk : List Value} {ad : Nat → Nat → Nat} {σ : St}
variable {y : MethodName} {bc : ByteArray} {nL2 d2 n i : Nat} {ret2 : Option FieldType} {α : Type} {av : (Nat → Nat → Nat) → List Value} {f : St → Option (α × St)} {en : (Nat → Nat → Nat) → α → Option Value} {ok : α → Prop} {pre : St → Prop} {X : α → St → Prop}
theorem z_run {p : Program} {l : Launch} {e : Env} {R : Room} {s : State} {m : MethodId} {args a0 : Array Value} {below : List Frame} {meth : Method} {c : Code} {D : va_G} {cA : Nat → ClassId} {lo : Nat} {H : Heap} {locs : List Loc} {ls : Array Slot}
    (hr : va_Run p l e R s m args below meth c H locs cs.1 cs.2 0 0 (F0 m pc ls stk) st (QC D cA lo ad σ en ok X a0) (fun q => lo ≤ q)) (hl : lv_has ls c.maxLocals lv) (hS : va_S (fun q => lo ≤ q) s.heap H locs)
    (k : ∀ r σ2, ok r → X r σ2 → σ2.2.2.2 = σ.2.2.2 → Z (p, l, e, R, s, m, args, below, meth, c, D, cA, lo, true) cs Q (pc + 3) lv ((en ad r).toList ++ st) ad σ2) : W p l e R s m args below meth c H locs cs.1 cs.2 Q (F0 m pc ls stk) := by
  intro T hT X0
  obtain ⟨v, st₀, t, T2, L, h0, X2, hL, e1, e2, ⟨r, σ2, hv, hok, hX, hN, hWD, hz, hk⟩, stp⟩ := hr T hT X0
  cases hv
  rw [h0] at hz hk
  obtain ⟨t2, a1, b1⟩ := k r σ2 hok hX hN T2.heap (locs ++ L) ls hl (by rw [e1]; exact hWD)
    ⟨Nat.le_trans hS.1 (by rw [e1]; exact hz), fun q h1 h2 => by rw [e1, hk q (Nat.lt_of_lt_of_le h1 hS.1) h2]; exact hS.2.1 q h1 h2, fun q hq => by
      rcases List.mem_append.mp hq with h | h
      · exact hS.2.2 q h
      · exact hL q h⟩ T2 rfl X2
  exact ⟨t2, stp t2 a1, b1⟩
theorem z_callV {K j N : Nat} {Tt : u_T} (T : isT κ) (C : Cx κ own cc nL ret d) (hM : Ct y bc nL2 ret2 d2 av f en ok pre) (hL : LkM own i y bc nL2 ret2 n) (hV : LkV y) (hdec : decode cc pc = .ok (.invokevirtual i, 3)) (As : List Value) (hav : av ad = vo ad K (some j) :: As) (hs : stk = As.reverse ++ vo ad K (some j) :: st) (hn : As.length = n) (hcl : vwCl[K]? = some (y.cls, Tt, N)) (hlK : la K = none) (hj : okj κ σ K j) (hpre : pre σ) (hd2 : d2 + 1 ≤ d) (hst : (st.map fun v => v.category).sum ≤ 8) (hcs : csOK κ cs)
    (hf : wpO (f σ) (fun q => X q.1 q.2)) (k : ∀ r σ2, ok r → X r σ2 → σ2.2.2.2 = σ.2.2.2 → Z κ cs Q (pc + 3) lv ((en ad r).toList ++ st) ad σ2) : Z κ cs Q pc lv stk ad σ := by
  obtain ⟨p, l, e, R, s, m, args, below, meth, c, D, cA, lo, sb⟩ := κ
  obtain ⟨hx, hb, hml, hown, hts, hlk, hK, hre, hR, hlo, hSA⟩ := C
  obtain ⟨hcode, hini, hdd, hn21, hlink⟩ := hL
  have T : sb = true := T
  subst T
  intro H locs ls hl hW hS
  have hMet := hM l D cA lo ad σ X hpre hf
  have hat := hW.at hj
  rw [enc_obj hlK] at hat
  have hG2 : ∀ w ∈ Cond.code y bc nL2 ret2 :: lw_g, w ∈ lw_u ∧ goodWord w = true := fun w hw => by
    rcases List.mem_cons.mp hw with q | q
    · rw [q]; exact ⟨hcode, rfl⟩
    · exact ⟨List.mem_append_left _ q, (List.mem_filter.mp q).2⟩
  have hG : GoodIn lw_u (Cond.code y bc nL2 ret2 :: lw_g) := lw_goodIn hG2
  have hNW : NWs s := fun w hw => va_Nw.of (lw_n_onT hw) (hts w (List.mem_append_right _ hw))
  have hRR : (rmd d2).frames + 1 ≤ R.frames ∧ 8 + (nL2 + 11) + (rmd d2).locals ≤ R.locals := by
    obtain ⟨r1, r2⟩ := hR
    show d2 + 1 ≤ R.frames ∧ 8 + (nL2 + 11) + 40 * d2 ≤ R.locals
    constructor <;> omega
  have hp : PreV s H y.cls (ad K j) (fun a U => a = (av ad).toArray ∧ WS D cA lo ad σ U) As :=
    ⟨fun a U g mk q => ⟨q.1, WS.moved (u := U) (U := U.calling g mk a) rfl rfl q.2⟩, va_recv hK (va_P1 hat) hcl (q0 := 0) rfl, fun U hU hWm =>
      ⟨by rw [hav]; rfl, by rw [hU]; exact hW, va_K.moved hWm.alike hK, by rw [hU]; exact Nat.le_trans hlo hS.1, hSA.moved hWm.alike (fun q hq => by rw [hU]; exact hS.2.1 q (Nat.lt_of_lt_of_le hq hlo) (Nat.not_le.mpr hq)), hNW.warm hWm⟩⟩
  have hF : CallFix p m c cc c.maxLocals s args lw_u own := ⟨hx, hb, rfl, hown, hts⟩
  have hsz : (F0 m pc ls stk).locals.size = c.maxLocals := hl.1
  have hroom : 2 * (F0 m pc ls stk).monitorRoom + (st.map fun v => v.category).sum ≤ 8 := lv_room hst
  rcases hlink with hlink | ⟨host, hlink⟩
  · refine z_run (va_runV hF hMet (cwV (C := y.cls) n hts ?_ rfl rfl rfl ⟨rfl, hdd⟩ hRR) hp rfl hn hsz hs hroom hdec hcs) hl hS k
    refine lw_goodIn (fun w hw => ?_)
    rcases List.mem_append.mp hw with q | q
    · simp only [List.mem_cons, List.not_mem_nil, or_false] at q
      rcases q with q | q | q | q
      · rw [q]; exact ⟨hlink, rfl⟩
      · rw [q]; exact ⟨hV.1, rfl⟩
      · rw [q]; exact ⟨hV.2, rfl⟩
      · rw [q]; exact ⟨hini, rfl⟩
    · exact hG2 w q
  · exact z_run (va_runVN (C := y.cls) (host := host) hF hMet ⟨va_cnB n hts hG rfl rfl rfl (va_Nw.of rfl (hts _ hlink)) (hts _ hini) hdd hRR, hts _ hV.1, hts _ hV.2⟩ hp rfl hn hsz hs hroom hdec hcs) hl hS k
theorem z_callS (T : isT κ) (C : Cx κ own cc nL ret d) (hM : Ct y bc nL2 ret2 d2 av f en ok pre) (hL : LkM own i y bc nL2 ret2 n) (hV : Cond.static y ∈ lw_u) (hdec : decode cc pc = .ok (.invokestatic i, 3)) (hs : stk = (av ad).reverse ++ st) (hn : (av ad).length = n) (hpre : pre σ) (hd2 : d2 + 1 ≤ d) (hst : (st.map fun v => v.category).sum ≤ 8) (hcs : csOK κ cs)
    (hf : wpO (f σ) (fun q => X q.1 q.2)) (k : ∀ r σ2, ok r → X r σ2 → σ2.2.2.2 = σ.2.2.2 → Z κ cs Q (pc + 3) lv ((en ad r).toList ++ st) ad σ2) : Z κ cs Q pc lv stk ad σ := by
  obtain ⟨p, l, e, R, s, m, args, below, meth, c, D, cA, lo, sb⟩ := κ
  obtain ⟨hx, hb, hml, hown, hts, hlk, hK, hre, hR, hlo, hSA⟩ := C
  obtain ⟨hcode, hini, hdd, hn21, hlink⟩ := hL
  have T : sb = true := T
  subst T
  intro H locs ls hl hW hS
  have hMet := hM l D cA lo ad σ X hpre hf
  have hG2 : ∀ w ∈ Cond.code y bc nL2 ret2 :: lw_g, w ∈ lw_u ∧ goodWord w = true := fun w hw => by
    rcases List.mem_cons.mp hw with q | q
    · rw [q]; exact ⟨hcode, rfl⟩
    · exact ⟨List.mem_append_left _ q, (List.mem_filter.mp q).2⟩
  have hG : GoodIn lw_u (Cond.code y bc nL2 ret2 :: lw_g) := lw_goodIn hG2
  have hNW : NWs s := fun w hw => va_Nw.of (lw_n_onT hw) (hts w (List.mem_append_right _ hw))
  have hRR : (rmd d2).frames + 1 ≤ R.frames ∧ 8 + (nL2 + 11) + (rmd d2).locals ≤ R.locals := by
    obtain ⟨r1, r2⟩ := hR
    show d2 + 1 ≤ R.frames ∧ 8 + (nL2 + 11) + 40 * d2 ≤ R.locals
    constructor <;> omega
  have hp : PreS s H (fun a U => a = (av ad).toArray ∧ WS D cA lo ad σ U) (av ad) :=
    ⟨fun a U g mk q => ⟨q.1, WS.moved (u := U) (U := U.calling g mk a) rfl rfl q.2⟩, fun U hU hWm =>
      ⟨rfl, by rw [hU]; exact hW, va_K.moved hWm.alike hK, by rw [hU]; exact Nat.le_trans hlo hS.1, hSA.moved hWm.alike (fun q hq => by rw [hU]; exact hS.2.1 q (Nat.lt_of_lt_of_le hq hlo) (Nat.not_le.mpr hq)), hNW.warm hWm⟩⟩
  have hF : CallFix p m c cc c.maxLocals s args lw_u own := ⟨hx, hb, rfl, hown, hts⟩
  have hsz : (F0 m pc ls stk).locals.size = c.maxLocals := hl.1
  have hroom : 2 * (F0 m pc ls stk).monitorRoom + (st.map fun v => v.category).sum ≤ 8 := lv_room hst
  rcases hlink with hlink | ⟨host, hlink⟩
  · refine z_run (va_runS hF hMet (va_cwS n hts ?_ rfl rfl rfl hdd hRR) hp rfl hn hsz hs hroom hdec hcs) hl hS k
    refine lw_goodIn (fun w hw => ?_)
    rcases List.mem_append.mp hw with q | q
    · simp only [List.mem_cons, List.not_mem_nil, or_false] at q
      rcases q with q | q | q
      · rw [q]; exact ⟨hlink, rfl⟩
      · rw [q]; exact ⟨hV, rfl⟩
      · rw [q]; exact ⟨hini, rfl⟩
    · exact hG2 w q
  · exact z_run (va_runSN (host := host) hF hMet ⟨va_cnB n hts hG rfl rfl rfl (va_Nw.of rfl (hts _ hlink)) (hts _ hini) hdd hRR, hts _ hV, trivial⟩ hp rfl hn hsz hs hroom hdec hcs) hl hS k
end CALL
