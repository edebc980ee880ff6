/-! THE CLAIM OUT OF ONE WALK OF THE LAW'S BODY. Your part is whole_start (and what it stands on); all else here is the same for every law, but numbers. -/
def R_law : String := "NewsreelHouseLaw"
def lw_P (b : Addr) (xs : List Int32) (args : Array Value) (s : State) : Prop := args = #[.ref b] ∧ s.IntsAt b xs ∧ xs.length ≤ 3584 ∧ (Jvm.Cond.and given_1 narrow_1).before args s = true
def lw_Q (_ : Array Value) (s : State) (o : Outcome) (t : State) : Prop := o = .returned (some (.int 1)) ∧ Framed s o t [] 600000 7302250
def lw_Z (below : List Frame) (a : Array Value) (s : State) : State → Prop := fun t => ∃ o, t.status = .running ∧ Ended t below o ∧ lw_Q a s o t
/-- the law's own end, with 1 on the stack, nothing written that was there before, its room as the claim has it -/
theorem lw_ret {p : Program} {l : Launch} {e : Env} {s : State} {m : MethodId} {below : List Frame} {meth : Method} {c : Code} {b : Nat} (hx : p.tables.exec = Jvm.exec) (hb : c.code = code) (hr : meth.sig.returnType = ret) (hlocks : meth.locks = false) {pc : Nat} {H : Heap} {ls : Array Slot} (hdg : decode code pc = .ok (.ireturn, 1)) : W p l e room_1 s m #[Value.ref b] below meth c H [] 600000 7302250 (lw_Z below #[Value.ref b] s) (F0 m pc ls [.int 1]) := by
  intro T hT X
  obtain ⟨fs, hret, hrun, hended, hW, hframe⟩ := X.leave (v := some (.int 1)) (hlocks := hlocks) (fun h => by rw [hr] at h; cases h)
  have hmeth' : T.vm.method? m = some meth := X.method'
  refine ⟨T.setFrames fs, ?_, .returned (some (.int 1)), hrun, hended, rfl, ⟨_, rfl⟩, hW, hframe⟩
  jvm_step X.here [X.here.top, hx, hb, hdg, hmeth', hr, ret, narrow_b1]
  (try refine ⟨rfl, ?_⟩); (try refine ⟨rfl, ?_⟩)
  first | (intro acts; rw [hret _ acts rfl rfl rfl]) | rw [hret _ _ rfl rfl rfl]
  exact Steps.refl _
/-- what holds at the law's entry: the machine, the code, the tables' words (any of lw_tbl by 'hts w (by decide +kernel)'), the script of L ints xs at the cell b, what the Statement gives of the start (any of its parts by flat_of_before) -/
def lw_At (p : Program) (s : State) (m : MethodId) (meth : Method) (c : Code) (b L : Nat) (xs : Nat → Int32) : Prop :=
  p.tables.exec = Jvm.exec ∧ c.code = code ∧ meth.sig.returnType = ret ∧ c.maxLocals = 4 ∧ s.vm.findClass R_law = some m.cls ∧ (∀ w ∈ lw_tbl, w.before #[Value.ref b] s = true) ∧ va_X b L xs s s.heap ∧ b < s.heap.size ∧ meth.locks = false ∧ (Jvm.Cond.and given_1 narrow_1).before #[Value.ref b] s = true
theorem wao_RX10 : Cond.arrayOver (.object RX10) ∈ lw_tbl := List.mem_of_getElem? (i := 104) (by decide +kernel)
theorem wao_RX7 : Cond.arrayOver (.object RX7) ∈ lw_tbl := List.mem_of_getElem? (i := 133) (by decide +kernel)
theorem wao_RX8 : Cond.arrayOver (.object RX8) ∈ lw_tbl := List.mem_of_getElem? (i := 135) (by decide +kernel)
theorem wao_RX6 : Cond.arrayOver (.object RX6) ∈ lw_tbl := List.mem_of_getElem? (i := 137) (by decide +kernel)
theorem wao_RX5 : Cond.arrayOver (.object RX5) ∈ lw_tbl := List.mem_of_getElem? (i := 177) (by decide +kernel)
theorem wls_n : Cond.laysStatic RX4 "NINES" "[I" ∈ lw_tbl := List.mem_of_getElem? (i := 979) (by decide +kernel)
theorem wls_t : Cond.laysStatic RX2 "TENS" "[I" ∈ lw_tbl := List.mem_of_getElem? (i := 1142) (by decide +kernel)
theorem lw_u_tbl {w : Cond} (h : w ∈ lw_u) : w ∈ lw_tbl := (List.mem_append.mp h).elim (fun q => (List.mem_filter.mp q).1) (fun q => (List.mem_filter.mp q).1)
/-- the classes and the array classes, by their numbers -/
theorem law_K {args : Array Value} {s : State} (hts : ∀ w ∈ lw_tbl, w.before args s = true) : ∃ (D : va_G) (cA : Nat → ClassId), va_K D vwCl (tyl cA) s := by
  have htu : ∀ w ∈ lw_u, w.before args s = true := fun w hw => hts w (lw_u_tbl hw)
  obtain ⟨c0, i0, k0⟩ := u_known (C := RX0) (T := TX0) (N := 13) (n := 13) htu uw0 (htu _ lb_X0)
  obtain ⟨c1, i1, k1⟩ := u_known (C := RX1) (T := TX1) (N := 3) (n := 3) htu uw1 (htu _ lb_X1)
  obtain ⟨c2, i2, k2⟩ := u_known (C := RX2) (T := TX2) (N := 9) (n := 9) htu uw2 (htu _ lb_X2)
  obtain ⟨c3, i3, k3⟩ := u_known (C := RX3) (T := TX3) (N := 10) (n := 10) htu uw3 (htu _ lb_X3)
  obtain ⟨c4, i4, k4⟩ := u_known (C := RX4) (T := TX4) (N := 13) (n := 13) htu uw4 (htu _ lb_X4)
  obtain ⟨c5, i5, k5⟩ := u_known (C := RX5) (T := TX5) (N := 5) (n := 5) htu uw5 (htu _ lb_X5)
  obtain ⟨c6, i6, k6⟩ := u_known (C := RX6) (T := TX6) (N := 4) (n := 4) htu uw6 (htu _ lb_X6)
  obtain ⟨c7, i7, k7⟩ := u_known (C := RX7) (T := TX7) (N := 13) (n := 13) htu uw7 (htu _ lb_X7)
  obtain ⟨c8, i8, k8⟩ := u_known (C := RX8) (T := TX8) (N := 8) (n := 8) htu uw8 (htu _ lb_X8)
  obtain ⟨c9, i9, k9⟩ := u_known (C := RX9) (T := TX9) (N := 3) (n := 3) htu uw9 (htu _ lb_X9)
  obtain ⟨c10, i10, k10⟩ := u_known (C := RX10) (T := TX10) (N := 7) (n := 7) htu uw10 (htu _ lb_X10)
  obtain ⟨c11, i11, k11⟩ := u_known (C := RX11) (T := TX11) (N := 18) (n := 18) htu uw11 (htu _ lb_X11)
  obtain ⟨c12, i12, k12⟩ := u_known (C := RX12) (T := TX12) (N := 92) (n := 92) htu uw12 (htu _ lb_X12)
  obtain ⟨a0, kA0, m0, f0, g0, h0⟩ := Cond.arrayClass_spec (htu _ lac_int)
  obtain ⟨a1, kA1, m1, f1, g1, h1⟩ := Cond.arrayClass_spec (htu _ lac_boolean)
  obtain ⟨a2, kA2, m2, f2, g2, h2⟩ := Cond.arrayClass_spec (htu _ lac_long)
  obtain ⟨m13, a13, kA13, e13, -, g13, h13, f13⟩ := Cond.arrayOver_spec (hts _ wao_RX10)
  obtain ⟨m10, a10, kA10, e10, -, g10, h10, f10⟩ := Cond.arrayOver_spec (hts _ wao_RX7)
  obtain ⟨m11, a11, kA11, e11, -, g11, h11, f11⟩ := Cond.arrayOver_spec (hts _ wao_RX8)
  obtain ⟨m9, a9, kA9, e9, -, g9, h9, f9⟩ := Cond.arrayOver_spec (hts _ wao_RX6)
  obtain ⟨m8, a8, kA8, e8, -, g8, h8, f8⟩ := Cond.arrayOver_spec (hts _ wao_RX5)
  refine ⟨(fun k => match k with | 0 => c0 | 1 => c1 | 2 => c2 | 3 => c3 | 4 => c4 | 5 => c5 | 6 => c6 | 7 => c7 | 8 => c8 | 9 => c9 | 10 => c10 | 11 => c11 | _ => c12, fun k => match k with | 0 => i0 | 1 => i1 | 2 => i2 | 3 => i3 | 4 => i4 | 5 => i5 | 6 => i6 | 7 => i7 | 8 => i8 | 9 => i9 | 10 => i10 | 11 => i11 | _ => i12), (fun k => match k with | 0 => a0 | 1 => a1 | 2 => a2 | 8 => a8 | 9 => a9 | 10 => a10 | 11 => a11 | 13 => a13 | _ => a0), ?_, ?_⟩
  · intro c q hq
    match c, hq with
    | 0, hq => cases hq; exact k0
    | 1, hq => cases hq; exact k1
    | 2, hq => cases hq; exact k2
    | 3, hq => cases hq; exact k3
    | 4, hq => cases hq; exact k4
    | 5, hq => cases hq; exact k5
    | 6, hq => cases hq; exact k6
    | 7, hq => cases hq; exact k7
    | 8, hq => cases hq; exact k8
    | 9, hq => cases hq; exact k9
    | 10, hq => cases hq; exact k10
    | 11, hq => cases hq; exact k11
    | 12, hq => cases hq; exact k12
    | n + 13, hq => cases hq
  · intro c q hq
    match c, hq with
    | 0, hq => cases hq; exact ⟨fun n z => ⟨fun k h => (by cases h), kA0, g0, m0, h0⟩, f0⟩
    | 1, hq => cases hq; exact ⟨fun n z => ⟨fun k h => (by cases h), kA1, g1, m1, h1⟩, f1⟩
    | 2, hq => cases hq; exact ⟨fun n z => ⟨fun k h => (by cases h), kA2, g2, m2, h2⟩, f2⟩
    | 3, hq => cases hq; exact ⟨fun n z => ⟨fun k h => (by cases h), kA13, g13, m13, h13⟩, kA13, m13, g13, h13, e13, f13⟩
    | 4, hq => cases hq; exact ⟨fun n z => ⟨fun k h => (by cases h), kA10, g10, m10, h10⟩, kA10, m10, g10, h10, e10, f10⟩
    | 5, hq => cases hq; exact ⟨fun n z => ⟨fun k h => (by cases h), kA11, g11, m11, h11⟩, kA11, m11, g11, h11, e11, f11⟩
    | 6, hq => cases hq; exact ⟨fun n z => ⟨fun k h => (by cases h), kA9, g9, m9, h9⟩, kA9, m9, g9, h9, e9, f9⟩
    | 7, hq => cases hq; exact ⟨fun n z => ⟨fun k h => (by cases h), kA8, g8, m8, h8⟩, kA8, m8, g8, h8, e8, f8⟩
    | n + 8, hq => cases hq
set_option maxRecDepth 20000 in
theorem law_S {b : Nat} {s : State} (hts : ∀ w ∈ lw_tbl, w.before #[Value.ref b] s = true) (hgv : (Jvm.Cond.and given_1 narrow_1).before #[Value.ref b] s = true) : SAt s s.heap.size := by
  have htu : ∀ w ∈ lw_u, w.before #[Value.ref b] s = true := fun w hw => hts w (lw_u_tbl hw)
  have fl := flat_of_before _ hgv
  have hA : ∀ a : Nat, a < s.heap.size → ¬ (fun q : Nat => s.heap.size ≤ q) a := fun a h => Nat.not_le.mpr h
  have e9 : ∀ j : Nat, j < 8 → (Term.elem (.static RX4 "NINES" "[I") (.int (Int32.ofNat j))).eval #[Value.ref b] s none [] s = some (vi (nines j)) := by
    intro j hj
    match j, hj with
    | 0, _ => exact va_eqt (z := 1) (fl (Cond.eq (.elem (.static RX4 "NINES" "[I") (.int 0)) (.int 1)) (by decide +kernel))
    | 1, _ => exact va_eqt (z := 9) (fl (Cond.eq (.elem (.static RX4 "NINES" "[I") (.int 1)) (.int 9)) (by decide +kernel))
    | 2, _ => exact va_eqt (z := 81) (fl (Cond.eq (.elem (.static RX4 "NINES" "[I") (.int 2)) (.int 81)) (by decide +kernel))
    | 3, _ => exact va_eqt (z := 729) (fl (Cond.eq (.elem (.static RX4 "NINES" "[I") (.int 3)) (.int 729)) (by decide +kernel))
    | 4, _ => exact va_eqt (z := 6561) (fl (Cond.eq (.elem (.static RX4 "NINES" "[I") (.int 4)) (.int 6561)) (by decide +kernel))
    | 5, _ => exact va_eqt (z := 59049) (fl (Cond.eq (.elem (.static RX4 "NINES" "[I") (.int 5)) (.int 59049)) (by decide +kernel))
    | 6, _ => exact va_eqt (z := 531441) (fl (Cond.eq (.elem (.static RX4 "NINES" "[I") (.int 6)) (.int 531441)) (by decide +kernel))
    | 7, _ => exact va_eqt (z := 4782969) (fl (Cond.eq (.elem (.static RX4 "NINES" "[I") (.int 7)) (.int 4782969)) (by decide +kernel))
  have eT : ∀ j : Nat, j < 8 → (Term.elem (.static RX2 "TENS" "[I") (.int (Int32.ofNat j))).eval #[Value.ref b] s none [] s = some (vi (tens j)) := by
    intro j hj
    match j, hj with
    | 0, _ => exact va_eqt (z := 1) (fl (Cond.eq (.elem (.static RX2 "TENS" "[I") (.int 0)) (.int 1)) (by decide +kernel))
    | 1, _ => exact va_eqt (z := 10) (fl (Cond.eq (.elem (.static RX2 "TENS" "[I") (.int 1)) (.int 10)) (by decide +kernel))
    | 2, _ => exact va_eqt (z := 100) (fl (Cond.eq (.elem (.static RX2 "TENS" "[I") (.int 2)) (.int 100)) (by decide +kernel))
    | 3, _ => exact va_eqt (z := 1000) (fl (Cond.eq (.elem (.static RX2 "TENS" "[I") (.int 3)) (.int 1000)) (by decide +kernel))
    | 4, _ => exact va_eqt (z := 10000) (fl (Cond.eq (.elem (.static RX2 "TENS" "[I") (.int 4)) (.int 10000)) (by decide +kernel))
    | 5, _ => exact va_eqt (z := 100000) (fl (Cond.eq (.elem (.static RX2 "TENS" "[I") (.int 5)) (.int 100000)) (by decide +kernel))
    | 6, _ => exact va_eqt (z := 1000000) (fl (Cond.eq (.elem (.static RX2 "TENS" "[I") (.int 6)) (.int 1000000)) (by decide +kernel))
    | 7, _ => exact va_eqt (z := 10000000) (fl (Cond.eq (.elem (.static RX2 "TENS" "[I") (.int 7)) (.int 10000000)) (by decide +kernel))
  obtain ⟨t9, h1, h2⟩ := va_Tof (A := fun q : Nat => s.heap.size ≤ q) (ty := .int) (N := 8) (f := fun k => vi (nines k)) (by decide) (fl (Cond.arrayOf (.static RX4 "NINES" "[I") .int) (by decide +kernel)) (va_eqt (z := 8) (fl (Cond.eq (.length (.static RX4 "NINES" "[I")) (.int 8)) (by decide +kernel))) e9 hA
  obtain ⟨tT, h3, h4⟩ := va_Tof (A := fun q : Nat => s.heap.size ≤ q) (ty := .int) (N := 8) (f := fun k => vi (tens k)) (by decide) (fl (Cond.arrayOf (.static RX2 "TENS" "[I") .int) (by decide +kernel)) (va_eqt (z := 8) (fl (Cond.eq (.length (.static RX2 "TENS" "[I")) (.int 8)) (by decide +kernel))) eT hA
  refine ⟨⟨t9, tT, va_Zof (hts _ wls_n) (htu _ la_X4) h1 hA, h2, va_Zof (hts _ wls_t) (htu _ la_X2) h3 hA, h4⟩, ?_⟩
  intro Cn hC
  simp only [aoL, List.mem_cons, List.not_mem_nil, or_false] at hC
  rcases hC with q | q | q | q | q
  · rw [q]; exact va_AO.of (hts _ wao_RX5)
  · rw [q]; exact va_AO.of (hts _ wao_RX6)
  · rw [q]; exact va_AO.of (hts _ wao_RX7)
  · rw [q]; exact va_AO.of (hts _ wao_RX8)
  · rw [q]; exact va_AO.of (hts _ wao_RX10)
def OPS (R : St → Prop) : Prop := OP0 R ∧ OP1 R ∧ OP2 R ∧ OP3 R ∧ OP4 R ∧ OP5 R ∧ OP6 R ∧ OP7 R ∧ OP8 R ∧ OP9 R ∧ OP10 R ∧ OP11 R ∧ OP12 R ∧ OP13 R ∧ OP14 R ∧ OP15 R ∧ OP16 R ∧ OP17 R ∧ OP18 R ∧ OP19 R ∧ OP20 R ∧ OP21 R ∧ OP22 R ∧ OP23 R ∧ OP24 R ∧ OP25 R ∧ OP26 R ∧ OP27 R ∧ OP28 R ∧ OP29 R ∧ OP30 R ∧ OP31 R ∧ OP32 R ∧ OP33 R ∧ OP34 R ∧ OP35 R ∧ OP36 R ∧ OP37 R ∧ OP38 R ∧ OP39 R ∧ OP40 R ∧ OP41 R ∧ OP42 R ∧ OP43 R ∧ OP44 R ∧ OP45 R ∧ OP46 R ∧ OP47 R ∧ OP48 R ∧ OP49 R
def emp : St := (fun _ _ _ => 0, fun _ _ _ => 0, fun _ _ _ => none, fun _ => 0)
def INI (R : St → Prop) : Prop := wpO (bnd (fX11_init 0 (nwO emp 11)) (fun _ s2 => bnd (fX12_init (gN s2 12) (nwO s2 12)) (fun _ s4 => ckp (gN s2 12 = 0 ∧ gN (nwO s2 12) 11 = 1 ∧ SF s4 ∧ R s4) (some ())))) (fun _ : Unit => True)
set_option maxRecDepth 20000 in
set_option maxHeartbeats 4000000 in
theorem law_loop {κ : Cxt} {R : St → Prop} {b L : Nat} {xs : Nat → Int32} {Q : State → Prop} (C : Cx κ RL cL_law 4 ret 11) (T : isT κ) (hcs : csOK κ (600000, 7302250)) (hX : scX κ b L xs) (hO : OPS R) (hL : L ≤ 3584)
    (hend : ∀ (cs : Nat × Nat) lv ad σ, cs.1 ≤ 600000 → cs.2 ≤ 7302250 → Z κ cs Q 2176 lv [] ad σ) : ∀ (n k : Nat), k + n ≤ 513 → L ≤ 7 * k + 7 * n + 6 → ∀ ad σ, R σ → Z κ (200 + 2 * k, 20000 + 84 * k) Q 18 [(0, .ref b), (1, vo ad 11 (some 0)), (2, vo ad 12 (some 0)), (3, vi (7 * (k : Int)))] [] ad σ := by
  intro n
  induction n with
  | zero =>
    intro k hk hLk ad σ hR
    refine z_iload_n C 3 dL_law_18 rfl ?_
    refine z_aloadR C 0 dL_law_19 rfl ?_
    refine z_slen C hX dL_law_20 ?_
    refine z_bipush C dL_law_21 (by decide) ?_
    refine z_isub C dL_law_23 ?_
    refine z_icmp_gt C 2176 (by constructor <;> omega) (by constructor <;> omega) dL_law_24 (by decide) (fun q => hend _ _ _ _ (by show _ ≤ _; omega) (by show _ ≤ _; omega)) (fun q => absurd (by omega) q)
  | succ n ih =>
    intro k hk hLk ad σ hR
    refine z_iload_n C 3 dL_law_18 rfl ?_
    refine z_aloadR C 0 dL_law_19 rfl ?_
    refine z_slen C hX dL_law_20 ?_
    refine z_bipush C dL_law_21 (by decide) ?_
    refine z_isub C dL_law_23 ?_
    refine z_icmp_gt C 2176 (by constructor <;> omega) (by constructor <;> omega) dL_law_24 (by decide) (fun q => hend _ _ _ _ (by show _ ≤ _; omega) (by show _ ≤ _; omega)) (fun q => ?_)
    have hi : 0 ≤ 7 * (k : Int) ∧ 7 * (k : Int) + 7 ≤ (L : Int) := by omega
    refine z_aloadR C 0 dL_law_27 rfl ?_
    refine z_iload_n C 3 dL_law_28 rfl ?_
    refine z_sld C hX (by constructor <;> omega) (by omega) dL_law_29 ?_
    refine z_bipush C dL_law_30 (by decide) ?_
    refine z_iand C dL_law_32 ?_
    generalize hv : iand (xs (7 * (k : Int)).toNat).toInt 63 = v
    have hv1 : inr v := by rw [← hv]; exact inr_iand _ _
    have hc2 : csOK κ (200 + 2 * k + 2, 20000 + 84 * k + 84) := csOK_le hcs (by show _ ≤ _; omega) (by show _ ≤ _; omega)
    have kz : ∀ ad σ, R σ → Z κ (200 + 2 * k + 2, 20000 + 84 * k + 84) Q 2170 [(0, .ref b), (1, vo ad 11 (some 0)), (2, vo ad 12 (some 0)), (3, vi (7 * (k : Int)))] [] ad σ := by
      intro ad σ hR
      refine z_iinc (lv2 := [(3, vi (7 * (k : Int) + 7)), (0, .ref b), (1, vo ad 11 (some 0)), (2, vo ad 12 (some 0))]) C 3 dL_law_2170 rfl (by decide) rfl ?_
      refine z_goto C 18 dL_law_2173 (by decide) ?_
      refine z_sub [1, 2, 3, 0] rfl ?_
      have := ih (k + 1) (by omega) (by omega) ad σ hR
      rw [show (7 * ((k + 1 : Nat) : Int)) = 7 * (k : Int) + 7 by omega, show 200 + 2 * (k + 1) = 200 + 2 * k + 2 by omega, show 20000 + 84 * (k + 1) = 20000 + 84 * k + 84 by omega] at this
      exact this
    by_cases q0 : v = 0
    · exact z_tableIn (off := 215) C 248 hv1 dL_law_33 (by omega) (by omega) (by rw [q0]; rfl) (by decide) (lawc_0 (cs := (200 + 2 * k, 20000 + 84 * k)) C T hc2 hX hO.1 hL hi kz ad σ hR)
    by_cases q1 : v = 1
    · exact z_tableIn (off := 238) C 271 hv1 dL_law_33 (by omega) (by omega) (by rw [q1]; rfl) (by decide) (lawc_1 (cs := (200 + 2 * k, 20000 + 84 * k)) C T hc2 hX hO.2.1 hL hi kz ad σ hR)
    by_cases q2 : v = 2
    · exact z_tableIn (off := 313) C 346 hv1 dL_law_33 (by omega) (by omega) (by rw [q2]; rfl) (by decide) (lawc_2 (cs := (200 + 2 * k, 20000 + 84 * k)) C T hc2 hX hO.2.2.1 hL hi kz ad σ hR)
    by_cases q3 : v = 3
    · exact z_tableIn (off := 336) C 369 hv1 dL_law_33 (by omega) (by omega) (by rw [q3]; rfl) (by decide) (lawc_3 (cs := (200 + 2 * k, 20000 + 84 * k)) C T hc2 hX hO.2.2.2.1 hL hi kz ad σ hR)
    by_cases q4 : v = 4
    · exact z_tableIn (off := 405) C 438 hv1 dL_law_33 (by omega) (by omega) (by rw [q4]; rfl) (by decide) (lawc_4 (cs := (200 + 2 * k, 20000 + 84 * k)) C T hc2 hX hO.2.2.2.2.1 hL hi kz ad σ hR)
    by_cases q5 : v = 5
    · exact z_tableIn (off := 480) C 513 hv1 dL_law_33 (by omega) (by omega) (by rw [q5]; rfl) (by decide) (lawc_5 (cs := (200 + 2 * k, 20000 + 84 * k)) C T hc2 hX hO.2.2.2.2.2.1 hL hi kz ad σ hR)
    by_cases q6 : v = 6
    · exact z_tableIn (off := 513) C 546 hv1 dL_law_33 (by omega) (by omega) (by rw [q6]; rfl) (by decide) (lawc_6 (cs := (200 + 2 * k, 20000 + 84 * k)) C T hc2 hX hO.2.2.2.2.2.2.1 hL hi kz ad σ hR)
    by_cases q7 : v = 7
    · exact z_tableIn (off := 536) C 569 hv1 dL_law_33 (by omega) (by omega) (by rw [q7]; rfl) (by decide) (lawc_7 (cs := (200 + 2 * k, 20000 + 84 * k)) C T hc2 hX hO.2.2.2.2.2.2.2.1 hL hi kz ad σ hR)
    by_cases q8 : v = 8
    · exact z_tableIn (off := 585) C 618 hv1 dL_law_33 (by omega) (by omega) (by rw [q8]; rfl) (by decide) (lawc_8 (cs := (200 + 2 * k, 20000 + 84 * k)) C T hc2 hX hO.2.2.2.2.2.2.2.2.1 hL hi kz ad σ hR)
    by_cases q9 : v = 9
    · exact z_tableIn (off := 608) C 641 hv1 dL_law_33 (by omega) (by omega) (by rw [q9]; rfl) (by decide) (lawc_9 (cs := (200 + 2 * k, 20000 + 84 * k)) C T hc2 hX hO.2.2.2.2.2.2.2.2.2.1 hL hi kz ad σ hR)
    by_cases q10 : v = 10
    · exact z_tableIn (off := 631) C 664 hv1 dL_law_33 (by omega) (by omega) (by rw [q10]; rfl) (by decide) (lawc_10 (cs := (200 + 2 * k, 20000 + 84 * k)) C T hc2 hX hO.2.2.2.2.2.2.2.2.2.2.1 hL hi kz ad σ hR)
    by_cases q11 : v = 11
    · exact z_tableIn (off := 664) C 697 hv1 dL_law_33 (by omega) (by omega) (by rw [q11]; rfl) (by decide) (lawc_11 (cs := (200 + 2 * k, 20000 + 84 * k)) C T hc2 hX hO.2.2.2.2.2.2.2.2.2.2.2.1 hL hi kz ad σ hR)
    by_cases q12 : v = 12
    · exact z_tableIn (off := 677) C 710 hv1 dL_law_33 (by omega) (by omega) (by rw [q12]; rfl) (by decide) (lawc_12 (cs := (200 + 2 * k, 20000 + 84 * k)) C T hc2 hX hO.2.2.2.2.2.2.2.2.2.2.2.2.1 hL hi kz ad σ hR)
    by_cases q13 : v = 13
    · exact z_tableIn (off := 730) C 763 hv1 dL_law_33 (by omega) (by omega) (by rw [q13]; rfl) (by decide) (lawc_13 (cs := (200 + 2 * k, 20000 + 84 * k)) C T hc2 hX hO.2.2.2.2.2.2.2.2.2.2.2.2.2.1 hL hi kz ad σ hR)
    by_cases q14 : v = 14
    · exact z_tableIn (off := 773) C 806 hv1 dL_law_33 (by omega) (by omega) (by rw [q14]; rfl) (by decide) (lawc_14 (cs := (200 + 2 * k, 20000 + 84 * k)) C T hc2 hX hO.2.2.2.2.2.2.2.2.2.2.2.2.2.2.1 hL hi kz ad σ hR)
    by_cases q15 : v = 15
    · exact z_tableIn (off := 816) C 849 hv1 dL_law_33 (by omega) (by omega) (by rw [q15]; rfl) (by decide) (lawc_15 (cs := (200 + 2 * k, 20000 + 84 * k)) C T hc2 hX hO.2.2.2.2.2.2.2.2.2.2.2.2.2.2.2.1 hL hi kz ad σ hR)
    by_cases q16 : v = 16
    · exact z_tableIn (off := 869) C 902 hv1 dL_law_33 (by omega) (by omega) (by rw [q16]; rfl) (by decide) (lawc_16 (cs := (200 + 2 * k, 20000 + 84 * k)) C T hc2 hX hO.2.2.2.2.2.2.2.2.2.2.2.2.2.2.2.2.1 hL hi kz ad σ hR)
    by_cases q17 : v = 17
    · exact z_tableIn (off := 902) C 935 hv1 dL_law_33 (by omega) (by omega) (by rw [q17]; rfl) (by decide) (lawc_17 (cs := (200 + 2 * k, 20000 + 84 * k)) C T hc2 hX hO.2.2.2.2.2.2.2.2.2.2.2.2.2.2.2.2.2.1 hL hi kz ad σ hR)
    by_cases q18 : v = 18
    · exact z_tableIn (off := 935) C 968 hv1 dL_law_33 (by omega) (by omega) (by rw [q18]; rfl) (by decide) (lawc_18 (cs := (200 + 2 * k, 20000 + 84 * k)) C T hc2 hX hO.2.2.2.2.2.2.2.2.2.2.2.2.2.2.2.2.2.2.1 hL hi kz ad σ hR)
    by_cases q19 : v = 19
    · exact z_tableIn (off := 984) C 1017 hv1 dL_law_33 (by omega) (by omega) (by rw [q19]; rfl) (by decide) (lawc_19 (cs := (200 + 2 * k, 20000 + 84 * k)) C T hc2 hX hO.2.2.2.2.2.2.2.2.2.2.2.2.2.2.2.2.2.2.2.1 hL hi kz ad σ hR)
    by_cases q20 : v = 20
    · exact z_tableIn (off := 1033) C 1066 hv1 dL_law_33 (by omega) (by omega) (by rw [q20]; rfl) (by decide) (lawc_20 (cs := (200 + 2 * k, 20000 + 84 * k)) C T hc2 hX hO.2.2.2.2.2.2.2.2.2.2.2.2.2.2.2.2.2.2.2.2.1 hL hi kz ad σ hR)
    by_cases q21 : v = 21
    · exact z_tableIn (off := 1066) C 1099 hv1 dL_law_33 (by omega) (by omega) (by rw [q21]; rfl) (by decide) (lawc_21 (cs := (200 + 2 * k, 20000 + 84 * k)) C T hc2 hX hO.2.2.2.2.2.2.2.2.2.2.2.2.2.2.2.2.2.2.2.2.2.1 hL hi kz ad σ hR)
    by_cases q22 : v = 22
    · exact z_tableIn (off := 1089) C 1122 hv1 dL_law_33 (by omega) (by omega) (by rw [q22]; rfl) (by decide) (lawc_22 (cs := (200 + 2 * k, 20000 + 84 * k)) C T hc2 hX hO.2.2.2.2.2.2.2.2.2.2.2.2.2.2.2.2.2.2.2.2.2.2.1 hL hi kz ad σ hR)
    by_cases q23 : v = 23
    · exact z_tableIn (off := 1112) C 1145 hv1 dL_law_33 (by omega) (by omega) (by rw [q23]; rfl) (by decide) (lawc_23 (cs := (200 + 2 * k, 20000 + 84 * k)) C T hc2 hX hO.2.2.2.2.2.2.2.2.2.2.2.2.2.2.2.2.2.2.2.2.2.2.2.1 hL hi kz ad σ hR)
    by_cases q24 : v = 24
    · exact z_tableIn (off := 1145) C 1178 hv1 dL_law_33 (by omega) (by omega) (by rw [q24]; rfl) (by decide) (lawc_24 (cs := (200 + 2 * k, 20000 + 84 * k)) C T hc2 hX hO.2.2.2.2.2.2.2.2.2.2.2.2.2.2.2.2.2.2.2.2.2.2.2.2.1 hL hi kz ad σ hR)
    by_cases q25 : v = 25
    · exact z_tableIn (off := 1168) C 1201 hv1 dL_law_33 (by omega) (by omega) (by rw [q25]; rfl) (by decide) (lawc_25 (cs := (200 + 2 * k, 20000 + 84 * k)) C T hc2 hX hO.2.2.2.2.2.2.2.2.2.2.2.2.2.2.2.2.2.2.2.2.2.2.2.2.2.1 hL hi kz ad σ hR)
    by_cases q26 : v = 26
    · exact z_tableIn (off := 1231) C 1264 hv1 dL_law_33 (by omega) (by omega) (by rw [q26]; rfl) (by decide) (lawc_26 (cs := (200 + 2 * k, 20000 + 84 * k)) C T hc2 hX hO.2.2.2.2.2.2.2.2.2.2.2.2.2.2.2.2.2.2.2.2.2.2.2.2.2.2.1 hL hi kz ad σ hR)
    by_cases q27 : v = 27
    · exact z_tableIn (off := 1254) C 1287 hv1 dL_law_33 (by omega) (by omega) (by rw [q27]; rfl) (by decide) (lawc_27 (cs := (200 + 2 * k, 20000 + 84 * k)) C T hc2 hX hO.2.2.2.2.2.2.2.2.2.2.2.2.2.2.2.2.2.2.2.2.2.2.2.2.2.2.2.1 hL hi kz ad σ hR)
    by_cases q28 : v = 28
    · exact z_tableIn (off := 1287) C 1320 hv1 dL_law_33 (by omega) (by omega) (by rw [q28]; rfl) (by decide) (lawc_28 (cs := (200 + 2 * k, 20000 + 84 * k)) C T hc2 hX hO.2.2.2.2.2.2.2.2.2.2.2.2.2.2.2.2.2.2.2.2.2.2.2.2.2.2.2.2.1 hL hi kz ad σ hR)
    by_cases q29 : v = 29
    · exact z_tableIn (off := 1330) C 1363 hv1 dL_law_33 (by omega) (by omega) (by rw [q29]; rfl) (by decide) (lawc_29 (cs := (200 + 2 * k, 20000 + 84 * k)) C T hc2 hX hO.2.2.2.2.2.2.2.2.2.2.2.2.2.2.2.2.2.2.2.2.2.2.2.2.2.2.2.2.2.1 hL hi kz ad σ hR)
    by_cases q30 : v = 30
    · exact z_tableIn (off := 1379) C 1412 hv1 dL_law_33 (by omega) (by omega) (by rw [q30]; rfl) (by decide) (lawc_30 (cs := (200 + 2 * k, 20000 + 84 * k)) C T hc2 hX hO.2.2.2.2.2.2.2.2.2.2.2.2.2.2.2.2.2.2.2.2.2.2.2.2.2.2.2.2.2.2.1 hL hi kz ad σ hR)
    by_cases q31 : v = 31
    · exact z_tableIn (off := 1442) C 1475 hv1 dL_law_33 (by omega) (by omega) (by rw [q31]; rfl) (by decide) (lawc_31 (cs := (200 + 2 * k, 20000 + 84 * k)) C T hc2 hX hO.2.2.2.2.2.2.2.2.2.2.2.2.2.2.2.2.2.2.2.2.2.2.2.2.2.2.2.2.2.2.2.1 hL hi kz ad σ hR)
    by_cases q32 : v = 32
    · exact z_tableIn (off := 1465) C 1498 hv1 dL_law_33 (by omega) (by omega) (by rw [q32]; rfl) (by decide) (lawc_32 (cs := (200 + 2 * k, 20000 + 84 * k)) C T hc2 hX hO.2.2.2.2.2.2.2.2.2.2.2.2.2.2.2.2.2.2.2.2.2.2.2.2.2.2.2.2.2.2.2.2.1 hL hi kz ad σ hR)
    by_cases q33 : v = 33
    · exact z_tableIn (off := 1508) C 1541 hv1 dL_law_33 (by omega) (by omega) (by rw [q33]; rfl) (by decide) (lawc_33 (cs := (200 + 2 * k, 20000 + 84 * k)) C T hc2 hX hO.2.2.2.2.2.2.2.2.2.2.2.2.2.2.2.2.2.2.2.2.2.2.2.2.2.2.2.2.2.2.2.2.2.1 hL hi kz ad σ hR)
    by_cases q34 : v = 34
    · exact z_tableIn (off := 1557) C 1590 hv1 dL_law_33 (by omega) (by omega) (by rw [q34]; rfl) (by decide) (lawc_34 (cs := (200 + 2 * k, 20000 + 84 * k)) C T hc2 hX hO.2.2.2.2.2.2.2.2.2.2.2.2.2.2.2.2.2.2.2.2.2.2.2.2.2.2.2.2.2.2.2.2.2.2.1 hL hi kz ad σ hR)
    by_cases q35 : v = 35
    · exact z_tableIn (off := 1616) C 1649 hv1 dL_law_33 (by omega) (by omega) (by rw [q35]; rfl) (by decide) (lawc_35 (cs := (200 + 2 * k, 20000 + 84 * k)) C T hc2 hX hO.2.2.2.2.2.2.2.2.2.2.2.2.2.2.2.2.2.2.2.2.2.2.2.2.2.2.2.2.2.2.2.2.2.2.2.1 hL hi kz ad σ hR)
    by_cases q36 : v = 36
    · exact z_tableIn (off := 1665) C 1698 hv1 dL_law_33 (by omega) (by omega) (by rw [q36]; rfl) (by decide) (lawc_36 (cs := (200 + 2 * k, 20000 + 84 * k)) C T hc2 hX hO.2.2.2.2.2.2.2.2.2.2.2.2.2.2.2.2.2.2.2.2.2.2.2.2.2.2.2.2.2.2.2.2.2.2.2.2.1 hL hi kz ad σ hR)
    by_cases q37 : v = 37
    · exact z_tableIn (off := 1698) C 1731 hv1 dL_law_33 (by omega) (by omega) (by rw [q37]; rfl) (by decide) (lawc_37 (cs := (200 + 2 * k, 20000 + 84 * k)) C T hc2 hX hO.2.2.2.2.2.2.2.2.2.2.2.2.2.2.2.2.2.2.2.2.2.2.2.2.2.2.2.2.2.2.2.2.2.2.2.2.2.1 hL hi kz ad σ hR)
    by_cases q38 : v = 38
    · exact z_tableIn (off := 1741) C 1774 hv1 dL_law_33 (by omega) (by omega) (by rw [q38]; rfl) (by decide) (lawc_38 (cs := (200 + 2 * k, 20000 + 84 * k)) C T hc2 hX hO.2.2.2.2.2.2.2.2.2.2.2.2.2.2.2.2.2.2.2.2.2.2.2.2.2.2.2.2.2.2.2.2.2.2.2.2.2.2.1 hL hi kz ad σ hR)
    by_cases q39 : v = 39
    · exact z_tableIn (off := 1814) C 1847 hv1 dL_law_33 (by omega) (by omega) (by rw [q39]; rfl) (by decide) (lawc_39 (cs := (200 + 2 * k, 20000 + 84 * k)) C T hc2 hX hO.2.2.2.2.2.2.2.2.2.2.2.2.2.2.2.2.2.2.2.2.2.2.2.2.2.2.2.2.2.2.2.2.2.2.2.2.2.2.2.1 hL hi kz ad σ hR)
    by_cases q40 : v = 40
    · exact z_tableIn (off := 1847) C 1880 hv1 dL_law_33 (by omega) (by omega) (by rw [q40]; rfl) (by decide) (lawc_40 (cs := (200 + 2 * k, 20000 + 84 * k)) C T hc2 hX hO.2.2.2.2.2.2.2.2.2.2.2.2.2.2.2.2.2.2.2.2.2.2.2.2.2.2.2.2.2.2.2.2.2.2.2.2.2.2.2.2.1 hL hi kz ad σ hR)
    by_cases q41 : v = 41
    · exact z_tableIn (off := 1890) C 1923 hv1 dL_law_33 (by omega) (by omega) (by rw [q41]; rfl) (by decide) (lawc_41 (cs := (200 + 2 * k, 20000 + 84 * k)) C T hc2 hX hO.2.2.2.2.2.2.2.2.2.2.2.2.2.2.2.2.2.2.2.2.2.2.2.2.2.2.2.2.2.2.2.2.2.2.2.2.2.2.2.2.2.1 hL hi kz ad σ hR)
    by_cases q42 : v = 42
    · exact z_tableIn (off := 1933) C 1966 hv1 dL_law_33 (by omega) (by omega) (by rw [q42]; rfl) (by decide) (lawc_42 (cs := (200 + 2 * k, 20000 + 84 * k)) C T hc2 hX hO.2.2.2.2.2.2.2.2.2.2.2.2.2.2.2.2.2.2.2.2.2.2.2.2.2.2.2.2.2.2.2.2.2.2.2.2.2.2.2.2.2.2.1 hL hi kz ad σ hR)
    by_cases q43 : v = 43
    · exact z_tableIn (off := 1946) C 1979 hv1 dL_law_33 (by omega) (by omega) (by rw [q43]; rfl) (by decide) (lawc_43 (cs := (200 + 2 * k, 20000 + 84 * k)) C T hc2 hX hO.2.2.2.2.2.2.2.2.2.2.2.2.2.2.2.2.2.2.2.2.2.2.2.2.2.2.2.2.2.2.2.2.2.2.2.2.2.2.2.2.2.2.2.1 hL hi kz ad σ hR)
    by_cases q44 : v = 44
    · exact z_tableIn (off := 1969) C 2002 hv1 dL_law_33 (by omega) (by omega) (by rw [q44]; rfl) (by decide) (lawc_44 (cs := (200 + 2 * k, 20000 + 84 * k)) C T hc2 hX hO.2.2.2.2.2.2.2.2.2.2.2.2.2.2.2.2.2.2.2.2.2.2.2.2.2.2.2.2.2.2.2.2.2.2.2.2.2.2.2.2.2.2.2.2.1 hL hi kz ad σ hR)
    by_cases q45 : v = 45
    · exact z_tableIn (off := 2022) C 2055 hv1 dL_law_33 (by omega) (by omega) (by rw [q45]; rfl) (by decide) (lawc_45 (cs := (200 + 2 * k, 20000 + 84 * k)) C T hc2 hX hO.2.2.2.2.2.2.2.2.2.2.2.2.2.2.2.2.2.2.2.2.2.2.2.2.2.2.2.2.2.2.2.2.2.2.2.2.2.2.2.2.2.2.2.2.2.1 hL hi kz ad σ hR)
    by_cases q46 : v = 46
    · exact z_tableIn (off := 2055) C 2088 hv1 dL_law_33 (by omega) (by omega) (by rw [q46]; rfl) (by decide) (lawc_46 (cs := (200 + 2 * k, 20000 + 84 * k)) C T hc2 hX hO.2.2.2.2.2.2.2.2.2.2.2.2.2.2.2.2.2.2.2.2.2.2.2.2.2.2.2.2.2.2.2.2.2.2.2.2.2.2.2.2.2.2.2.2.2.2.1 hL hi kz ad σ hR)
    by_cases q47 : v = 47
    · exact z_tableIn (off := 2078) C 2111 hv1 dL_law_33 (by omega) (by omega) (by rw [q47]; rfl) (by decide) (lawc_47 (cs := (200 + 2 * k, 20000 + 84 * k)) C T hc2 hX hO.2.2.2.2.2.2.2.2.2.2.2.2.2.2.2.2.2.2.2.2.2.2.2.2.2.2.2.2.2.2.2.2.2.2.2.2.2.2.2.2.2.2.2.2.2.2.2.1 hL hi kz ad σ hR)
    by_cases q48 : v = 48
    · exact z_tableIn (off := 2091) C 2124 hv1 dL_law_33 (by omega) (by omega) (by rw [q48]; rfl) (by decide) (lawc_48 (cs := (200 + 2 * k, 20000 + 84 * k)) C T hc2 hX hO.2.2.2.2.2.2.2.2.2.2.2.2.2.2.2.2.2.2.2.2.2.2.2.2.2.2.2.2.2.2.2.2.2.2.2.2.2.2.2.2.2.2.2.2.2.2.2.2.1 hL hi kz ad σ hR)
    by_cases q49 : v = 49
    · exact z_tableIn (off := 2114) C 2147 hv1 dL_law_33 (by omega) (by omega) (by rw [q49]; rfl) (by decide) (lawc_49 (cs := (200 + 2 * k, 20000 + 84 * k)) C T hc2 hX hO.2.2.2.2.2.2.2.2.2.2.2.2.2.2.2.2.2.2.2.2.2.2.2.2.2.2.2.2.2.2.2.2.2.2.2.2.2.2.2.2.2.2.2.2.2.2.2.2.2 hL hi kz ad σ hR)
    exact z_widen (k := 200 + 2 * k + 2) (n := 20000 + 84 * k + 84) (by show _ ≤ _; omega) (by show _ ≤ _; omega) (z_tableOut C 2170 hv1 dL_law_33 (by omega) (by decide) (kz ad σ hR))
set_option maxRecDepth 20000 in
set_option maxHeartbeats 4000000 in
theorem whole_open {R : St → Prop} (hI : INI R) (hO : OPS R) {p : Program} {e : Env} {s : State} {m : MethodId} {below : List Frame} {meth : Method} {c : Code} (l : Launch) {b L : Nat} {xs : Nat → Int32} (hL : L ≤ 3584) (C0 : lw_At p s m meth c b L xs) : W p l e room_1 s m #[Value.ref b] below meth c s.heap [] 0 0 (lw_Z below #[Value.ref b] s) (entryFrame m ([Value.ref b] : List Value).toArray 4) := by
  obtain ⟨hx, hb, hr, hml, hown, hts, hXX, hbl, hlocks, hgv⟩ := C0
  obtain ⟨D, cA, hK⟩ := law_K hts
  have hSA := law_S hts hgv
  have htu : ∀ w ∈ lw_u, w.before #[Value.ref b] s = true := fun w hw => hts w (lw_u_tbl hw)
  generalize hκ : ((p, l, e, room_1, s, m, #[Value.ref b], below, meth, c, D, cA, s.heap.size, true) : Cxt) = κ
  have C : Cx κ RL cL_law 4 ret 11 := by
    rw [← hκ]
    exact ⟨hx, hb, hml, hown, htu, hlocks, hK, hr, ⟨by decide, by decide⟩, Nat.le_refl _, hSA⟩
  have T : isT κ := by rw [← hκ]; exact rfl
  have hcs : csOK κ (600000, 7302250) := by rw [← hκ]; exact ⟨by decide, by decide⟩
  have hX : scX κ b L xs := by rw [← hκ]; exact ⟨hXX, hbl, Nat.not_le.mpr hbl⟩
  have hend : ∀ (cs : Nat × Nat) lv ad σ, cs.1 ≤ 600000 → cs.2 ≤ 7302250 → Z κ cs (lw_Z below #[Value.ref b] s) 2176 lv [] ad σ := by
    intro cs lv ad σ h1 h2
    refine z_iconst C dL_law_2176 ?_
    rw [← hκ]
    intro H locs ls hl hW hS
    refine va_forget (fun q hq => hS.2.2 q hq) ?_
    refine W.widen h1 h2 ?_
    exact lw_ret hx hb hr hlocks dL_law_2177
  have main : Z (offK κ) (0, 0) (lw_Z below #[Value.ref b] s) 0 [(0, .ref b)] [] (fun _ _ => 0) emp := by
    have h := hI
    have C1 := C.off
    refine z_new C1 lkn_L_7 (fun q => noT isF_off q) (csOK_le (csOK_off hcs) (by decide) (by decide)) dL_law_0 (fun ad1 hA1 => ?_)
    show Z (offK κ) (1, 18) _ 3 [(0, .ref b)] [vo ad1 11 (some 0)] ad1 (nwO emp 11)
    refine z_dup C1 dL_law_3 rfl ?_
    refine z_cI (κ := offK κ) (st := [vo ad1 11 (some 0)]) isF_off C1 (ct_X11_init 0) lm_L_9 ln_X11_init rfl dL_law_4 [] rfl rfl rfl (by decide) (by decide) (Nat.le_of_ble_eq_true rfl) (csOK_le (csOK_off hcs) (by decide) (by decide)) h (fun _ s2 ad2 _ hg2 h => ?_)
    show Z (offK κ) (40, 3370) _ 7 [(0, .ref b)] [vo ad1 11 (some 0)] ad2 s2
    have hn1 : 0 < gN (nwO emp 11) 11 := by decide
    rw [voG hg2 hn1]
    have hn2 := (hg2 _ _ hn1).1
    refine z_astore_n (lv2 := [(1, vo ad2 11 (some 0)), (0, .ref b)]) C1 dL_law_7 (by decide) rfl ?_
    refine z_new C1 lkn_L_10 (fun q => noT isF_off q) (csOK_le (csOK_off hcs) (by decide) (by decide)) dL_law_8 (fun ad3 hA3 => ?_)
    rw [voA (K2 := 11) (r := some 0) hA3 (by decide)]
    show Z (offK κ) (41, 3462) _ 11 [(1, vo ad3 11 (some 0)), (0, .ref b)] [vo ad3 12 (some (gN s2 12))] ad3 (nwO s2 12)
    have hn3 : 0 < gN (nwO s2 12) 11 := hn2
    refine z_dup C1 dL_law_11 rfl ?_
    refine z_cI (κ := offK κ) (st := [vo ad3 12 (some (gN s2 12))]) isF_off C1 (ct_X12_init (gN s2 12)) lm_L_12 ln_X12_init rfl dL_law_12 [] rfl rfl rfl nwO_lt (by decide) (Nat.le_of_ble_eq_true rfl) (csOK_le (csOK_off hcs) (by decide) (by decide)) h (fun _ s4 ad4 _ hg4 h => ?_)
    show Z (offK κ) (114, 7651) _ 15 [(1, vo ad3 11 (some 0)), (0, .ref b)] [vo ad3 12 (some (gN s2 12))] ad4 s4
    rw [voG hg4 hn3, voG hg4 (nwO_lt (σ := s2) (K := 12))]
    obtain ⟨⟨h1, -, hSF, hR⟩, -⟩ := wpO_ckp.mp h
    rw [h1]
    refine z_on hSF ?_
    refine z_astore_n (lv2 := [(2, vo ad4 12 (some 0)), (1, vo ad4 11 (some 0)), (0, .ref b)]) C dL_law_15 (by decide) rfl ?_
    refine z_iconst C dL_law_16 ?_
    refine z_istore_n (lv2 := [(3, vi 0), (2, vo ad4 12 (some 0)), (1, vo ad4 11 (some 0)), (0, .ref b)]) C dL_law_17 (by decide) rfl ?_
    refine z_sub [3, 2, 1, 0] rfl ?_
    refine z_widen (k := 200) (n := 20000) (by decide) (by decide) ?_
    exact law_loop C T hcs hX hO hL hend 513 0 (by omega) (by omega) ad4 s4 hR
  rw [lg_entry_eq]
  have hl := lv_entry ([Value.ref b]) (n := 4) (Nat.le_of_ble_eq_true rfl)
  rw [← hκ] at main
  exact main s.heap [] _ (by rw [hml]; exact hl) ⟨fun K j h => absurd h (Nat.not_lt_zero _), fun K j K2 j2 h => absurd h (Nat.not_lt_zero _), fun K j h => absurd h (Nat.not_lt_zero _), fun c j e => (by decide : inr 0), fun c j e => (by decide : inq 0), (fun q => by cases q), ⟨fun a K n j e x h1 h2 => absurd h2 (Nat.not_lt_zero _), fun K k t j x h1 h2 h3 => absurd h3 (Nat.not_lt_zero _)⟩⟩ va_S.rf
