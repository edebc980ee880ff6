def isNest : Cond → Bool
  | .fieldLinkNest .. => true
  | .methodLinkNest .. => true
  | _ => false
/-- the tables' words that a callee may be given as words, those of nest mates, both -/
def lw_g : List Cond := lw_tbl.filter goodWord
def lw_n : List Cond := lw_tbl.filter isNest
def lw_u : List Cond := lw_g ++ lw_n
theorem lw_ug {w : Cond} (h : w ∈ lw_tbl) (hg : goodWord w = true) : w ∈ lw_u := List.mem_append_left _ (List.mem_filter.mpr ⟨h, hg⟩)
theorem lw_un {w : Cond} (h : w ∈ lw_tbl) (hg : isNest w = true) : w ∈ lw_u := List.mem_append_right _ (List.mem_filter.mpr ⟨h, hg⟩)
def rmd (d : Nat) : Room := { frames := d, cells := 0, slots := 0, locals := 40 * d }
abbrev Cxt : Type := Program × Launch × Env × Room × State × MethodId × Array Value × List Frame × Method × Code × va_G × (Nat → ClassId) × Nat × Bool
def tyl (cA : Nat → ClassId) : List (ClassId × FieldType) := [(cA 0, .int), (cA 1, .boolean), (cA 2, .long), (cA 13, .object RX10), (cA 10, .object RX7), (cA 11, .object RX8), (cA 9, .object RX6), (cA 8, .object RX5)]
def nines (k : Nat) : Int := 9 ^ k
def tens (k : Nat) : Int := 10 ^ k
/-- the two static rows of numbers -/
def aoL : List String := [RX5, RX6, RX7, RX8, RX10]
def SAt (s : State) (lo : Nat) : Prop := (∃ t9 tT : Nat, va_Z RX4 "NINES" "[I" (.ref t9) (fun q => lo ≤ q) s s.heap ∧ va_T .int t9 8 (fun k => vi (nines k)) (fun q => lo ≤ q) s s.heap ∧
  va_Z RX2 "TENS" "[I" (.ref tT) (fun q => lo ≤ q) s s.heap ∧ va_T .int tT 8 (fun k => vi (tens k)) (fun q => lo ≤ q) s s.heap) ∧ ∀ Cn ∈ aoL, va_AO Cn s
def Cx (κ : Cxt) (own : String) (cc : ByteArray) (nL : Nat) (ret : Option FieldType) (d : Nat) : Prop := match κ with
  | (p, _, _, R, s, m, args, _, meth, c, D, cA, lo, _) => p.tables.exec = Jvm.exec ∧ c.code = cc ∧ c.maxLocals = nL ∧ s.vm.findClass own = some m.cls ∧ (∀ w ∈ lw_u, w.before args s = true) ∧ meth.locks = false ∧ va_K D vwCl (tyl cA) s ∧ meth.sig.returnType = ret ∧ (d ≤ R.frames ∧ 40 * d ≤ R.locals) ∧ lo ≤ s.heap.size ∧ SAt s lo
/-- the machine, at pc, with these locals, this stack and this world, comes to Q -/
def Z (κ : Cxt) (cs : Nat × Nat) (Q : State → Prop) (pc : Nat) (lv : List (Nat × Value)) (st : List Value) (ad : Nat → Nat → Nat) (σ : St) : Prop := match κ with
  | (p, l, e, R, s, m, args, below, meth, c, D, cA, lo, sb) => ∀ (H : Heap) (locs : List Loc) (ls : Array Slot), lv_has ls c.maxLocals lv → WD sb D cA lo ad σ H → va_S (fun q => lo ≤ q) s.heap H locs → W p l e R s m args below meth c H locs cs.1 cs.2 Q (F0 m pc ls st)
def isT (κ : Cxt) : Prop := match κ with
  | (_, _, _, _, _, _, _, _, _, _, _, _, _, sb) => sb = true
section ROWS
variable {κ : Cxt} {own : String} {cc : ByteArray} {nL d pc : Nat} {ret : Option FieldType} {cs : Nat × Nat} {Q : State → Prop} {lv : List (Nat × Value)} {st : List Value} {ad : Nat → Nat → Nat} {σ : St}
theorem z_sub {lv2 : List (Nat × Value)} (ks : List Nat) (h : lv_pick lv ks = lv2) (k : Z κ cs Q pc lv2 st ad σ) : Z κ cs Q pc lv st ad σ := by
  obtain ⟨p, l, e, R, s, m, args, below, meth, c, D, cA, lo, sb⟩ := κ
  intro H locs ls hl hW hS
  exact k H locs ls (lv_sub hl ks h) hW hS
/-- what a world says of its numbers may be used at any point -/
theorem z_rng (k : (∀ c j e, inr (gI σ c j e)) → (∀ c j e, inq (gJ σ c j e)) → Z κ cs Q pc lv st ad σ) : Z κ cs Q pc lv st ad σ := by
  obtain ⟨p, l, e, R, s, m, args, below, meth, c, D, cA, lo, sb⟩ := κ
  intro H locs ls hl hW hS
  exact k hW.2.2.2.1 hW.2.2.2.2.1 H locs ls hl hW hS
theorem z_sf (T : isT κ) (k : SF σ → Z κ cs Q pc lv st ad σ) : Z κ cs Q pc lv st ad σ := by
  obtain ⟨p, l, e, R, s, m, args, below, meth, c, D, cA, lo, sb⟩ := κ
  intro H locs ls hl hW hS
  exact k (hW.2.2.2.2.2.1 T) H locs ls hl hW hS
theorem z_iconst (C : Cx κ own cc nL ret d) {n : Int} (hd : decode cc pc = .ok (.iconst n, 1)) (k : Z κ cs Q (pc + 1) lv (vi n :: st) ad σ) : Z κ cs Q pc lv st ad σ := by
  obtain ⟨p, l, e, R, s, m, args, below, meth, c, D, cA, lo, sb⟩ := κ
  obtain ⟨hx, hb, hml, hown, hts, hlk, hK, hr, hR, hlo, hSA⟩ := C
  intro H locs ls hl hW hS
  exact lv_iconst hx hb hd rfl (k H locs ls hl hW hS)
theorem z_bipush (C : Cx κ own cc nL ret d) {n : Int} (hd : decode cc pc = .ok (.bipush n, 2)) (hv : (Int8.ofInt n).toInt32 = Int32.ofInt n) (k : Z κ cs Q (pc + 2) lv (vi n :: st) ad σ) : Z κ cs Q pc lv st ad σ := by
  obtain ⟨p, l, e, R, s, m, args, below, meth, c, D, cA, lo, sb⟩ := κ
  obtain ⟨hx, hb, hml, hown, hts, hlk, hK, hr, hR, hlo, hSA⟩ := C
  intro H locs ls hl hW hS
  exact lv_bipush hx hb hd hv (k H locs ls hl hW hS)
theorem z_sipush (C : Cx κ own cc nL ret d) {n : Int} (hd : decode cc pc = .ok (.sipush n, 3)) (hv : (Int16.ofInt n).toInt32 = Int32.ofInt n) (k : Z κ cs Q (pc + 3) lv (vi n :: st) ad σ) : Z κ cs Q pc lv st ad σ := by
  obtain ⟨p, l, e, R, s, m, args, below, meth, c, D, cA, lo, sb⟩ := κ
  obtain ⟨hx, hb, hml, hown, hts, hlk, hK, hr, hR, hlo, hSA⟩ := C
  intro H locs ls hl hW hS
  exact lv_sipush hx hb hd hv (k H locs ls hl hW hS)
theorem z_ldc (C : Cx κ own cc nL ret d) {n : Int} {i : Nat} (hc : Jvm.Cond.constant own i (Int32.ofInt n) ∈ lw_u) (hd : decode cc pc = .ok (.ldc i, 2)) (k : Z κ cs Q (pc + 2) lv (vi n :: st) ad σ) : Z κ cs Q pc lv st ad σ := by
  obtain ⟨p, l, e, R, s, m, args, below, meth, c, D, cA, lo, sb⟩ := κ
  obtain ⟨hx, hb, hml, hown, hts, hlk, hK, hr, hR, hlo, hSA⟩ := C
  intro H locs ls hl hW hS
  exact lv_ldc hx hb hown (hts _ hc) hd (k H locs ls hl hW hS)
theorem z_ldc_w (C : Cx κ own cc nL ret d) {n : Int} {i : Nat} (hc : Jvm.Cond.constant own i (Int32.ofInt n) ∈ lw_u) (hd : decode cc pc = .ok (.ldc_w i, 3)) (k : Z κ cs Q (pc + 3) lv (vi n :: st) ad σ) : Z κ cs Q pc lv st ad σ := by
  obtain ⟨p, l, e, R, s, m, args, below, meth, c, D, cA, lo, sb⟩ := κ
  obtain ⟨hx, hb, hml, hown, hts, hlk, hK, hr, hR, hlo, hSA⟩ := C
  intro H locs ls hl hW hS
  exact lv_ldcw hx hb hown (hts _ hc) hd (k H locs ls hl hW hS)
theorem z_ldc2_w (C : Cx κ own cc nL ret d) {n : Int} {i : Nat} (hc : Jvm.Cond.constantLong own i (Int64.ofInt n) ∈ lw_u) (hd : decode cc pc = .ok (.ldc2_w i, 3)) (k : Z κ cs Q (pc + 3) lv (vj n :: st) ad σ) : Z κ cs Q pc lv st ad σ := by
  obtain ⟨p, l, e, R, s, m, args, below, meth, c, D, cA, lo, sb⟩ := κ
  obtain ⟨hx, hb, hml, hown, hts, hlk, hK, hr, hR, hlo, hSA⟩ := C
  intro H locs ls hl hW hS
  exact lv_ldc2 hx hb hown (hts _ hc) hd (k H locs ls hl hW hS)
theorem z_lconst (C : Cx κ own cc nL ret d) {n : Fin 2} {z : Int} (hd : decode cc pc = .ok (.lconst n, 1)) (hv : Int64.ofNat (n : Nat) = Int64.ofInt z) (k : Z κ cs Q (pc + 1) lv (vj z :: st) ad σ) : Z κ cs Q pc lv st ad σ := by
  obtain ⟨p, l, e, R, s, m, args, below, meth, c, D, cA, lo, sb⟩ := κ
  obtain ⟨hx, hb, hml, hown, hts, hlk, hK, hr, hR, hlo, hSA⟩ := C
  intro H locs ls hl hW hS
  exact lv_lconst hx hb hd hv (k H locs ls hl hW hS)
theorem z_null (C : Cx κ own cc nL ret d) {K : Nat} (hd : decode cc pc = .ok (.aconst_null, 1)) (k : Z κ cs Q (pc + 1) lv (vo ad K none :: st) ad σ) : Z κ cs Q pc lv st ad σ := by
  obtain ⟨p, l, e, R, s, m, args, below, meth, c, D, cA, lo, sb⟩ := κ
  obtain ⟨hx, hb, hml, hown, hts, hlk, hK, hr, hR, hlo, hSA⟩ := C
  intro H locs ls hl hW hS
  exact lv_null hx hb hd (k H locs ls hl hW hS)
theorem z_iload_n (C : Cx κ own cc nL ret d) {i : Fin 4} {x : Int} (q : Nat) (hd : decode cc pc = .ok (.iload_n i, 1)) (hk : lv[q]? = some ((i : Nat), vi x)) (k : Z κ cs Q (pc + 1) lv (vi x :: st) ad σ) : Z κ cs Q pc lv st ad σ := by
  obtain ⟨p, l, e, R, s, m, args, below, meth, c, D, cA, lo, sb⟩ := κ
  obtain ⟨hx, hb, hml, hown, hts, hlk, hK, hr, hR, hlo, hSA⟩ := C
  intro H locs ls hl hW hS
  exact lv_iload_n hx hb hd rfl (lv_at hl q hk) (k H locs ls hl hW hS)
theorem z_iload (C : Cx κ own cc nL ret d) {i : Nat} {x : Int} (q : Nat) (hd : decode cc pc = .ok (.iload i, 2)) (hk : lv[q]? = some (i, vi x)) (k : Z κ cs Q (pc + 2) lv (vi x :: st) ad σ) : Z κ cs Q pc lv st ad σ := by
  obtain ⟨p, l, e, R, s, m, args, below, meth, c, D, cA, lo, sb⟩ := κ
  obtain ⟨hx, hb, hml, hown, hts, hlk, hK, hr, hR, hlo, hSA⟩ := C
  intro H locs ls hl hW hS
  exact lv_iload hx hb hd (lv_at hl q hk) (k H locs ls hl hW hS)
theorem z_lload_n (C : Cx κ own cc nL ret d) {i : Fin 4} {x : Int} (q : Nat) (hd : decode cc pc = .ok (.lload_n i, 1)) (hk : lv[q]? = some ((i : Nat), vj x)) (k : Z κ cs Q (pc + 1) lv (vj x :: st) ad σ) : Z κ cs Q pc lv st ad σ := by
  obtain ⟨p, l, e, R, s, m, args, below, meth, c, D, cA, lo, sb⟩ := κ
  obtain ⟨hx, hb, hml, hown, hts, hlk, hK, hr, hR, hlo, hSA⟩ := C
  intro H locs ls hl hW hS
  exact lv_lload_n hx hb hd rfl (lv_at hl q hk) (k H locs ls hl hW hS)
theorem z_lload (C : Cx κ own cc nL ret d) {i : Nat} {x : Int} (q : Nat) (hd : decode cc pc = .ok (.lload i, 2)) (hk : lv[q]? = some (i, vj x)) (k : Z κ cs Q (pc + 2) lv (vj x :: st) ad σ) : Z κ cs Q pc lv st ad σ := by
  obtain ⟨p, l, e, R, s, m, args, below, meth, c, D, cA, lo, sb⟩ := κ
  obtain ⟨hx, hb, hml, hown, hts, hlk, hK, hr, hR, hlo, hSA⟩ := C
  intro H locs ls hl hW hS
  exact lv_lload hx hb hd (lv_at hl q hk) (k H locs ls hl hW hS)
theorem z_aload_n (C : Cx κ own cc nL ret d) {i : Fin 4} {K : Nat} {r : Option Nat} (q : Nat) (hd : decode cc pc = .ok (.aload_n i, 1)) (hk : lv[q]? = some ((i : Nat), vo ad K r)) (k : Z κ cs Q (pc + 1) lv (vo ad K r :: st) ad σ) : Z κ cs Q pc lv st ad σ := by
  obtain ⟨p, l, e, R, s, m, args, below, meth, c, D, cA, lo, sb⟩ := κ
  obtain ⟨hx, hb, hml, hown, hts, hlk, hK, hr, hR, hlo, hSA⟩ := C
  intro H locs ls hl hW hS
  have hz := k H locs ls hl hW hS
  have ha := lv_at hl q hk
  cases r with
  | none => exact lv_aload_nN hx hb hd rfl ha hz
  | some a => exact lv_aload_n hx hb hd rfl ha hz
theorem z_aload (C : Cx κ own cc nL ret d) {i : Nat} {K : Nat} {r : Option Nat} (q : Nat) (hd : decode cc pc = .ok (.aload i, 2)) (hk : lv[q]? = some (i, vo ad K r)) (k : Z κ cs Q (pc + 2) lv (vo ad K r :: st) ad σ) : Z κ cs Q pc lv st ad σ := by
  obtain ⟨p, l, e, R, s, m, args, below, meth, c, D, cA, lo, sb⟩ := κ
  obtain ⟨hx, hb, hml, hown, hts, hlk, hK, hr, hR, hlo, hSA⟩ := C
  intro H locs ls hl hW hS
  have hz := k H locs ls hl hW hS
  have ha := lv_at hl q hk
  cases r with
  | none => exact lv_aloadN hx hb hd ha hz
  | some a => exact lv_aload hx hb hd ha hz
theorem z_istore_n (C : Cx κ own cc nL ret d) {i : Fin 4} {x : Int} {lv2 : List (Nat × Value)} (hd : decode cc pc = .ok (.istore_n i, 1)) (hn : (i : Nat) < nL) (hv : ((i : Nat), vi x) :: lv.filter (fun q => !(q.1 == (i : Nat)) && !(q.1 + 1 == (i : Nat) && q.2.category == 2)) = lv2) (k : Z κ cs Q (pc + 1) lv2 st ad σ) : Z κ cs Q pc lv (vi x :: st) ad σ := by
  obtain ⟨p, l, e, R, s, m, args, below, meth, c, D, cA, lo, sb⟩ := κ
  obtain ⟨hx, hb, hml, hown, hts, hlk, hK, hr, hR, hlo, hSA⟩ := C
  intro H locs ls hl hW hS
  exact lv_istore_n hx hb hd rfl hl (by rw [hml]; exact hn) hv (fun ls2 hl2 => k H locs ls2 hl2 hW hS)
theorem z_istore (C : Cx κ own cc nL ret d) {i : Nat} {x : Int} {lv2 : List (Nat × Value)} (hd : decode cc pc = .ok (.istore i, 2)) (hn : i < nL) (hv : (i, vi x) :: lv.filter (fun q => !(q.1 == i) && !(q.1 + 1 == i && q.2.category == 2)) = lv2) (k : Z κ cs Q (pc + 2) lv2 st ad σ) : Z κ cs Q pc lv (vi x :: st) ad σ := by
  obtain ⟨p, l, e, R, s, m, args, below, meth, c, D, cA, lo, sb⟩ := κ
  obtain ⟨hx, hb, hml, hown, hts, hlk, hK, hr, hR, hlo, hSA⟩ := C
  intro H locs ls hl hW hS
  exact lv_istore hx hb hd hl (by rw [hml]; exact hn) hv (fun ls2 hl2 => k H locs ls2 hl2 hW hS)
theorem z_lstore_n (C : Cx κ own cc nL ret d) {i : Fin 4} {x : Int} {lv2 : List (Nat × Value)} (hd : decode cc pc = .ok (.lstore_n i, 1)) (hn : (i : Nat) + 1 < nL) (hv : ((i : Nat), vj x) :: lv.filter (fun q => !(q.1 == (i : Nat)) && (!(q.1 == (i : Nat) + 1) && !(q.1 + 1 == (i : Nat) && q.2.category == 2))) = lv2) (k : Z κ cs Q (pc + 1) lv2 st ad σ) : Z κ cs Q pc lv (vj x :: st) ad σ := by
  obtain ⟨p, l, e, R, s, m, args, below, meth, c, D, cA, lo, sb⟩ := κ
  obtain ⟨hx, hb, hml, hown, hts, hlk, hK, hr, hR, hlo, hSA⟩ := C
  intro H locs ls hl hW hS
  exact lv_lstore_n hx hb hd rfl hl (by rw [hml]; exact hn) hv (fun ls2 hl2 => k H locs ls2 hl2 hW hS)
theorem z_astore_n (C : Cx κ own cc nL ret d) {i : Fin 4} {K : Nat} {r : Option Nat} {lv2 : List (Nat × Value)} (hd : decode cc pc = .ok (.astore_n i, 1)) (hn : (i : Nat) < nL) (hv : ((i : Nat), vo ad K r) :: lv.filter (fun q => !(q.1 == (i : Nat)) && !(q.1 + 1 == (i : Nat) && q.2.category == 2)) = lv2) (k : Z κ cs Q (pc + 1) lv2 st ad σ) : Z κ cs Q pc lv (vo ad K r :: st) ad σ := by
  obtain ⟨p, l, e, R, s, m, args, below, meth, c, D, cA, lo, sb⟩ := κ
  obtain ⟨hx, hb, hml, hown, hts, hlk, hK, hr, hR, hlo, hSA⟩ := C
  intro H locs ls hl hW hS
  have hn2 : (i : Nat) < c.maxLocals := by rw [hml]; exact hn
  cases r with
  | none => exact lv_astore_nN hx hb hd rfl hl hn2 hv (fun ls2 hl2 => k H locs ls2 hl2 hW hS)
  | some a => exact lv_astore_n hx hb hd rfl hl hn2 hv (fun ls2 hl2 => k H locs ls2 hl2 hW hS)
theorem z_lstore (C : Cx κ own cc nL ret d) {i : Nat} {x : Int} {lv2 : List (Nat × Value)} (hd : decode cc pc = .ok (.lstore i, 2)) (hn : i + 1 < nL) (hv : (i, vj x) :: lv.filter (fun q => !(q.1 == i) && (!(q.1 == i + 1) && !(q.1 + 1 == i && q.2.category == 2))) = lv2) (k : Z κ cs Q (pc + 2) lv2 st ad σ) : Z κ cs Q pc lv (vj x :: st) ad σ := by
  obtain ⟨p, l, e, R, s, m, args, below, meth, c, D, cA, lo, sb⟩ := κ
  obtain ⟨hx, hb, hml, hown, hts, hlk, hK, hr, hR, hlo, hSA⟩ := C
  intro H locs ls hl hW hS
  exact lv_lstore hx hb hd hl (by rw [hml]; exact hn) hv (fun ls2 hl2 => k H locs ls2 hl2 hW hS)
theorem z_astore (C : Cx κ own cc nL ret d) {i : Nat} {K : Nat} {r : Option Nat} {lv2 : List (Nat × Value)} (hd : decode cc pc = .ok (.astore i, 2)) (hn : i < nL) (hv : (i, vo ad K r) :: lv.filter (fun q => !(q.1 == i) && !(q.1 + 1 == i && q.2.category == 2)) = lv2) (k : Z κ cs Q (pc + 2) lv2 st ad σ) : Z κ cs Q pc lv (vo ad K r :: st) ad σ := by
  obtain ⟨p, l, e, R, s, m, args, below, meth, c, D, cA, lo, sb⟩ := κ
  obtain ⟨hx, hb, hml, hown, hts, hlk, hK, hr, hR, hlo, hSA⟩ := C
  intro H locs ls hl hW hS
  have hn2 : i < c.maxLocals := by rw [hml]; exact hn
  cases r with
  | none => exact lv_astoreN hx hb hd hl hn2 hv (fun ls2 hl2 => k H locs ls2 hl2 hW hS)
  | some a => exact lv_astore hx hb hd hl hn2 hv (fun ls2 hl2 => k H locs ls2 hl2 hW hS)
theorem z_iinc (C : Cx κ own cc nL ret d) {i : Nat} {n x : Int} {lv2 : List (Nat × Value)} (q : Nat) (hd : decode cc pc = .ok (.iinc i n, 3)) (hk : lv[q]? = some (i, vi x)) (hn : i < nL) (hv : (i, vi (x + n)) :: lv.filter (fun q => !(q.1 == i) && !(q.1 + 1 == i && q.2.category == 2)) = lv2) (k : Z κ cs Q (pc + 3) lv2 st ad σ) : Z κ cs Q pc lv st ad σ := by
  obtain ⟨p, l, e, R, s, m, args, below, meth, c, D, cA, lo, sb⟩ := κ
  obtain ⟨hx, hb, hml, hown, hts, hlk, hK, hr, hR, hlo, hSA⟩ := C
  intro H locs ls hl hW hS
  exact lv_iinc hx hb hd hl hk (v := Int32.ofInt (x + n)) (Int32.ofInt_add x n).symm (by rw [hml]; exact hn) hv (fun ls2 hl2 => k H locs ls2 hl2 hW hS)
theorem z_iadd (C : Cx κ own cc nL ret d) {a b : Int} (hd : decode cc pc = .ok (.iadd, 1)) (k : Z κ cs Q (pc + 1) lv (vi (a + b) :: st) ad σ) : Z κ cs Q pc lv (vi b :: vi a :: st) ad σ := by
  obtain ⟨p, l, e, R, s, m, args, below, meth, c, D, cA, lo, sb⟩ := κ
  obtain ⟨hx, hb, hml, hown, hts, hlk, hK, hr, hR, hlo, hSA⟩ := C
  intro H locs ls hl hW hS
  refine lv_iadd hx hb hd ?_
  rw [← Int32.ofInt_add]
  exact k H locs ls hl hW hS
theorem z_isub (C : Cx κ own cc nL ret d) {a b : Int} (hd : decode cc pc = .ok (.isub, 1)) (k : Z κ cs Q (pc + 1) lv (vi (a - b) :: st) ad σ) : Z κ cs Q pc lv (vi b :: vi a :: st) ad σ := by
  obtain ⟨p, l, e, R, s, m, args, below, meth, c, D, cA, lo, sb⟩ := κ
  obtain ⟨hx, hb, hml, hown, hts, hlk, hK, hr, hR, hlo, hSA⟩ := C
  intro H locs ls hl hW hS
  refine lv_isub hx hb hd ?_
  rw [← Int32.ofInt_sub]
  exact k H locs ls hl hW hS
theorem z_imul (C : Cx κ own cc nL ret d) {a b : Int} (hd : decode cc pc = .ok (.imul, 1)) (k : Z κ cs Q (pc + 1) lv (vi (a * b) :: st) ad σ) : Z κ cs Q pc lv (vi b :: vi a :: st) ad σ := by
  obtain ⟨p, l, e, R, s, m, args, below, meth, c, D, cA, lo, sb⟩ := κ
  obtain ⟨hx, hb, hml, hown, hts, hlk, hK, hr, hR, hlo, hSA⟩ := C
  intro H locs ls hl hW hS
  refine lv_imul hx hb hd ?_
  rw [← Int32.ofInt_mul]
  exact k H locs ls hl hW hS
theorem z_ladd (C : Cx κ own cc nL ret d) {a b : Int} (hd : decode cc pc = .ok (.ladd, 1)) (k : Z κ cs Q (pc + 1) lv (vj (a + b) :: st) ad σ) : Z κ cs Q pc lv (vj b :: vj a :: st) ad σ := by
  obtain ⟨p, l, e, R, s, m, args, below, meth, c, D, cA, lo, sb⟩ := κ
  obtain ⟨hx, hb, hml, hown, hts, hlk, hK, hr, hR, hlo, hSA⟩ := C
  intro H locs ls hl hW hS
  refine lv_ladd hx hb hd ?_
  rw [← Int64.ofInt_add]
  exact k H locs ls hl hW hS
theorem z_lmul (C : Cx κ own cc nL ret d) {a b : Int} (hd : decode cc pc = .ok (.lmul, 1)) (k : Z κ cs Q (pc + 1) lv (vj (a * b) :: st) ad σ) : Z κ cs Q pc lv (vj b :: vj a :: st) ad σ := by
  obtain ⟨p, l, e, R, s, m, args, below, meth, c, D, cA, lo, sb⟩ := κ
  obtain ⟨hx, hb, hml, hown, hts, hlk, hK, hr, hR, hlo, hSA⟩ := C
  intro H locs ls hl hW hS
  refine lv_lmul hx hb hd ?_
  rw [← Int64.ofInt_mul]
  exact k H locs ls hl hW hS
theorem z_ineg (C : Cx κ own cc nL ret d) {a : Int} (hd : decode cc pc = .ok (.ineg, 1)) (k : Z κ cs Q (pc + 1) lv (vi (-a) :: st) ad σ) : Z κ cs Q pc lv (vi a :: st) ad σ := by
  obtain ⟨p, l, e, R, s, m, args, below, meth, c, D, cA, lo, sb⟩ := κ
  obtain ⟨hx, hb, hml, hown, hts, hlk, hK, hr, hR, hlo, hSA⟩ := C
  intro H locs ls hl hW hS
  refine lv_ineg hx hb hd ?_
  rw [← Int32.ofInt_neg]
  exact k H locs ls hl hW hS
theorem z_iand (C : Cx κ own cc nL ret d) {a b : Int} (hd : decode cc pc = .ok (.iand, 1)) (k : Z κ cs Q (pc + 1) lv (vi (iand a b) :: st) ad σ) : Z κ cs Q pc lv (vi b :: vi a :: st) ad σ := by
  obtain ⟨p, l, e, R, s, m, args, below, meth, c, D, cA, lo, sb⟩ := κ
  obtain ⟨hx, hb, hml, hown, hts, hlk, hK, hr, hR, hlo, hSA⟩ := C
  intro H locs ls hl hW hS
  have hz := k H locs ls hl hW hS
  unfold vi iand at hz
  rw [i32_of] at hz
  exact lv_iand hx hb hd hz
theorem z_ior (C : Cx κ own cc nL ret d) {a b : Int} (hd : decode cc pc = .ok (.ior, 1)) (k : Z κ cs Q (pc + 1) lv (vi (ior a b) :: st) ad σ) : Z κ cs Q pc lv (vi b :: vi a :: st) ad σ := by
  obtain ⟨p, l, e, R, s, m, args, below, meth, c, D, cA, lo, sb⟩ := κ
  obtain ⟨hx, hb, hml, hown, hts, hlk, hK, hr, hR, hlo, hSA⟩ := C
  intro H locs ls hl hW hS
  have hz := k H locs ls hl hW hS
  unfold vi ior at hz
  rw [i32_of] at hz
  exact lv_ior hx hb hd hz
theorem z_ixor (C : Cx κ own cc nL ret d) {a b : Int} (hd : decode cc pc = .ok (.ixor, 1)) (k : Z κ cs Q (pc + 1) lv (vi (ixor a b) :: st) ad σ) : Z κ cs Q pc lv (vi b :: vi a :: st) ad σ := by
  obtain ⟨p, l, e, R, s, m, args, below, meth, c, D, cA, lo, sb⟩ := κ
  obtain ⟨hx, hb, hml, hown, hts, hlk, hK, hr, hR, hlo, hSA⟩ := C
  intro H locs ls hl hW hS
  have hz := k H locs ls hl hW hS
  unfold vi ixor at hz
  rw [i32_of] at hz
  exact lv_ixor hx hb hd hz
theorem z_ishl (C : Cx κ own cc nL ret d) {a b : Int} (hd : decode cc pc = .ok (.ishl, 1)) (k : Z κ cs Q (pc + 1) lv (vi (ishl a b) :: st) ad σ) : Z κ cs Q pc lv (vi b :: vi a :: st) ad σ := by
  obtain ⟨p, l, e, R, s, m, args, below, meth, c, D, cA, lo, sb⟩ := κ
  obtain ⟨hx, hb, hml, hown, hts, hlk, hK, hr, hR, hlo, hSA⟩ := C
  intro H locs ls hl hW hS
  have hz := k H locs ls hl hW hS
  unfold vi ishl at hz
  rw [i32_of] at hz
  exact lv_ishl hx hb hd hz
theorem z_ishr (C : Cx κ own cc nL ret d) {a b : Int} (hd : decode cc pc = .ok (.ishr, 1)) (k : Z κ cs Q (pc + 1) lv (vi (ishr a b) :: st) ad σ) : Z κ cs Q pc lv (vi b :: vi a :: st) ad σ := by
  obtain ⟨p, l, e, R, s, m, args, below, meth, c, D, cA, lo, sb⟩ := κ
  obtain ⟨hx, hb, hml, hown, hts, hlk, hK, hr, hR, hlo, hSA⟩ := C
  intro H locs ls hl hW hS
  have hz := k H locs ls hl hW hS
  unfold vi ishr at hz
  rw [i32_of] at hz
  exact lv_ishr hx hb hd hz
theorem z_idiv (C : Cx κ own cc nL ret d) {a b : Int} (hb1 : inr b) (h0 : ¬ b = 0) (hd : decode cc pc = .ok (.idiv, 1)) (k : Z κ cs Q (pc + 1) lv (vi (idiv a b) :: st) ad σ) : Z κ cs Q pc lv (vi b :: vi a :: st) ad σ := by
  obtain ⟨p, l, e, R, s, m, args, below, meth, c, D, cA, lo, sb⟩ := κ
  obtain ⟨hx, hb, hml, hown, hts, hlk, hK, hr, hR, hlo, hSA⟩ := C
  intro H locs ls hl hW hS
  have hz := k H locs ls hl hW hS
  unfold vi idiv at hz
  rw [i32_of] at hz
  exact lv_idiv hx hb hd (i32_ne0 hb1 h0) hz
theorem z_irem (C : Cx κ own cc nL ret d) {a b : Int} (hb1 : inr b) (h0 : ¬ b = 0) (hd : decode cc pc = .ok (.irem, 1)) (k : Z κ cs Q (pc + 1) lv (vi (irem a b) :: st) ad σ) : Z κ cs Q pc lv (vi b :: vi a :: st) ad σ := by
  obtain ⟨p, l, e, R, s, m, args, below, meth, c, D, cA, lo, sb⟩ := κ
  obtain ⟨hx, hb, hml, hown, hts, hlk, hK, hr, hR, hlo, hSA⟩ := C
  intro H locs ls hl hW hS
  have hz := k H locs ls hl hW hS
  unfold vi irem at hz
  rw [i32_of] at hz
  exact lv_irem hx hb hd (i32_ne0 hb1 h0) hz
theorem z_iushr (C : Cx κ own cc nL ret d) {a b : Int} (hd : decode cc pc = .ok (.iushr, 1)) (k : Z κ cs Q (pc + 1) lv (vi (iushr a b) :: st) ad σ) : Z κ cs Q pc lv (vi b :: vi a :: st) ad σ := by
  obtain ⟨p, l, e, R, s, m, args, below, meth, c, D, cA, lo, sb⟩ := κ
  obtain ⟨hx, hb, hml, hown, hts, hlk, hK, hr, hR, hlo, hSA⟩ := C
  intro H locs ls hl hW hS
  have hz := k H locs ls hl hW hS
  unfold vi iushr at hz
  rw [i32_of] at hz
  exact lv_iushr hx hb hd rfl hz
theorem z_land (C : Cx κ own cc nL ret d) {a b : Int} (hd : decode cc pc = .ok (.land, 1)) (k : Z κ cs Q (pc + 1) lv (vj (jand a b) :: st) ad σ) : Z κ cs Q pc lv (vj b :: vj a :: st) ad σ := by
  obtain ⟨p, l, e, R, s, m, args, below, meth, c, D, cA, lo, sb⟩ := κ
  obtain ⟨hx, hb, hml, hown, hts, hlk, hK, hr, hR, hlo, hSA⟩ := C
  intro H locs ls hl hW hS
  have hz := k H locs ls hl hW hS
  unfold vj jand at hz
  rw [i64_of] at hz
  exact lv_land hx hb hd hz
theorem z_lor (C : Cx κ own cc nL ret d) {a b : Int} (hd : decode cc pc = .ok (.lor, 1)) (k : Z κ cs Q (pc + 1) lv (vj (jor a b) :: st) ad σ) : Z κ cs Q pc lv (vj b :: vj a :: st) ad σ := by
  obtain ⟨p, l, e, R, s, m, args, below, meth, c, D, cA, lo, sb⟩ := κ
  obtain ⟨hx, hb, hml, hown, hts, hlk, hK, hr, hR, hlo, hSA⟩ := C
  intro H locs ls hl hW hS
  have hz := k H locs ls hl hW hS
  unfold vj jor at hz
  rw [i64_of] at hz
  exact lv_lor hx hb hd hz
theorem z_ldiv (C : Cx κ own cc nL ret d) {a b : Int} (hb1 : inq b) (h0 : ¬ b = 0) (hd : decode cc pc = .ok (.ldiv, 1)) (k : Z κ cs Q (pc + 1) lv (vj (jdiv a b) :: st) ad σ) : Z κ cs Q pc lv (vj b :: vj a :: st) ad σ := by
  obtain ⟨p, l, e, R, s, m, args, below, meth, c, D, cA, lo, sb⟩ := κ
  obtain ⟨hx, hb, hml, hown, hts, hlk, hK, hr, hR, hlo, hSA⟩ := C
  intro H locs ls hl hW hS
  have hz := k H locs ls hl hW hS
  unfold vj jdiv at hz
  rw [i64_of] at hz
  exact lv_ldiv hx hb hd (i64_ne0 hb1 h0) hz
theorem z_lrem (C : Cx κ own cc nL ret d) {a b : Int} (hb1 : inq b) (h0 : ¬ b = 0) (hd : decode cc pc = .ok (.lrem, 1)) (k : Z κ cs Q (pc + 1) lv (vj (jrem a b) :: st) ad σ) : Z κ cs Q pc lv (vj b :: vj a :: st) ad σ := by
  obtain ⟨p, l, e, R, s, m, args, below, meth, c, D, cA, lo, sb⟩ := κ
  obtain ⟨hx, hb, hml, hown, hts, hlk, hK, hr, hR, hlo, hSA⟩ := C
  intro H locs ls hl hW hS
  have hz := k H locs ls hl hW hS
  unfold vj jrem at hz
  rw [i64_of] at hz
  exact lv_lrem hx hb hd (i64_ne0 hb1 h0) hz
theorem z_lshl (C : Cx κ own cc nL ret d) {a b : Int} (hd : decode cc pc = .ok (.lshl, 1)) (k : Z κ cs Q (pc + 1) lv (vj (jshl a b) :: st) ad σ) : Z κ cs Q pc lv (vi b :: vj a :: st) ad σ := by
  obtain ⟨p, l, e, R, s, m, args, below, meth, c, D, cA, lo, sb⟩ := κ
  obtain ⟨hx, hb, hml, hown, hts, hlk, hK, hr, hR, hlo, hSA⟩ := C
  intro H locs ls hl hW hS
  have hz := k H locs ls hl hW hS
  unfold jshl at hz
  rw [show vj (Int64.toInt _) = Value.long _ from congrArg Value.long (i64_of _)] at hz
  exact lv_lshl hx hb hd rfl hz
theorem z_lshr (C : Cx κ own cc nL ret d) {a b : Int} (hd : decode cc pc = .ok (.lshr, 1)) (k : Z κ cs Q (pc + 1) lv (vj (jshr a b) :: st) ad σ) : Z κ cs Q pc lv (vi b :: vj a :: st) ad σ := by
  obtain ⟨p, l, e, R, s, m, args, below, meth, c, D, cA, lo, sb⟩ := κ
  obtain ⟨hx, hb, hml, hown, hts, hlk, hK, hr, hR, hlo, hSA⟩ := C
  intro H locs ls hl hW hS
  have hz := k H locs ls hl hW hS
  unfold jshr at hz
  rw [show vj (Int64.toInt _) = Value.long _ from congrArg Value.long (i64_of _)] at hz
  exact lv_lshr hx hb hd rfl hz
theorem z_lushr (C : Cx κ own cc nL ret d) {a b : Int} (hd : decode cc pc = .ok (.lushr, 1)) (k : Z κ cs Q (pc + 1) lv (vj (jushr a b) :: st) ad σ) : Z κ cs Q pc lv (vi b :: vj a :: st) ad σ := by
  obtain ⟨p, l, e, R, s, m, args, below, meth, c, D, cA, lo, sb⟩ := κ
  obtain ⟨hx, hb, hml, hown, hts, hlk, hK, hr, hR, hlo, hSA⟩ := C
  intro H locs ls hl hW hS
  have hz := k H locs ls hl hW hS
  unfold jushr at hz
  rw [show vj (Int64.toInt _) = Value.long _ from congrArg Value.long (i64_of _)] at hz
  exact lv_lushr hx hb hd rfl hz
theorem z_i2l (C : Cx κ own cc nL ret d) {a : Int} (ha : inr a) (hd : decode cc pc = .ok (.i2l, 1)) (k : Z κ cs Q (pc + 1) lv (vj a :: st) ad σ) : Z κ cs Q pc lv (vi a :: st) ad σ := by
  obtain ⟨p, l, e, R, s, m, args, below, meth, c, D, cA, lo, sb⟩ := κ
  obtain ⟨hx, hb, hml, hown, hts, hlk, hK, hr, hR, hlo, hSA⟩ := C
  intro H locs ls hl hW hS
  refine lv_i2l hx hb hd (v := Int64.ofInt a) ?_ (k H locs ls hl hW hS)
  rw [← i64_of (Int32.toInt64 _), Int32.toInt_toInt64, i32_toInt ha]
theorem z_l2i (C : Cx κ own cc nL ret d) {a : Int} (hd : decode cc pc = .ok (.l2i, 1)) (k : Z κ cs Q (pc + 1) lv (vi (l2i a) :: st) ad σ) : Z κ cs Q pc lv (vj a :: st) ad σ := by
  obtain ⟨p, l, e, R, s, m, args, below, meth, c, D, cA, lo, sb⟩ := κ
  obtain ⟨hx, hb, hml, hown, hts, hlk, hK, hr, hR, hlo, hSA⟩ := C
  intro H locs ls hl hW hS
  have hz := k H locs ls hl hW hS
  unfold vi l2i at hz
  rw [i32_of] at hz
  exact lv_l2i hx hb hd rfl hz
theorem z_lcmp (C : Cx κ own cc nL ret d) {a b : Int} (ha : inq a) (hb1 : inq b) (hd : decode cc pc = .ok (.lcmp, 1)) (k : Z κ cs Q (pc + 1) lv (vi (lcm_ a b) :: st) ad σ) : Z κ cs Q pc lv (vj b :: vj a :: st) ad σ := by
  obtain ⟨p, l, e, R, s, m, args, below, meth, c, D, cA, lo, sb⟩ := κ
  obtain ⟨hx, hb, hml, hown, hts, hlk, hK, hr, hR, hlo, hSA⟩ := C
  intro H locs ls hl hW hS
  refine W.lcmp hx hb hd ?_
  have hz := k H locs ls hl hW hS
  have e1 : lg_cmp (Int64.ofInt a) (Int64.ofInt b) = Int32.ofInt (lcm_ a b) := by
    unfold lg_cmp lcm_
    have q1 : (Int64.ofInt a > Int64.ofInt b) ↔ b < a := by
      show Int64.ofInt b < Int64.ofInt a ↔ _
      rw [Int64.lt_iff_toInt_lt, i64_toInt ha, i64_toInt hb1]
    have q2 : (Int64.ofInt a = Int64.ofInt b) ↔ a = b := by rw [← Int64.toInt_inj, i64_toInt ha, i64_toInt hb1]
    by_cases g1 : b < a
    · rw [if_pos g1, if_pos (q1.mpr g1)]; rfl
    · rw [if_neg g1, if_neg (fun q => g1 (q1.mp q))]
      by_cases g2 : a = b
      · rw [if_pos g2, if_pos (q2.mpr g2)]; rfl
      · rw [if_neg g2, if_neg (fun q => g2 (q2.mp q))]; rfl
  rw [e1]
  exact hz
theorem z_dup (C : Cx κ own cc nL ret d) {v : Value} (hd : decode cc pc = .ok (.dup, 1)) (hv : v.category = 1) (k : Z κ cs Q (pc + 1) lv (v :: v :: st) ad σ) : Z κ cs Q pc lv (v :: st) ad σ := by
  obtain ⟨p, l, e, R, s, m, args, below, meth, c, D, cA, lo, sb⟩ := κ
  obtain ⟨hx, hb, hml, hown, hts, hlk, hK, hr, hR, hlo, hSA⟩ := C
  intro H locs ls hl hW hS
  exact lv_dup hx hb hd hv (k H locs ls hl hW hS)
theorem z_dup2 (C : Cx κ own cc nL ret d) {v w : Value} (hd : decode cc pc = .ok (.dup2, 1)) (hv : v.category = 1) (hw : w.category = 1) (k : Z κ cs Q (pc + 1) lv (v :: w :: v :: w :: st) ad σ) : Z κ cs Q pc lv (v :: w :: st) ad σ := by
  obtain ⟨p, l, e, R, s, m, args, below, meth, c, D, cA, lo, sb⟩ := κ
  obtain ⟨hx, hb, hml, hown, hts, hlk, hK, hr, hR, hlo, hSA⟩ := C
  intro H locs ls hl hW hS
  exact lv_dup2_11 hx hb hd hv hw (k H locs ls hl hW hS)
theorem z_icmp_eq (C : Cx κ own cc nL ret d) {a b off : Int} (tgt : Nat) (ha : inr a) (hb1 : inr b) (hd : decode cc pc = .ok (.if_icmp .eq off, 3)) (ht : (pc : Int) + off = (tgt : Int)) (kt : a = b → Z κ cs Q tgt lv st ad σ) (kf : ¬ a = b → Z κ cs Q (pc + 3) lv st ad σ) : Z κ cs Q pc lv (vi b :: vi a :: st) ad σ := by
  obtain ⟨p, l, e, R, s, m, args, below, meth, c, D, cA, lo, sb⟩ := κ
  obtain ⟨hx, hb, hml, hown, hts, hlk, hK, hr, hR, hlo, hSA⟩ := C
  intro H locs ls hl hW hS
  exact lv_icmp_eq hx hb hd ht (fun q => kt ((i32_eq ha hb1).mp q) H locs ls hl hW hS) (fun q => kf (fun z => q ((i32_eq ha hb1).mpr z)) H locs ls hl hW hS)
theorem z_if_eq (C : Cx κ own cc nL ret d) {a off : Int} (tgt : Nat) (ha : inr a) (hd : decode cc pc = .ok (.ifCond .eq off, 3)) (ht : (pc : Int) + off = (tgt : Int)) (kt : a = 0 → Z κ cs Q tgt lv st ad σ) (kf : ¬ a = 0 → Z κ cs Q (pc + 3) lv st ad σ) : Z κ cs Q pc lv (vi a :: st) ad σ := by
  obtain ⟨p, l, e, R, s, m, args, below, meth, c, D, cA, lo, sb⟩ := κ
  obtain ⟨hx, hb, hml, hown, hts, hlk, hK, hr, hR, hlo, hSA⟩ := C
  intro H locs ls hl hW hS
  have hb1 : inr 0 := ⟨by decide, by decide⟩
  exact lv_if_eq hx hb hd ht (fun q => kt ((i32_eq ha hb1).mp q) H locs ls hl hW hS) (fun q => kf (fun z => q ((i32_eq ha hb1).mpr z)) H locs ls hl hW hS)
theorem z_icmp_ne (C : Cx κ own cc nL ret d) {a b off : Int} (tgt : Nat) (ha : inr a) (hb1 : inr b) (hd : decode cc pc = .ok (.if_icmp .ne off, 3)) (ht : (pc : Int) + off = (tgt : Int)) (kt : ¬ a = b → Z κ cs Q tgt lv st ad σ) (kf : a = b → Z κ cs Q (pc + 3) lv st ad σ) : Z κ cs Q pc lv (vi b :: vi a :: st) ad σ := by
  obtain ⟨p, l, e, R, s, m, args, below, meth, c, D, cA, lo, sb⟩ := κ
  obtain ⟨hx, hb, hml, hown, hts, hlk, hK, hr, hR, hlo, hSA⟩ := C
  intro H locs ls hl hW hS
  exact lv_icmp_ne hx hb hd ht (fun q => kt (fun z => q ((i32_eq ha hb1).mpr z)) H locs ls hl hW hS) (fun q => kf ((i32_eq ha hb1).mp q) H locs ls hl hW hS)
theorem z_if_ne (C : Cx κ own cc nL ret d) {a off : Int} (tgt : Nat) (ha : inr a) (hd : decode cc pc = .ok (.ifCond .ne off, 3)) (ht : (pc : Int) + off = (tgt : Int)) (kt : ¬ a = 0 → Z κ cs Q tgt lv st ad σ) (kf : a = 0 → Z κ cs Q (pc + 3) lv st ad σ) : Z κ cs Q pc lv (vi a :: st) ad σ := by
  obtain ⟨p, l, e, R, s, m, args, below, meth, c, D, cA, lo, sb⟩ := κ
  obtain ⟨hx, hb, hml, hown, hts, hlk, hK, hr, hR, hlo, hSA⟩ := C
  intro H locs ls hl hW hS
  have hb1 : inr 0 := ⟨by decide, by decide⟩
  exact lv_if_ne hx hb hd ht (fun q => kt (fun z => q ((i32_eq ha hb1).mpr z)) H locs ls hl hW hS) (fun q => kf ((i32_eq ha hb1).mp q) H locs ls hl hW hS)
theorem z_icmp_lt (C : Cx κ own cc nL ret d) {a b off : Int} (tgt : Nat) (ha : inr a) (hb1 : inr b) (hd : decode cc pc = .ok (.if_icmp .lt off, 3)) (ht : (pc : Int) + off = (tgt : Int)) (kt : a < b → Z κ cs Q tgt lv st ad σ) (kf : ¬ a < b → Z κ cs Q (pc + 3) lv st ad σ) : Z κ cs Q pc lv (vi b :: vi a :: st) ad σ := by
  obtain ⟨p, l, e, R, s, m, args, below, meth, c, D, cA, lo, sb⟩ := κ
  obtain ⟨hx, hb, hml, hown, hts, hlk, hK, hr, hR, hlo, hSA⟩ := C
  intro H locs ls hl hW hS
  exact lv_icmp_lt hx hb hd ht (fun q => kt ((i32_lt ha hb1).mp q) H locs ls hl hW hS) (fun q => kf (fun z => q ((i32_lt ha hb1).mpr z)) H locs ls hl hW hS)
theorem z_if_lt (C : Cx κ own cc nL ret d) {a off : Int} (tgt : Nat) (ha : inr a) (hd : decode cc pc = .ok (.ifCond .lt off, 3)) (ht : (pc : Int) + off = (tgt : Int)) (kt : a < 0 → Z κ cs Q tgt lv st ad σ) (kf : ¬ a < 0 → Z κ cs Q (pc + 3) lv st ad σ) : Z κ cs Q pc lv (vi a :: st) ad σ := by
  obtain ⟨p, l, e, R, s, m, args, below, meth, c, D, cA, lo, sb⟩ := κ
  obtain ⟨hx, hb, hml, hown, hts, hlk, hK, hr, hR, hlo, hSA⟩ := C
  intro H locs ls hl hW hS
  have hb1 : inr 0 := ⟨by decide, by decide⟩
  exact lv_if_lt hx hb hd ht (fun q => kt ((i32_lt ha hb1).mp q) H locs ls hl hW hS) (fun q => kf (fun z => q ((i32_lt ha hb1).mpr z)) H locs ls hl hW hS)
theorem z_icmp_ge (C : Cx κ own cc nL ret d) {a b off : Int} (tgt : Nat) (ha : inr a) (hb1 : inr b) (hd : decode cc pc = .ok (.if_icmp .ge off, 3)) (ht : (pc : Int) + off = (tgt : Int)) (kt : b ≤ a → Z κ cs Q tgt lv st ad σ) (kf : ¬ b ≤ a → Z κ cs Q (pc + 3) lv st ad σ) : Z κ cs Q pc lv (vi b :: vi a :: st) ad σ := by
  obtain ⟨p, l, e, R, s, m, args, below, meth, c, D, cA, lo, sb⟩ := κ
  obtain ⟨hx, hb, hml, hown, hts, hlk, hK, hr, hR, hlo, hSA⟩ := C
  intro H locs ls hl hW hS
  exact lv_icmp_ge hx hb hd ht (fun q => kt ((i32_le hb1 ha).mp q) H locs ls hl hW hS) (fun q => kf (fun z => q ((i32_le hb1 ha).mpr z)) H locs ls hl hW hS)
theorem z_if_ge (C : Cx κ own cc nL ret d) {a off : Int} (tgt : Nat) (ha : inr a) (hd : decode cc pc = .ok (.ifCond .ge off, 3)) (ht : (pc : Int) + off = (tgt : Int)) (kt : 0 ≤ a → Z κ cs Q tgt lv st ad σ) (kf : ¬ 0 ≤ a → Z κ cs Q (pc + 3) lv st ad σ) : Z κ cs Q pc lv (vi a :: st) ad σ := by
  obtain ⟨p, l, e, R, s, m, args, below, meth, c, D, cA, lo, sb⟩ := κ
  obtain ⟨hx, hb, hml, hown, hts, hlk, hK, hr, hR, hlo, hSA⟩ := C
  intro H locs ls hl hW hS
  have hb1 : inr 0 := ⟨by decide, by decide⟩
  exact lv_if_ge hx hb hd ht (fun q => kt ((i32_le hb1 ha).mp q) H locs ls hl hW hS) (fun q => kf (fun z => q ((i32_le hb1 ha).mpr z)) H locs ls hl hW hS)
theorem z_icmp_gt (C : Cx κ own cc nL ret d) {a b off : Int} (tgt : Nat) (ha : inr a) (hb1 : inr b) (hd : decode cc pc = .ok (.if_icmp .gt off, 3)) (ht : (pc : Int) + off = (tgt : Int)) (kt : b < a → Z κ cs Q tgt lv st ad σ) (kf : ¬ b < a → Z κ cs Q (pc + 3) lv st ad σ) : Z κ cs Q pc lv (vi b :: vi a :: st) ad σ := by
  obtain ⟨p, l, e, R, s, m, args, below, meth, c, D, cA, lo, sb⟩ := κ
  obtain ⟨hx, hb, hml, hown, hts, hlk, hK, hr, hR, hlo, hSA⟩ := C
  intro H locs ls hl hW hS
  exact lv_icmp_gt hx hb hd ht (fun q => kt ((i32_lt hb1 ha).mp q) H locs ls hl hW hS) (fun q => kf (fun z => q ((i32_lt hb1 ha).mpr z)) H locs ls hl hW hS)
theorem z_if_gt (C : Cx κ own cc nL ret d) {a off : Int} (tgt : Nat) (ha : inr a) (hd : decode cc pc = .ok (.ifCond .gt off, 3)) (ht : (pc : Int) + off = (tgt : Int)) (kt : 0 < a → Z κ cs Q tgt lv st ad σ) (kf : ¬ 0 < a → Z κ cs Q (pc + 3) lv st ad σ) : Z κ cs Q pc lv (vi a :: st) ad σ := by
  obtain ⟨p, l, e, R, s, m, args, below, meth, c, D, cA, lo, sb⟩ := κ
  obtain ⟨hx, hb, hml, hown, hts, hlk, hK, hr, hR, hlo, hSA⟩ := C
  intro H locs ls hl hW hS
  have hb1 : inr 0 := ⟨by decide, by decide⟩
  exact lv_if_gt hx hb hd ht (fun q => kt ((i32_lt hb1 ha).mp q) H locs ls hl hW hS) (fun q => kf (fun z => q ((i32_lt hb1 ha).mpr z)) H locs ls hl hW hS)
theorem z_icmp_le (C : Cx κ own cc nL ret d) {a b off : Int} (tgt : Nat) (ha : inr a) (hb1 : inr b) (hd : decode cc pc = .ok (.if_icmp .le off, 3)) (ht : (pc : Int) + off = (tgt : Int)) (kt : a ≤ b → Z κ cs Q tgt lv st ad σ) (kf : ¬ a ≤ b → Z κ cs Q (pc + 3) lv st ad σ) : Z κ cs Q pc lv (vi b :: vi a :: st) ad σ := by
  obtain ⟨p, l, e, R, s, m, args, below, meth, c, D, cA, lo, sb⟩ := κ
  obtain ⟨hx, hb, hml, hown, hts, hlk, hK, hr, hR, hlo, hSA⟩ := C
  intro H locs ls hl hW hS
  exact lv_icmp_le hx hb hd ht (fun q => kt ((i32_le ha hb1).mp q) H locs ls hl hW hS) (fun q => kf (fun z => q ((i32_le ha hb1).mpr z)) H locs ls hl hW hS)
theorem z_if_le (C : Cx κ own cc nL ret d) {a off : Int} (tgt : Nat) (ha : inr a) (hd : decode cc pc = .ok (.ifCond .le off, 3)) (ht : (pc : Int) + off = (tgt : Int)) (kt : a ≤ 0 → Z κ cs Q tgt lv st ad σ) (kf : ¬ a ≤ 0 → Z κ cs Q (pc + 3) lv st ad σ) : Z κ cs Q pc lv (vi a :: st) ad σ := by
  obtain ⟨p, l, e, R, s, m, args, below, meth, c, D, cA, lo, sb⟩ := κ
  obtain ⟨hx, hb, hml, hown, hts, hlk, hK, hr, hR, hlo, hSA⟩ := C
  intro H locs ls hl hW hS
  have hb1 : inr 0 := ⟨by decide, by decide⟩
  exact lv_if_le hx hb hd ht (fun q => kt ((i32_le ha hb1).mp q) H locs ls hl hW hS) (fun q => kf (fun z => q ((i32_le ha hb1).mpr z)) H locs ls hl hW hS)
theorem z_goto (C : Cx κ own cc nL ret d) {off : Int} (tgt : Nat) (hd : decode cc pc = .ok (.goto off, 3)) (ht : (pc : Int) + off = (tgt : Int)) (k : Z κ cs Q tgt lv st ad σ) : Z κ cs Q pc lv st ad σ := by
  obtain ⟨p, l, e, R, s, m, args, below, meth, c, D, cA, lo, sb⟩ := κ
  obtain ⟨hx, hb, hml, hown, hts, hlk, hK, hr, hR, hlo, hSA⟩ := C
  intro H locs ls hl hW hS
  exact lv_goto hx hb hd ht (k H locs ls hl hW hS)
theorem z_ifnonnull (C : Cx κ own cc nL ret d) {K : Nat} {r : Option Nat} {off : Int} (tgt : Nat) (hd : decode cc pc = .ok (.ifnonnull off, 3)) (ht : (pc : Int) + off = (tgt : Int)) (kt : ∀ j, r = some j → Z κ cs Q tgt lv st ad σ) (kf : r = none → Z κ cs Q (pc + 3) lv st ad σ) : Z κ cs Q pc lv (vo ad K r :: st) ad σ := by
  obtain ⟨p, l, e, R, s, m, args, below, meth, c, D, cA, lo, sb⟩ := κ
  obtain ⟨hx, hb, hml, hown, hts, hlk, hK, hr, hR, hlo, hSA⟩ := C
  intro H locs ls hl hW hS
  cases r with
  | none => exact lv_ifnonnullN hx hb hd (kf rfl H locs ls hl hW hS)
  | some j => exact lv_ifnonnull hx hb hd ht (kt j rfl H locs ls hl hW hS)
theorem z_ifnull (C : Cx κ own cc nL ret d) {K : Nat} {r : Option Nat} {off : Int} (tgt : Nat) (hd : decode cc pc = .ok (.ifnull off, 3)) (ht : (pc : Int) + off = (tgt : Int)) (kt : r = none → Z κ cs Q tgt lv st ad σ) (kf : ∀ j, r = some j → Z κ cs Q (pc + 3) lv st ad σ) : Z κ cs Q pc lv (vo ad K r :: st) ad σ := by
  obtain ⟨p, l, e, R, s, m, args, below, meth, c, D, cA, lo, sb⟩ := κ
  obtain ⟨hx, hb, hml, hown, hts, hlk, hK, hr, hR, hlo, hSA⟩ := C
  intro H locs ls hl hW hS
  cases r with
  | none => exact lv_ifnullN hx hb hd ht (kt rfl H locs ls hl hW hS)
  | some j => exact lv_ifnull hx hb hd (kf j rfl H locs ls hl hW hS)
theorem z_tableIn (C : Cx κ own cc nL ret d) {dflt t0 t1 : Int} {offs : Array Int} {len : Nat} {a off : Int} (tgt : Nat) (ha : inr a) (hd : decode cc pc = .ok (.tableswitch dflt t0 t1 offs, len)) (h1 : t0 ≤ a) (h2 : a ≤ t1) (ho : offs[(a - t0).toNat]? = some off) (ht : (pc : Int) + off = (tgt : Int)) (k : Z κ cs Q tgt lv st ad σ) : Z κ cs Q pc lv (vi a :: st) ad σ := by
  obtain ⟨p, l, e, R, s, m, args, below, meth, c, D, cA, lo, sb⟩ := κ
  obtain ⟨hx, hb, hml, hown, hts, hlk, hK, hr, hR, hlo, hSA⟩ := C
  intro H locs ls hl hW hS
  exact lv_tableIn hx hb hd (by rw [i32_toInt ha]; omega) (by rw [i32_toInt ha]; omega) (by rw [i32_toInt ha]; exact ho) ht (k H locs ls hl hW hS)
theorem z_tableOut (C : Cx κ own cc nL ret d) {dflt t0 t1 : Int} {offs : Array Int} {len : Nat} {a : Int} (tgt : Nat) (ha : inr a) (hd : decode cc pc = .ok (.tableswitch dflt t0 t1 offs, len)) (h1 : a < t0 ∨ t1 < a) (ht : (pc : Int) + dflt = (tgt : Int)) (k : Z κ cs Q tgt lv st ad σ) : Z κ cs Q pc lv (vi a :: st) ad σ := by
  obtain ⟨p, l, e, R, s, m, args, below, meth, c, D, cA, lo, sb⟩ := κ
  obtain ⟨hx, hb, hml, hown, hts, hlk, hK, hr, hR, hlo, hSA⟩ := C
  intro H locs ls hl hW hS
  exact lv_tableOut hx hb hd (by rw [i32_toInt ha]; exact h1) ht (k H locs ls hl hW hS)
end ROWS
