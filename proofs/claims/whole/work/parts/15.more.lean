/-! rows that a program lays: fields by their words, pure calls, static rows, references compared -/
def LkFI (own : String) (i K k c : Nat) : Prop := LkF own i K k ∧ c = co K k ∧ ∃ t, (ftl K)[k]? = some t ∧ t ≤ 1
def LkFA (own : String) (i K k c : Nat) : Prop := LkF own i K k ∧ c = co K k ∧ (ftl K)[k]? = some 2
def LkFR (own : String) (i K k K2 : Nat) : Prop := LkF own i K k ∧ (ftl K)[k]? = some (K2 + 3)
def LkPI (own : String) (i K k c t : Nat) : Prop := LkP own i K k t ∧ c = co K k ∧ (ftl K)[k]? = some t
def lt {α β : Type} (v : α) (k : α → Option β) : Option β := k v
theorem lt_elim {α β : Type} {v : α} {k : α → Option β} {Q : β → Prop} (h : wpO (lt v k) Q) : ∀ r, v = r → wpO (k r) Q := by
  rintro r rfl; exact h
def pu {α : Type} (f : St → Option α) : St → Option (α × St) := fun σ => match f σ with
  | none => none
  | some r => some (r, σ)
theorem wpO_pu {α : Type} {f : St → Option α} {σ : St} {Q : α × St → Prop} : wpO (pu f σ) Q ↔ wpO (f σ) (fun r => Q (r, σ)) := by
  unfold pu
  cases f σ with
  | none => exact ⟨fun h => (wpO_none.mp h).elim, fun h => (wpO_none.mp h).elim⟩
  | some q => exact ⟨fun h => ⟨q, rfl, wpO_some.mp h⟩, fun h => by obtain ⟨r, h1, h2⟩ := h; cases h1; exact ⟨_, rfl, h2⟩⟩
theorem mop_none {α : Type} {r : Option Nat} {a : Nat → Option α} {Q : α → Prop} (h : wpO (mop r a none) Q) : ∃ j, r = some j ∧ wpO (a j) Q := by
  cases r with
  | none => exact (wpO_none.mp h).elim
  | some j => exact ⟨j, rfl, h⟩
def okrB (σ : St) (K : Nat) (r : Option Nat) : Bool := match r with
  | none => true
  | some i => decide (i < gN σ K)
theorem okrB_use {σ : St} {K : Nat} {r : Option Nat} (h : okrB σ K r = true) : ∀ i, r = some i → i < gN σ K := by
  rintro i rfl; exact of_decide_eq_true h
theorem nN {κ : Cxt} {σ σ2 : St} {K j : Nat} (e : σ2.2.2.2 = σ.2.2.2) (h : j < gN σ K) : okj κ σ2 K j := Or.inl (by unfold gN; rw [e]; exact h)
theorem nNl {σ σ2 : St} {K j : Nat} (e : σ2.2.2.2 = σ.2.2.2) (h : j < gN σ K) : j < gN σ2 K := by unfold gN; rw [e]; exact h
theorem nN7 {κ : Cxt} {σ σ2 : St} {j : Nat} (T : isT κ) (e : σ2.2.2.2 = σ.2.2.2) (h : j < gN σ 6) : okj κ σ2 702 j := Or.inr ⟨T, Or.inr (Or.inl ⟨rfl, by unfold gN; rw [e]; exact h⟩)⟩
theorem nN9 {κ : Cxt} {σ σ2 : St} {j : Nat} (T : isT κ) (e : σ2.2.2.2 = σ.2.2.2) (h : j < gN σ 8) : okj κ σ2 904 j := Or.inr ⟨T, Or.inr (Or.inr ⟨rfl, by unfold gN; rw [e]; exact h⟩)⟩
theorem toN {σ σ2 : St} {K j : Nat} (e : σ2.2.2.2 = σ.2.2.2) (h : j < gN σ2 K) : j < gN σ K := by unfold gN at h; rw [e] at h; exact h
theorem inr_b {z : Int} (h : z = 0 ∨ z = 1) : inr z := by constructor <;> omega
theorem inr_iand (a b : Int) : inr (iand a b) := i32_inr _
theorem inr_ior (a b : Int) : inr (ior a b) := i32_inr _
theorem inr_ixor (a b : Int) : inr (ixor a b) := i32_inr _
theorem inr_ishl (a b : Int) : inr (ishl a b) := i32_inr _
theorem inr_ishr (a b : Int) : inr (ishr a b) := i32_inr _
theorem inr_iushr (a b : Int) : inr (iushr a b) := i32_inr _
theorem inr_idiv (a b : Int) : inr (idiv a b) := i32_inr _
theorem inr_irem (a b : Int) : inr (irem a b) := i32_inr _
theorem inr_l2i (a : Int) : inr (l2i a) := i32_inr _
theorem inr_lcm (a b : Int) : inr (lcm_ a b) := by
  unfold lcm_
  by_cases h : b < a
  · rw [if_pos h]; decide
  · rw [if_neg h]
    by_cases h2 : a = b
    · rw [if_pos h2]; decide
    · rw [if_neg h2]; decide
theorem inq_jand (a b : Int) : inq (jand a b) := i64_inq _
theorem inq_jor (a b : Int) : inq (jor a b) := i64_inq _
theorem inq_jshl (a b : Int) : inq (jshl a b) := i64_inq _
theorem inq_jshr (a b : Int) : inq (jshr a b) := i64_inq _
theorem inq_jushr (a b : Int) : inq (jushr a b) := i64_inq _
theorem inq_jdiv (a b : Int) : inq (jdiv a b) := i64_inq _
theorem inq_jrem (a b : Int) : inq (jrem a b) := i64_inq _
theorem inq_i {a : Int} (h : inr a) : inq a := by constructor <;> omega
theorem inr_nines {k : Nat} (h : k < 8) : inr (nines k) := by
  unfold nines
  match k, h with
  | 0, _ => decide
  | 1, _ => decide
  | 2, _ => decide
  | 3, _ => decide
  | 4, _ => decide
  | 5, _ => decide
  | 6, _ => decide
  | 7, _ => decide
theorem inr_tens {k : Nat} (h : k < 8) : inr (tens k) := by
  unfold tens
  match k, h with
  | 0, _ => decide
  | 1, _ => decide
  | 2, _ => decide
  | 3, _ => decide
  | 4, _ => decide
  | 5, _ => decide
  | 6, _ => decide
  | 7, _ => decide
theorem ix_lt {x : Int} {n : Nat} (h : 0 ≤ x ∧ x < (n : Int)) : x.toNat < n := by omega
def StA (κ : Cxt) (t n : Nat) (g : Nat → Int) : Prop := match κ with
  | (_, _, _, _, s, _, _, _, _, _, _, _, lo, _) => va_T .int t n (fun k => vi (g k)) (fun q => lo ≤ q) s s.heap
section MORE
variable {κ : Cxt} {own : String} {cc : ByteArray} {nL d pc : Nat} {ret : Option FieldType} {cs : Nat × Nat} {Q : State → Prop} {lv : List (Nat × Value)} {st stk : List Value} {ad : Nat → Nat → Nat} {σ : St}
theorem z_gI {i K k j c : Nat} (C : Cx κ own cc nL ret d) (hL : LkFI own i K k c) (hj : okj κ σ K j) (hd : decode cc pc = .ok (.getfield i, 3)) (kz : Z κ cs Q (pc + 3) lv (vi (gI σ c j 0) :: st) ad σ) : Z κ cs Q pc lv (vo ad K (some j) :: st) ad σ := by
  obtain ⟨h1, rfl, t, h2, h3⟩ := hL
  exact z_getI C h1 h2 h3 hj hd kz
theorem z_gA {i K k j c : Nat} (T : isT κ) (C : Cx κ own cc nL ret d) (hL : LkFA own i K k c) (hj : okj κ σ K j) (hd : decode cc pc = .ok (.getfield i, 3)) (kz : Z κ cs Q (pc + 3) lv (vo ad c (some j) :: st) ad σ) : Z κ cs Q pc lv (vo ad K (some j) :: st) ad σ := by
  obtain ⟨h1, rfl, h2⟩ := hL
  exact z_getA T C h1 h2 hj hd kz
theorem z_gR {i K k j K2 : Nat} (T : isT κ) (C : Cx κ own cc nL ret d) (hL : LkFR own i K k K2) (hj : okj κ σ K j) (hd : decode cc pc = .ok (.getfield i, 3)) (kz : Z κ cs Q (pc + 3) lv (vo ad K2 (some 0) :: st) ad σ) : Z κ cs Q pc lv (vo ad K (some j) :: st) ad σ :=
  z_getR T C hL.1 hL.2 hj hd kz
theorem z_pI {i K k j c : Nat} {v : Int} (C : Cx κ own cc nL ret d) (hL : LkPI own i K k c 0) (hj : okj κ σ K j) (hv : inr v) (hd : decode cc pc = .ok (.putfield i, 3)) (kz : Z κ cs Q (pc + 3) lv st ad (sI σ c j 0 v)) : Z κ cs Q pc lv (vi v :: vo ad K (some j) :: st) ad σ := by
  obtain ⟨h1, rfl, h2⟩ := hL
  exact z_put C h1 h2 hj hv (Or.inl rfl) hd kz
theorem z_pB {i K k j c : Nat} {v : Int} (C : Cx κ own cc nL ret d) (hL : LkPI own i K k c 1) (hj : okj κ σ K j) (hv : v = 0 ∨ v = 1) (hd : decode cc pc = .ok (.putfield i, 3)) (kz : Z κ cs Q (pc + 3) lv st ad (sI σ c j 0 v)) : Z κ cs Q pc lv (vi v :: vo ad K (some j) :: st) ad σ := by
  obtain ⟨h1, rfl, h2⟩ := hL
  exact z_put C h1 h2 hj (inr_b hv) (Or.inr hv) hd kz
theorem z_aald {a j K n t0 : Nat} {Cn : String} {x : Int} (C : Cx κ own cc nL ret d) (hla : la a = some (K + 3, n)) (ht : ∀ cA, (tyl cA)[t0]? = some (cA (K + 3), .object Cn)) (hj : okj κ σ a j) (hi : inr x) (hb2 : 0 ≤ x ∧ x < (n : Int)) (hd : decode cc pc = .ok (.aaload, 1)) (kz : ∀ r, gP σ a j x.toNat = r → Z κ cs Q (pc + 1) lv (vo ad K r :: st) ad σ) : Z κ cs Q pc lv (vi x :: vo ad a (some j) :: st) ad σ :=
  z_aaload C hla ht hj hi hb2 hd (kz _ rfl)
theorem z_acmp_ne {K : Nat} {r1 r2 : Option Nat} {off : Int} (tgt : Nat) (C : Cx κ own cc nL ret d) (h1 : ∀ i, r1 = some i → i < gN σ K) (h2 : ∀ i, r2 = some i → i < gN σ K) (hd : decode cc pc = .ok (.if_acmp .ne off, 3)) (ht : (pc : Int) + off = (tgt : Int)) (kt : ¬ r1 = r2 → Z κ cs Q tgt lv st ad σ) (kf : r1 = r2 → Z κ cs Q (pc + 3) lv st ad σ) : Z κ cs Q pc lv (vo ad K r2 :: vo ad K r1 :: st) ad σ := by
  obtain ⟨p, l, e, R, s, m, args, below, meth, c, D, cA, lo, sb⟩ := κ
  obtain ⟨hx, hb, hml, hown, hts, hlk, hK, hr, hR, hlo, hSA⟩ := C
  intro H locs ls hl hW hS
  have key : r1.map (ad K) = r2.map (ad K) → r1 = r2 := by
    intro q
    cases r1 with
    | none => cases r2 with
      | none => rfl
      | some b => cases q
    | some a => cases r2 with
      | none => cases q
      | some b =>
        have := hW.2.1 K a K b (h1 a rfl) (h2 b rfl) (Option.some.inj q)
        rw [this.2]
  exact lv_acmp_ne hx hb hd ht (fun q => kt (fun z => q (by rw [z])) H locs ls hl hW hS) (fun q => kf (key q) H locs ls hl hW hS)
theorem z_nines {i : Nat} (C : Cx κ own cc nL ret d) (hL : Cond.fieldLink own i RX4 "NINES" "[I" ∈ lw_u) (hd : decode cc pc = .ok (.getstatic i, 3)) (kz : ∀ t, StA κ t 8 nines → Z κ cs Q (pc + 3) lv (.ref t :: st) ad σ) : Z κ cs Q pc lv st ad σ := by
  obtain ⟨p, l, e, R, s, m, args, below, meth, c, D, cA, lo, sb⟩ := κ
  obtain ⟨hx, hb, hml, hown, hts, hlk, hK, hr, hR, hlo, hSA⟩ := C
  obtain ⟨⟨t9, tT, h1, h2, h3, h4⟩, -⟩ := hSA
  intro H locs ls hl hW hS
  exact va_gets hx hb h1 hS hown (hts _ hL) (fun x h => h) hd (kz t9 h2 H locs ls hl hW hS)
theorem z_tens {i : Nat} (C : Cx κ own cc nL ret d) (hL : Cond.fieldLink own i RX2 "TENS" "[I" ∈ lw_u) (hd : decode cc pc = .ok (.getstatic i, 3)) (kz : ∀ t, StA κ t 8 tens → Z κ cs Q (pc + 3) lv (.ref t :: st) ad σ) : Z κ cs Q pc lv st ad σ := by
  obtain ⟨p, l, e, R, s, m, args, below, meth, c, D, cA, lo, sb⟩ := κ
  obtain ⟨hx, hb, hml, hown, hts, hlk, hK, hr, hR, hlo, hSA⟩ := C
  obtain ⟨⟨t9, tT, h1, h2, h3, h4⟩, -⟩ := hSA
  intro H locs ls hl hW hS
  exact va_gets hx hb h3 hS hown (hts _ hL) (fun x h => h) hd (kz tT h4 H locs ls hl hW hS)
theorem z_sald {t n : Nat} {g : Nat → Int} {x : Int} (C : Cx κ own cc nL ret d) (hT : StA κ t n g) (hi : inr x) (hb2 : 0 ≤ x ∧ x < (n : Int)) (hd : decode cc pc = .ok (.iaload, 1)) (kz : Z κ cs Q (pc + 1) lv (vi (g x.toNat) :: st) ad σ) : Z κ cs Q pc lv (vi x :: .ref t :: st) ad σ := by
  obtain ⟨p, l, e, R, s, m, args, below, meth, c, D, cA, lo, sb⟩ := κ
  obtain ⟨hx, hb, hml, hown, hts, hlk, hK, hr, hR, hlo, hSA⟩ := C
  intro H locs ls hl hW hS
  have hz := kz H locs ls hl hW hS
  rw [← i32_clamp hi] at hz
  exact va_ti hx hb hT hS (i32_in hi hb2) rfl hd hz
variable {y : MethodName} {bc : ByteArray} {nL2 d2 n i : Nat} {ret2 : Option FieldType} {α β : Type} {av : (Nat → Nat → Nat) → List Value} {en : (Nat → Nat → Nat) → α → Option Value} {ok : α → Prop} {pre : St → Prop}
theorem z_cV {f : St → Option (α × St)} {kf : α → St → Option β} {Xc : β → Prop} {K j N : Nat} {Tt : u_T} (T : isT κ) (C : Cx κ own cc nL ret d) (hM : Ct y bc nL2 ret2 d2 av f en ok pre) (hL : LkM own i y bc nL2 ret2 n) (hV : LkV y) (hdec : decode cc pc = .ok (.invokevirtual i, 3)) (As : List Value) (hav : av ad = vo ad K (some j) :: As) (hs : stk = As.reverse ++ vo ad K (some j) :: st) (hn : As.length = n) (hcl : vwCl[K]? = some (y.cls, Tt, N)) (hlK : la K = none) (hj : okj κ σ K j) (hpre : pre σ) (hd2 : d2 + 1 ≤ d) (hst : (st.map fun v => v.category).sum ≤ 8) (hcs : csOK κ cs)
    (h : wpO (bnd (f σ) kf) Xc) (k : ∀ r σ2, ok r → σ2.2.2.2 = σ.2.2.2 → wpO (kf r σ2) Xc → Z κ cs Q (pc + 3) lv ((en ad r).toList ++ st) ad σ2) : Z κ cs Q pc lv stk ad σ :=
  z_callV T C hM hL hV hdec As hav hs hn hcl hlK hj hpre hd2 hst hcs (X := fun r s => wpO (kf r s) Xc) (wpO_bnd.mp h) (fun r σ2 h1 h2 h3 => k r σ2 h1 h3 h2)
theorem z_cS {f : St → Option (α × St)} {kf : α → St → Option β} {Xc : β → Prop} (T : isT κ) (C : Cx κ own cc nL ret d) (hM : Ct y bc nL2 ret2 d2 av f en ok pre) (hL : LkM own i y bc nL2 ret2 n) (hV : Cond.static y ∈ lw_u) (hdec : decode cc pc = .ok (.invokestatic i, 3)) (hs : stk = (av ad).reverse ++ st) (hn : (av ad).length = n) (hpre : pre σ) (hd2 : d2 + 1 ≤ d) (hst : (st.map fun v => v.category).sum ≤ 8) (hcs : csOK κ cs)
    (h : wpO (bnd (f σ) kf) Xc) (k : ∀ r σ2, ok r → σ2.2.2.2 = σ.2.2.2 → wpO (kf r σ2) Xc → Z κ cs Q (pc + 3) lv ((en ad r).toList ++ st) ad σ2) : Z κ cs Q pc lv stk ad σ :=
  z_callS T C hM hL hV hdec hs hn hpre hd2 hst hcs (X := fun r s => wpO (kf r s) Xc) (wpO_bnd.mp h) (fun r σ2 h1 h2 h3 => k r σ2 h1 h3 h2)
theorem z_cVp {f : St → Option α} {kf : α → Option β} {Xc : β → Prop} {K j N : Nat} {Tt : u_T} (T : isT κ) (C : Cx κ own cc nL ret d) (hM : Ct y bc nL2 ret2 d2 av (pu f) en ok pre) (hL : LkM own i y bc nL2 ret2 n) (hV : LkV y) (hdec : decode cc pc = .ok (.invokevirtual i, 3)) (As : List Value) (hav : av ad = vo ad K (some j) :: As) (hs : stk = As.reverse ++ vo ad K (some j) :: st) (hn : As.length = n) (hcl : vwCl[K]? = some (y.cls, Tt, N)) (hlK : la K = none) (hj : okj κ σ K j) (hpre : pre σ) (hd2 : d2 + 1 ≤ d) (hst : (st.map fun v => v.category).sum ≤ 8) (hcs : csOK κ cs)
    (h : wpO (bnk (f σ) kf) Xc) (k : ∀ r, ok r → wpO (kf r) Xc → Z κ cs Q (pc + 3) lv ((en ad r).toList ++ st) ad σ) : Z κ cs Q pc lv stk ad σ :=
  z_callV T C hM hL hV hdec As hav hs hn hcl hlK hj hpre hd2 hst hcs (X := fun r s => s = σ ∧ wpO (kf r) Xc) (wpO_pu.mpr (wpO_mono (fun r hr => ⟨rfl, hr⟩) (wpO_bnk.mp h))) (fun r σ2 h1 h2 _ => by rw [h2.1]; exact k r h1 h2.2)
theorem z_cSp {f : St → Option α} {kf : α → Option β} {Xc : β → Prop} (T : isT κ) (C : Cx κ own cc nL ret d) (hM : Ct y bc nL2 ret2 d2 av (pu f) en ok pre) (hL : LkM own i y bc nL2 ret2 n) (hV : Cond.static y ∈ lw_u) (hdec : decode cc pc = .ok (.invokestatic i, 3)) (hs : stk = (av ad).reverse ++ st) (hn : (av ad).length = n) (hpre : pre σ) (hd2 : d2 + 1 ≤ d) (hst : (st.map fun v => v.category).sum ≤ 8) (hcs : csOK κ cs)
    (h : wpO (bnk (f σ) kf) Xc) (k : ∀ r, ok r → wpO (kf r) Xc → Z κ cs Q (pc + 3) lv ((en ad r).toList ++ st) ad σ) : Z κ cs Q pc lv stk ad σ :=
  z_callS T C hM hL hV hdec hs hn hpre hd2 hst hcs (X := fun r s => s = σ ∧ wpO (kf r) Xc) (wpO_pu.mpr (wpO_mono (fun r hr => ⟨rfl, hr⟩) (wpO_bnk.mp h))) (fun r σ2 h1 h2 _ => by rw [h2.1]; exact k r h1 h2.2)
end MORE
