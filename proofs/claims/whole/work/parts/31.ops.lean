/-! the law: its script, its calls -/
def sc (xs : Nat → Int32) (i k : Int) : Int := (xs (i + k).toNat).toInt
theorem inr_sc {xs : Nat → Int32} {i k : Int} : inr (sc xs i k) := i32_inr _
def scX (κ : Cxt) (b L : Nat) (xs : Nat → Int32) : Prop := match κ with
  | (_, _, _, _, s, _, _, _, _, _, _, _, lo, _) => va_X b L xs s s.heap ∧ b < s.heap.size ∧ ¬ lo ≤ b
section LAWROWS
variable {κ : Cxt} {own : String} {cc : ByteArray} {nL d pc : Nat} {ret2 : Option FieldType} {cs : Nat × Nat} {Q : State → Prop} {lv : List (Nat × Value)} {st : List Value} {ad : Nat → Nat → Nat} {σ : St} {b L : Nat} {xs : Nat → Int32}
theorem z_aloadR {i : Fin 4} {a : Nat} (C : Cx κ own cc nL ret2 d) (q : Nat) (hd : decode cc pc = .ok (.aload_n i, 1)) (hk : lv[q]? = some ((i : Nat), .ref a)) (k : Z κ cs Q (pc + 1) lv (.ref a :: st) ad σ) : Z κ cs Q pc lv st ad σ := by
  obtain ⟨p, l, e, R, s, m, args, below, meth, c, D, cA, lo, sb⟩ := κ
  obtain ⟨hx, hb, hml, hown, hts, hlk, hK, hr, hR, hlo, hSA⟩ := C
  intro H locs ls hl hW hS
  exact lv_aload_n hx hb hd rfl (lv_at hl q hk) (k H locs ls hl hW hS)
theorem z_sld {x : Int} (C : Cx κ own cc nL ret2 d) (hX : scX κ b L xs) (hi : inr x) (hb2 : 0 ≤ x ∧ x < (L : Int)) (hd : decode cc pc = .ok (.iaload, 1)) (kz : Z κ cs Q (pc + 1) lv (vi (xs x.toNat).toInt :: st) ad σ) : Z κ cs Q pc lv (vi x :: .ref b :: st) ad σ := by
  obtain ⟨p, l, e, R, s, m, args, below, meth, c, D, cA, lo, sb⟩ := κ
  obtain ⟨hx, hb, hml, hown, hts, hlk, hK, hr, hR, hlo, hSA⟩ := C
  obtain ⟨h1, h2, h3⟩ := hX
  intro H locs ls hl hW hS
  have hz := kz H locs ls hl hW hS
  unfold vi at hz
  rw [i32_of] at hz
  rw [← i32_clamp hi] at hz
  exact va_sld hx hb h1 h2 h3 hS (i32_in hi hb2) hd hz
theorem z_slen (C : Cx κ own cc nL ret2 d) (hX : scX κ b L xs) (hd : decode cc pc = .ok (.arraylength, 1)) (kz : Z κ cs Q (pc + 1) lv (vi (L : Int) :: st) ad σ) : Z κ cs Q pc lv (.ref b :: st) ad σ := by
  obtain ⟨p, l, e, R, s, m, args, below, meth, c, D, cA, lo, sb⟩ := κ
  obtain ⟨hx, hb, hml, hown, hts, hlk, hK, hr, hR, hlo, hSA⟩ := C
  obtain ⟨h1, h2, h3⟩ := hX
  intro H locs ls hl hW hS
  exact va_slen hx hb h1 h2 h3 hS hd (kz H locs ls hl hW hS)
end LAWROWS
def OP0 (R : St → Prop) : Prop := ∀ (a1 : Int), inr a1 → ∀ σ : St, SF σ → R σ → wpO (bnd (fX11_pass a1 σ) (fun r1 σ1 => bnd (fX12_pass a1 σ1) (fun r2 σ2 => ckp (r1 = r2 ∧ R σ2) (some ())))) (fun _ : Unit => True)
def OP1 (R : St → Prop) : Prop := ∀ (a1 : Int) (a2 : Int) (a3 : Int) (a4 : Int) (a5 : Int) (a6 : Int), inr a1 → inr a2 → inr a3 → inr a4 → inr a5 → inr a6 → ∀ σ : St, SF σ → R σ → wpO (bnd (fX11_way a1 a2 a3 a4 a5 a6 σ) (fun r1 σ1 => bnd (fX12_way a1 a2 a3 a4 a5 a6 σ1) (fun r2 σ2 => ckp (r1 = r2 ∧ R σ2) (some ())))) (fun _ : Unit => True)
def OP2 (R : St → Prop) : Prop := ∀ (a1 : Int), inr a1 → ∀ σ : St, SF σ → R σ → wpO (bnd (fX11_shut a1 σ) (fun r1 σ1 => bnd (fX12_shut a1 σ1) (fun r2 σ2 => ckp (r1 = r2 ∧ R σ2) (some ())))) (fun _ : Unit => True)
def OP3 (R : St → Prop) : Prop := ∀ (a1 : Int) (a2 : Int) (a3 : Int) (a4 : Int), inr a1 → inr a2 → inr a3 → (a4 = 0 ∨ a4 = 1) → ∀ σ : St, SF σ → R σ → wpO (bnd (fX11_arrival a1 a2 a3 a4 σ) (fun r1 σ1 => bnd (fX12_arrival a1 a2 a3 a4 σ1) (fun r2 σ2 => ckp (r1 = r2 ∧ R σ2) (some ())))) (fun _ : Unit => True)
def OP4 (R : St → Prop) : Prop := ∀ (a1 : Int) (a2 : Int) (a3 : Int) (a4 : Int) (a5 : Int) (a6 : Int), inr a1 → inr a2 → inr a3 → inr a4 → inr a5 → inr a6 → ∀ σ : St, SF σ → R σ → wpO (bnd (fX11_shot a1 a2 a3 a4 a5 a6 σ) (fun r1 σ1 => bnd (fX12_shot a1 a2 a3 a4 a5 a6 σ1) (fun r2 σ2 => ckp (r1 = r2 ∧ R σ2) (some ())))) (fun _ : Unit => True)
def OP5 (R : St → Prop) : Prop := ∀ (a1 : Int) (a2 : Int), inr a1 → inr a2 → ∀ σ : St, SF σ → R σ → wpO (bnk (fX11_about a1 a2 σ) (fun r1 => bnk (fX12_about a1 a2 σ) (fun r2 => ckp (r1 = r2 ∧ R σ) (some ())))) (fun _ : Unit => True)
def OP6 (R : St → Prop) : Prop := ∀ (a1 : Int), inr a1 → ∀ σ : St, SF σ → R σ → wpO (bnd (fX11_send a1 σ) (fun r1 σ1 => bnd (fX12_send a1 σ1) (fun r2 σ2 => ckp (r1 = r2 ∧ R σ2) (some ())))) (fun _ : Unit => True)
def OP7 (R : St → Prop) : Prop := ∀ (a1 : Int) (a2 : Int), inr a1 → (a2 = 0 ∨ a2 = 1) → ∀ σ : St, SF σ → R σ → wpO (bnk (fX11_expected a1 a2 σ) (fun r1 => bnk (fX12_expected a1 a2 σ) (fun r2 => ckp (r1 = r2 ∧ R σ) (some ())))) (fun _ : Unit => True)
def OP8 (R : St → Prop) : Prop := ∀ (a1 : Int), inr a1 → ∀ σ : St, SF σ → R σ → wpO (bnd (fX11_come a1 σ) (fun r1 σ1 => bnd (fX12_come a1 σ1) (fun r2 σ2 => ckp (r1 = r2 ∧ R σ2) (some ())))) (fun _ : Unit => True)
def OP9 (R : St → Prop) : Prop := ∀ (a1 : Int), inr a1 → ∀ σ : St, SF σ → R σ → wpO (bnd (fX11_lose a1 σ) (fun r1 σ1 => bnd (fX12_lose a1 σ1) (fun r2 σ2 => ckp (r1 = r2 ∧ R σ2) (some ())))) (fun _ : Unit => True)
def OP10 (R : St → Prop) : Prop := ∀ (a1 : Int) (a2 : Int), inr a1 → inr a2 → ∀ σ : St, SF σ → R σ → wpO (bnk (fX11_where a1 a2 σ) (fun r1 => bnk (fX12_where a1 a2 σ) (fun r2 => ckp (r1 = r2 ∧ R σ) (some ())))) (fun _ : Unit => True)
def OP11 (R : St → Prop) : Prop := ∀ σ : St, SF σ → R σ → wpO (bnk (fX11_overdue σ) (fun r1 => bnk (fX12_overdue σ) (fun r2 => ckp (r1 = r2 ∧ R σ) (some ())))) (fun _ : Unit => True)
def OP12 (R : St → Prop) : Prop := ∀ (a1 : Int) (a2 : Int) (a3 : Int) (a4 : Int), inr a1 → inr a2 → inr a3 → inr a4 → ∀ σ : St, SF σ → R σ → wpO (bnd (fX11_fact a1 a2 a3 a4 σ) (fun r1 σ1 => bnd (fX12_fact a1 a2 a3 a4 σ1) (fun r2 σ2 => ckp (r1 = r2 ∧ R σ2) (some ())))) (fun _ : Unit => True)
def OP13 (R : St → Prop) : Prop := ∀ (a1 : Int) (a2 : Int) (a3 : Int), inr a1 → inr a2 → inr a3 → ∀ σ : St, SF σ → R σ → wpO (bnk (fX11_lie a1 a2 a3 σ) (fun r1 => bnk (fX12_lie a1 a2 a3 σ) (fun r2 => ckp (r1 = r2 ∧ R σ) (some ())))) (fun _ : Unit => True)
def OP14 (R : St → Prop) : Prop := ∀ (a1 : Int) (a2 : Int) (a3 : Int), inr a1 → inr a2 → inr a3 → ∀ σ : St, SF σ → R σ → wpO (bnk (fX11_find a1 a2 a3 σ) (fun r1 => bnk (fX12_find a1 a2 a3 σ) (fun r2 => ckp (r1 = r2 ∧ R σ) (some ())))) (fun _ : Unit => True)
def OP15 (R : St → Prop) : Prop := ∀ (a1 : Int) (a2 : Int) (a3 : Int) (a4 : Int), inr a1 → inr a2 → inr a3 → inr a4 → ∀ σ : St, SF σ → R σ → wpO (bnd (fX11_story a1 a2 a3 a4 σ) (fun r1 σ1 => bnd (fX12_story a1 a2 a3 a4 σ1) (fun r2 σ2 => ckp (r1 = r2 ∧ R σ2) (some ())))) (fun _ : Unit => True)
def OP16 (R : St → Prop) : Prop := ∀ (a1 : Int) (a2 : Int), inr a1 → inr a2 → ∀ σ : St, SF σ → R σ → wpO (bnd (fX11_put a1 a2 σ) (fun r1 σ1 => bnd (fX12_put a1 a2 σ1) (fun r2 σ2 => ckp (r1 = r2 ∧ R σ2) (some ())))) (fun _ : Unit => True)
def OP17 (R : St → Prop) : Prop := ∀ (a1 : Int) (a2 : Int), inr a1 → inr a2 → ∀ σ : St, SF σ → R σ → wpO (bnd (fX11_cut a1 a2 σ) (fun r1 σ1 => bnd (fX12_cut a1 a2 σ1) (fun r2 σ2 => ckp (r1 = r2 ∧ R σ2) (some ())))) (fun _ : Unit => True)
def OP18 (R : St → Prop) : Prop := ∀ (a1 : Int) (a2 : Int), inr a1 → (a2 = 0 ∨ a2 = 1) → ∀ σ : St, SF σ → R σ → wpO (bnd (fX11_say a1 a2 σ) (fun r1 σ1 => bnd (fX12_say a1 a2 σ1) (fun r2 σ2 => ckp (r1 = r2 ∧ R σ2) (some ())))) (fun _ : Unit => True)
def OP19 (R : St → Prop) : Prop := ∀ (a1 : Int) (a2 : Int), inr a1 → (a2 = 0 ∨ a2 = 1) → ∀ σ : St, SF σ → R σ → wpO (bnd (fX11_must a1 a2 σ) (fun r1 σ1 => bnd (fX12_must a1 a2 σ1) (fun r2 σ2 => ckp (r1 = r2 ∧ R σ2) (some ())))) (fun _ : Unit => True)
def OP20 (R : St → Prop) : Prop := ∀ (a1 : Int) (a2 : Int), inr a1 → inr a2 → ∀ σ : St, SF σ → R σ → wpO (bnk (fX11_of a1 a2 σ) (fun r1 => bnk (fX12_of a1 a2 σ) (fun r2 => ckp (r1 = r2 ∧ R σ) (some ())))) (fun _ : Unit => True)
def OP21 (R : St → Prop) : Prop := ∀ (a1 : Int), inr a1 → ∀ σ : St, SF σ → R σ → wpO (bnd (fX11_age a1 σ) (fun r1 σ1 => bnd (fX12_age a1 σ1) (fun r2 σ2 => ckp (r1 = r2 ∧ R σ2) (some ())))) (fun _ : Unit => True)
def OP22 (R : St → Prop) : Prop := ∀ (a1 : Int), inr a1 → ∀ σ : St, SF σ → R σ → wpO (bnk (fX11_cost a1 σ) (fun r1 => bnk (fX12_cost a1 σ) (fun r2 => ckp (r1 = r2 ∧ R σ) (some ())))) (fun _ : Unit => True)
def OP23 (R : St → Prop) : Prop := ∀ (a1 : Int) (a2 : Int), inr a1 → inr a2 → ∀ σ : St, SF σ → R σ → wpO (bnd (fX11_rate a1 a2 σ) (fun r1 σ1 => bnd (fX12_rate a1 a2 σ1) (fun r2 σ2 => ckp (r1 = r2 ∧ R σ2) (some ())))) (fun _ : Unit => True)
def OP24 (R : St → Prop) : Prop := ∀ (a1 : Int), inr a1 → ∀ σ : St, SF σ → R σ → wpO (bnd (fX11_rule a1 σ) (fun r1 σ1 => bnd (fX12_rule a1 σ1) (fun r2 σ2 => ckp (r1 = r2 ∧ R σ2) (some ())))) (fun _ : Unit => True)
def OP25 (R : St → Prop) : Prop := ∀ (a1 : Int) (a2 : Int), inr a1 → inq a2 → ∀ σ : St, SF σ → R σ → wpO (bnd (fX11_feed a1 a2 σ) (fun r1 σ1 => bnd (fX12_feed a1 a2 σ1) (fun r2 σ2 => ckp (r1 = r2 ∧ R σ2) (some ())))) (fun _ : Unit => True)
def OP26 (R : St → Prop) : Prop := ∀ (a1 : Int), inr a1 → ∀ σ : St, SF σ → R σ → wpO (bnd (fX11_fault a1 σ) (fun r1 σ1 => bnd (fX12_fault a1 σ1) (fun r2 σ2 => ckp (r1 = r2 ∧ R σ2) (some ())))) (fun _ : Unit => True)
def OP27 (R : St → Prop) : Prop := ∀ (a1 : Int) (a2 : Int), inr a1 → inr a2 → ∀ σ : St, SF σ → R σ → wpO (bnd (fX11_strike a1 a2 σ) (fun r1 σ1 => bnd (fX12_strike a1 a2 σ1) (fun r2 σ2 => ckp (r1 = r2 ∧ R σ2) (some ())))) (fun _ : Unit => True)
def OP28 (R : St → Prop) : Prop := ∀ (a1 : Int) (a2 : Int) (a3 : Int), inr a1 → inr a2 → inr a3 → ∀ σ : St, SF σ → R σ → wpO (bnd (fX11_bars a1 a2 a3 σ) (fun r1 σ1 => bnd (fX12_bars a1 a2 a3 σ1) (fun r2 σ2 => ckp (r1 = r2 ∧ R σ2) (some ())))) (fun _ : Unit => True)
def OP29 (R : St → Prop) : Prop := ∀ (a1 : Int) (a2 : Int), inr a1 → (a2 = 0 ∨ a2 = 1) → ∀ σ : St, SF σ → R σ → wpO (bnd (fX11_reserve a1 a2 σ) (fun r1 σ1 => bnd (fX12_reserve a1 a2 σ1) (fun r2 σ2 => ckp (r1 = r2 ∧ R σ2) (some ())))) (fun _ : Unit => True)
def OP30 (R : St → Prop) : Prop := ∀ (a1 : Int) (a2 : Int) (a3 : Int) (a4 : Int) (a5 : Int), inr a1 → inr a2 → inr a3 → inr a4 → inr a5 → ∀ σ : St, SF σ → R σ → wpO (bnd (fX11_right a1 a2 a3 a4 a5 σ) (fun r1 σ1 => bnd (fX12_right a1 a2 a3 a4 a5 σ1) (fun r2 σ2 => ckp (r1 = r2 ∧ R σ2) (some ())))) (fun _ : Unit => True)
def OP31 (R : St → Prop) : Prop := ∀ (a1 : Int), inr a1 → ∀ σ : St, SF σ → R σ → wpO (bnk (fX11_left a1 σ) (fun r1 => bnk (fX12_left a1 σ) (fun r2 => ckp (r1 = r2 ∧ R σ) (some ())))) (fun _ : Unit => True)
def OP32 (R : St → Prop) : Prop := ∀ (a1 : Int) (a2 : Int) (a3 : Int), inr a1 → inr a2 → inr a3 → ∀ σ : St, SF σ → R σ → wpO (bnd (fX11_allowed a1 a2 a3 σ) (fun r1 σ1 => bnd (fX12_allowed a1 a2 a3 σ1) (fun r2 σ2 => ckp (r1 = r2 ∧ R σ2) (some ())))) (fun _ : Unit => True)
def OP33 (R : St → Prop) : Prop := ∀ (a1 : Int) (a2 : Int), (a1 = 0 ∨ a1 = 1) → inr a2 → ∀ σ : St, SF σ → R σ → wpO (bnd (fX11_length a1 a2 σ) (fun r1 σ1 => bnd (fX12_length a1 a2 σ1) (fun r2 σ2 => ckp (r1 = r2 ∧ R σ2) (some ())))) (fun _ : Unit => True)
def OP34 (R : St → Prop) : Prop := ∀ (a1 : Int) (a2 : Int) (a3 : Int), inr a1 → inr a2 → (a3 = 0 ∨ a3 = 1) → ∀ σ : St, SF σ → R σ → wpO (bnd (fX11_apart a1 a2 a3 σ) (fun r1 σ1 => bnd (fX12_apart a1 a2 a3 σ1) (fun r2 σ2 => ckp (r1 = r2 ∧ R σ2) (some ())))) (fun _ : Unit => True)
def OP35 (R : St → Prop) : Prop := ∀ (a1 : Int) (a2 : Int), inr a1 → (a2 = 0 ∨ a2 = 1) → ∀ σ : St, SF σ → R σ → wpO (bnd (fX11_rival a1 a2 σ) (fun r1 σ1 => bnd (fX12_rival a1 a2 σ1) (fun r2 σ2 => ckp (r1 = r2 ∧ R σ2) (some ())))) (fun _ : Unit => True)
def OP36 (R : St → Prop) : Prop := ∀ (a1 : Int) (a2 : Int), inr a1 → inr a2 → ∀ σ : St, SF σ → R σ → wpO (bnd (fX11_reel a1 a2 σ) (fun r1 σ1 => bnd (fX12_reel a1 a2 σ1) (fun r2 σ2 => ckp (r1 = r2 ∧ R σ2) (some ())))) (fun _ : Unit => True)
def OP37 (R : St → Prop) : Prop := ∀ (a1 : Int) (a2 : Int) (a3 : Int), inr a1 → inr a2 → inr a3 → ∀ σ : St, SF σ → R σ → wpO (bnd (fX11_reelAt a1 a2 a3 σ) (fun r1 σ1 => bnd (fX12_reelAt a1 a2 a3 σ1) (fun r2 σ2 => ckp (r1 = r2 ∧ R σ2) (some ())))) (fun _ : Unit => True)
def OP38 (R : St → Prop) : Prop := ∀ (a1 : Int) (a2 : Int) (a3 : Int), inr a1 → inr a2 → inq a3 → ∀ σ : St, SF σ → R σ → wpO (bnd (fX11_judge a1 a2 a3 σ) (fun r1 σ1 => bnd (fX12_judge a1 a2 a3 σ1) (fun r2 σ2 => ckp (r1 = r2 ∧ R σ2) (some ())))) (fun _ : Unit => True)
def OP39 (R : St → Prop) : Prop := ∀ (a1 : Int) (a2 : Int), inr a1 → inr a2 → ∀ σ : St, SF σ → R σ → wpO (bnd (fX11_show a1 a2 σ) (fun r1 σ1 => bnd (fX12_show a1 a2 σ1) (fun r2 σ2 => ckp (r1 = r2 ∧ R σ2) (some ())))) (fun _ : Unit => True)
def OP40 (R : St → Prop) : Prop := ∀ (a1 : Int) (a2 : Int) (a3 : Int), inr a1 → inr a2 → inr a3 → ∀ σ : St, SF σ → R σ → wpO (bnd (fX11_man a1 a2 a3 σ) (fun r1 σ1 => bnd (fX12_man a1 a2 a3 σ1) (fun r2 σ2 => ckp (r1 = r2 ∧ R σ2) (some ())))) (fun _ : Unit => True)
def OP41 (R : St → Prop) : Prop := ∀ (a1 : Int) (a2 : Int) (a3 : Int), inr a1 → inr a2 → inr a3 → ∀ σ : St, SF σ → R σ → wpO (bnd (fX11_event a1 a2 a3 σ) (fun r1 σ1 => bnd (fX12_event a1 a2 a3 σ1) (fun r2 σ2 => ckp (r1 = r2 ∧ R σ2) (some ())))) (fun _ : Unit => True)
def OP42 (R : St → Prop) : Prop := ∀ σ : St, SF σ → R σ → wpO (bnd (fX11_cover σ) (fun r1 σ1 => bnd (fX12_cover σ1) (fun r2 σ2 => ckp (r1 = r2 ∧ R σ2) (some ())))) (fun _ : Unit => True)
def OP43 (R : St → Prop) : Prop := ∀ (a1 : Int), inr a1 → ∀ σ : St, SF σ → R σ → wpO (bnd (fX11_covered a1 σ) (fun r1 σ1 => bnd (fX12_covered a1 σ1) (fun r2 σ2 => ckp (r1 = r2 ∧ R σ2) (some ())))) (fun _ : Unit => True)
def OP44 (R : St → Prop) : Prop := ∀ (a1 : Int) (a2 : Int) (a3 : Int) (a4 : Int), inr a1 → inr a2 → inr a3 → inr a4 → ∀ σ : St, SF σ → R σ → wpO (bnd (fX11_hall a1 a2 a3 a4 σ) (fun r1 σ1 => bnd (fX12_hall a1 a2 a3 a4 σ1) (fun r2 σ2 => ckp (r1 = r2 ∧ R σ2) (some ())))) (fun _ : Unit => True)
def OP45 (R : St → Prop) : Prop := ∀ (a1 : Int) (a2 : Int), inr a1 → inr a2 → ∀ σ : St, SF σ → R σ → wpO (bnd (fX11_part a1 a2 σ) (fun r1 σ1 => bnd (fX12_part a1 a2 σ1) (fun r2 σ2 => ckp (r1 = r2 ∧ R σ2) (some ())))) (fun _ : Unit => True)
def OP46 (R : St → Prop) : Prop := ∀ (a1 : Int), inr a1 → ∀ σ : St, SF σ → R σ → wpO (bnd (fX11_prints a1 σ) (fun r1 σ1 => bnd (fX12_prints a1 σ1) (fun r2 σ2 => ckp (r1 = r2 ∧ R σ2) (some ())))) (fun _ : Unit => True)
def OP47 (R : St → Prop) : Prop := ∀ σ : St, SF σ → R σ → wpO (bnd (fX11_run σ) (fun r1 σ1 => bnd (fX12_run σ1) (fun r2 σ2 => ckp (r1 = r2 ∧ R σ2) (some ())))) (fun _ : Unit => True)
def OP48 (R : St → Prop) : Prop := ∀ (a1 : Int), inr a1 → ∀ σ : St, SF σ → R σ → wpO (bnd (fX11_week a1 σ) (fun r1 σ1 => bnd (fX12_week a1 σ1) (fun r2 σ2 => ckp (r1 = r2 ∧ R σ2) (some ())))) (fun _ : Unit => True)
def OP49 (R : St → Prop) : Prop := ∀ (a1 : Int), inr a1 → ∀ σ : St, SF σ → R σ → wpO (bnk (fX11_count a1 σ) (fun r1 => bnk (fX12_count a1 σ) (fun r2 => ckp (r1 = r2 ∧ R σ) (some ())))) (fun _ : Unit => True)
