/-! reads whose value is told -/
theorem gn {σ : St} {c j e c2 j2 e2 : Nat} {v w : Int} (hc : c ≠ c2) (h : gI σ c j e = v) : gI (sI σ c2 j2 e2 w) c j e = v := by
  rw [gI_sI, if_neg (fun q => hc q.1)]; exact h
theorem gs {σ : St} {c j e : Nat} {v : Int} : gI (sI σ c j e v) c j e = v := by
  rw [gI_sI, if_pos ⟨rfl, rfl, rfl⟩]
theorem gnJ {σ : St} {c j e c2 j2 e2 : Nat} {v w : Int} (h : gI σ c j e = v) : gI (sJ σ c2 j2 e2 w) c j e = v := h
theorem gnP {σ : St} {c j e c2 j2 e2 : Nat} {v : Int} {w : Option Nat} (h : gI σ c j e = v) : gI (sP σ c2 j2 e2 w) c j e = v := h
theorem jn {σ : St} {c j e c2 j2 e2 : Nat} {v w : Int} (hc : c ≠ c2) (h : gJ σ c j e = v) : gJ (sJ σ c2 j2 e2 w) c j e = v := by
  rw [gJ_sJ, if_neg (fun q => hc q.1)]; exact h
theorem jnI {σ : St} {c j e c2 j2 e2 : Nat} {v w : Int} (h : gJ σ c j e = v) : gJ (sI σ c2 j2 e2 w) c j e = v := h
theorem jnP {σ : St} {c j e c2 j2 e2 : Nat} {v : Int} {w : Option Nat} (h : gJ σ c j e = v) : gJ (sP σ c2 j2 e2 w) c j e = v := h
theorem pn {σ : St} {c j e c2 j2 e2 : Nat} {v w : Option Nat} (hc : c ≠ c2) (h : gP σ c j e = v) : gP (sP σ c2 j2 e2 w) c j e = v := by
  rw [gP_sP, if_neg (fun q => hc q.1)]; exact h
theorem pnI {σ : St} {c j e c2 j2 e2 : Nat} {v : Option Nat} {w : Int} (h : gP σ c j e = v) : gP (sI σ c2 j2 e2 w) c j e = v := h
theorem pnJ {σ : St} {c j e c2 j2 e2 : Nat} {v : Option Nat} {w : Int} (h : gP σ c j e = v) : gP (sJ σ c2 j2 e2 w) c j e = v := h
section RV
variable {κ : Cxt} {own : String} {cc : ByteArray} {nL d pc : Nat} {ret : Option FieldType} {cs : Nat × Nat} {Q : State → Prop} {lv : List (Nat × Value)} {st stk : List Value} {ad : Nat → Nat → Nat} {σ : St}
theorem z_gIv {i K k j c : Nat} {v : Int} (C : Cx κ own cc nL ret d) (hL : LkFI own i K k c) (hj : okj κ σ K j) (hv : gI σ c j 0 = v) (hd : decode cc pc = .ok (.getfield i, 3)) (kz : Z κ cs Q (pc + 3) lv (vi v :: st) ad σ) : Z κ cs Q pc lv (vo ad K (some j) :: st) ad σ :=
  z_gI C hL hj hd (by rw [hv]; exact kz)
theorem z_iav {a j n : Nat} {x v : Int} (C : Cx κ own cc nL ret d) (hla : la a = some (0, n)) (hj : okj κ σ a j) (hi : inr x) (hb2 : 0 ≤ x ∧ x < (n : Int)) (hv : gI σ a j x.toNat = v) (hd : decode cc pc = .ok (.iaload, 1)) (kz : Z κ cs Q (pc + 1) lv (vi v :: st) ad σ) : Z κ cs Q pc lv (vi x :: vo ad a (some j) :: st) ad σ :=
  z_iaload C hla hj hi hb2 hd (by rw [hv]; exact kz)
theorem z_bav {a j n : Nat} {x v : Int} (C : Cx κ own cc nL ret d) (hla : la a = some (1, n)) (hj : okj κ σ a j) (hi : inr x) (hb2 : 0 ≤ x ∧ x < (n : Int)) (hv : gI σ a j x.toNat = v) (hd : decode cc pc = .ok (.baload, 1)) (kz : Z κ cs Q (pc + 1) lv (vi v :: st) ad σ) : Z κ cs Q pc lv (vi x :: vo ad a (some j) :: st) ad σ :=
  z_baload C hla hj hi hb2 hd (by rw [hv]; exact kz)
theorem z_lav {a j n : Nat} {x v : Int} (C : Cx κ own cc nL ret d) (hla : la a = some (2, n)) (hj : okj κ σ a j) (hi : inr x) (hb2 : 0 ≤ x ∧ x < (n : Int)) (hv : gJ σ a j x.toNat = v) (hd : decode cc pc = .ok (.laload, 1)) (kz : Z κ cs Q (pc + 1) lv (vj v :: st) ad σ) : Z κ cs Q pc lv (vi x :: vo ad a (some j) :: st) ad σ :=
  z_laload C hla hj hi hb2 hd (by rw [hv]; exact kz)
end RV
