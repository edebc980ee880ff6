theorem Grw.rf {σ : St} {ad : Nat → Nat → Nat} : Grw σ ad σ ad := fun _ _ h => ⟨h, rfl⟩
theorem Grw.trans {σ1 σ2 σ3 : St} {a1 a2 a3 : Nat → Nat → Nat} (h1 : Grw σ1 a1 σ2 a2) (h2 : Grw σ2 a2 σ3 a3) : Grw σ1 a1 σ3 a3 := fun K j h => ⟨(h2 K j (h1 K j h).1).1, (h2 K j (h1 K j h).1).2.trans (h1 K j h).2⟩
theorem Grw.eN {σ1 σ2 σ3 : St} {a1 a2 : Nat → Nat → Nat} (h1 : Grw σ1 a1 σ2 a2) (e : σ3.2.2.2 = σ2.2.2.2) : Grw σ1 a1 σ3 a2 := fun K j h => ⟨nNl e (h1 K j h).1, (h1 K j h).2⟩
theorem Grw.nwO {σ1 σ2 : St} {a1 a2 a3 : Nat → Nat → Nat} {K0 : Nat} (h1 : Grw σ1 a1 σ2 a2) (h2 : ∀ K j, ¬ (K = K0 ∧ j = gN σ2 K0) → a3 K j = a2 K j) : Grw σ1 a1 (nwO σ2 K0) a3 := by
  intro K j h
  obtain ⟨h3, h4⟩ := h1 K j h
  constructor
  · rw [gN_nwO]
    by_cases q : K = K0
    · rw [if_pos q]; rw [q] at h3; omega
    · rw [if_neg q]; exact h3
  · rw [h2 K j (fun q => by rw [q.1, q.2] at h3; exact Nat.lt_irrefl _ h3), h4]
theorem Grw.nwA {σ1 σ2 : St} {a1 a2 a3 : Nat → Nat → Nat} {K0 : Nat} (h1 : Grw σ1 a1 σ2 a2) (h2 : ∀ K j, ¬ (K = K0 ∧ j = gN σ2 K0) → a3 K j = a2 K j) : Grw σ1 a1 (nwA σ2 K0) a3 := by
  intro K j h
  obtain ⟨h3, h4⟩ := h1 K j h
  constructor
  · rw [gN_nwA]
    by_cases q : K = K0
    · rw [if_pos q]; rw [q] at h3; omega
    · rw [if_neg q]; exact h3
  · rw [h2 K j (fun q => by rw [q.1, q.2] at h3; exact Nat.lt_irrefl _ h3), h4]
theorem nwO_lt {σ : St} {K : Nat} : gN σ K < gN (nwO σ K) K := by rw [gN_nwO, if_pos rfl]; omega
theorem nwA_lt {σ : St} {a : Nat} : gN σ a < gN (nwA σ a) a := by rw [gN_nwA, if_pos rfl]; omega
theorem grN {σ σ2 : St} {a K j : Nat} (e : nwA σ a = σ2) (h : j < gN σ K) (hK : K ≠ a) : j < gN σ2 K := by rw [← e, gN_nwA, if_neg hK]; exact h
theorem grO {σ σ2 : St} {K0 K j : Nat} (e : nwO σ K0 = σ2) (h : j < gN σ K) : j < gN σ2 K := by
  rw [← e, gN_nwO]
  by_cases q : K = K0
  · rw [if_pos q]; rw [q] at h; omega
  · rw [if_neg q]; exact h
theorem voA {ad ad2 : Nat → Nat → Nat} {K0 j0 K2 : Nat} {r : Option Nat} (h : ∀ K j, ¬ (K = K0 ∧ j = j0) → ad2 K j = ad K j) (hK : K2 ≠ K0) : vo ad K2 r = vo ad2 K2 r := by
  cases r with
  | none => rfl
  | some x =>
    show Value.ref (ad K2 x) = Value.ref (ad2 K2 x)
    rw [h K2 x (fun q => hK q.1)]
theorem voG {σ σ2 : St} {ad ad2 : Nat → Nat → Nat} {K j : Nat} (h : Grw σ ad σ2 ad2) (hj : j < gN σ K) : vo ad K (some j) = vo ad2 K (some j) := by
  show Value.ref (ad K j) = Value.ref (ad2 K j)
  rw [(h K j hj).2]
noncomputable def ckp {α : Type} (c : Prop) (k : Option α) : Option α := @ite _ c (Classical.propDecidable c) k none
theorem wpO_ckp {α : Type} {c : Prop} {k : Option α} {Q : α → Prop} : wpO (ckp c k) Q ↔ c ∧ wpO k Q := by
  unfold ckp
  by_cases h : c
  · rw [if_pos h]; exact ⟨fun q => ⟨h, q⟩, fun q => q.2⟩
  · rw [if_neg h]; exact ⟨fun q => (wpO_none.mp q).elim, fun q => (h q.1).elim⟩
theorem z_gPd {κ : Cxt} {own : String} {cc : ByteArray} {nL d pc : Nat} {ret : Option FieldType} {cs : Nat × Nat} {Q : State → Prop} {lv : List (Nat × Value)} {st : List Value} {ad : Nat → Nat → Nat} {σ : St} {i K k j c : Nat} (C : Cx κ own cc nL ret d) (hL : LkFA own i K k c) (hj : okj κ σ K j) (hd : decode cc pc = .ok (.getfield i, 3)) (kz : ∀ r, gP σ (5000 + c) j 0 = r → Z κ cs Q (pc + 3) lv (vo ad c r :: st) ad σ) : Z κ cs Q pc lv (vo ad K (some j) :: st) ad σ := by
  obtain ⟨h1, rfl, h2⟩ := hL
  exact z_getP C h1 h2 (by decide) hj rfl hd (kz _ rfl)
theorem lpf_X0_9 : LkPF RX0 9 0 0 100 2 := ⟨rfl, rfl, TX0, 13, tyX0, rfl, by decide, uw0, rfl, (lw_ug w_232 rfl), tyX0_ok, nmX0, Or.inr ⟨by decide, fun _ => rfl, fun _ => rfl⟩⟩
theorem lpf_X0_15 : LkPF RX0 15 0 1 101 2 := ⟨rfl, rfl, TX0, 13, tyX0, rfl, by decide, uw0, rfl, (lw_ug w_233 rfl), tyX0_ok, nmX0, Or.inr ⟨by decide, fun _ => rfl, fun _ => rfl⟩⟩
theorem lpf_X0_18 : LkPF RX0 18 0 3 103 2 := ⟨rfl, rfl, TX0, 13, tyX0, rfl, by decide, uw0, rfl, (lw_ug w_236 rfl), tyX0_ok, nmX0, Or.inr ⟨by decide, fun _ => rfl, fun _ => rfl⟩⟩
theorem lpf_X0_21 : LkPF RX0 21 0 4 104 2 := ⟨rfl, rfl, TX0, 13, tyX0, rfl, by decide, uw0, rfl, (lw_ug w_237 rfl), tyX0_ok, nmX0, Or.inr ⟨by decide, fun _ => rfl, fun _ => rfl⟩⟩
theorem lpf_X0_24 : LkPF RX0 24 0 5 105 2 := ⟨rfl, rfl, TX0, 13, tyX0, rfl, by decide, uw0, rfl, (lw_ug w_238 rfl), tyX0_ok, nmX0, Or.inr ⟨by decide, fun _ => rfl, fun _ => rfl⟩⟩
theorem lpf_X0_27 : LkPF RX0 27 0 6 106 2 := ⟨rfl, rfl, TX0, 13, tyX0, rfl, by decide, uw0, rfl, (lw_ug w_239 rfl), tyX0_ok, nmX0, Or.inr ⟨by decide, fun _ => rfl, fun _ => rfl⟩⟩
theorem lpf_X0_30 : LkPF RX0 30 0 7 107 2 := ⟨rfl, rfl, TX0, 13, tyX0, rfl, by decide, uw0, rfl, (lw_ug w_240 rfl), tyX0_ok, nmX0, Or.inr ⟨by decide, fun _ => rfl, fun _ => rfl⟩⟩
theorem lpf_X0_33 : LkPF RX0 33 0 8 108 2 := ⟨rfl, rfl, TX0, 13, tyX0, rfl, by decide, uw0, rfl, (lw_ug w_241 rfl), tyX0_ok, nmX0, Or.inr ⟨by decide, fun _ => rfl, fun _ => rfl⟩⟩
theorem lpf_X0_37 : LkPF RX0 37 0 9 109 2 := ⟨rfl, rfl, TX0, 13, tyX0, rfl, by decide, uw0, rfl, (lw_ug w_242 rfl), tyX0_ok, nmX0, Or.inr ⟨by decide, fun _ => rfl, fun _ => rfl⟩⟩
theorem lpf_X10_9 : LkPF RX10 9 10 0 1100 0 := ⟨rfl, rfl, TX10, 7, tyX10, rfl, by decide, uw10, rfl, (lw_ug w_394 rfl), tyX10_ok, nmX10, Or.inl ⟨rfl, rfl⟩⟩
theorem lpf_X10_15 : LkPF RX10 15 10 1 1101 0 := ⟨rfl, rfl, TX10, 7, tyX10, rfl, by decide, uw10, rfl, (lw_ug w_396 rfl), tyX10_ok, nmX10, Or.inl ⟨rfl, rfl⟩⟩
theorem lpf_X10_18 : LkPF RX10 18 10 2 1102 0 := ⟨rfl, rfl, TX10, 7, tyX10, rfl, by decide, uw10, rfl, (lw_ug w_398 rfl), tyX10_ok, nmX10, Or.inl ⟨rfl, rfl⟩⟩
theorem lpf_X10_21 : LkPF RX10 21 10 3 1103 0 := ⟨rfl, rfl, TX10, 7, tyX10, rfl, by decide, uw10, rfl, (lw_ug w_399 rfl), tyX10_ok, nmX10, Or.inl ⟨rfl, rfl⟩⟩
theorem lpf_X10_24 : LkPF RX10 24 10 4 1104 0 := ⟨rfl, rfl, TX10, 7, tyX10, rfl, by decide, uw10, rfl, (lw_ug w_400 rfl), tyX10_ok, nmX10, Or.inl ⟨rfl, rfl⟩⟩
theorem lpf_X10_27 : LkPF RX10 27 10 5 1105 0 := ⟨rfl, rfl, TX10, 7, tyX10, rfl, by decide, uw10, rfl, (lw_ug w_401 rfl), tyX10_ok, nmX10, Or.inl ⟨rfl, rfl⟩⟩
theorem lkn_X11_7 : LkN RX11 7 9 3 := ⟨RX9, TX9, tyX9, rfl, uw9, tyX9_ok, lk_X11_7, lb_X9, la_X9, rfl, by decide +kernel⟩
theorem lpf_X11_10 : LkPF RX11 10 11 1 1201 12 := ⟨rfl, rfl, TX11, 18, tyX11, rfl, by decide, uw11, rfl, (lw_ug w_313 rfl), tyX11_ok, nmX11, Or.inr ⟨by decide, fun _ => rfl, fun _ => rfl⟩⟩
theorem lkn_X11_16 : LkN RX11 16 1 3 := ⟨RX1, TX1, tyX1, rfl, uw1, tyX1_ok, lk_X11_16, lb_X1, la_X1, rfl, by decide +kernel⟩
theorem lpf_X11_19 : LkPF RX11 19 11 2 1202 4 := ⟨rfl, rfl, TX11, 18, tyX11, rfl, by decide, uw11, rfl, (lw_ug w_314 rfl), tyX11_ok, nmX11, Or.inr ⟨by decide, fun _ => rfl, fun _ => rfl⟩⟩
theorem lpf_X11_25 : LkPF RX11 25 11 3 1203 2 := ⟨rfl, rfl, TX11, 18, tyX11, rfl, by decide, uw11, rfl, (lw_ug w_315 rfl), tyX11_ok, nmX11, Or.inr ⟨by decide, fun _ => rfl, fun _ => rfl⟩⟩
theorem lpf_X11_31 : LkPF RX11 31 11 5 1205 2 := ⟨rfl, rfl, TX11, 18, tyX11, rfl, by decide, uw11, rfl, (lw_ug w_317 rfl), tyX11_ok, nmX11, Or.inr ⟨by decide, fun _ => rfl, fun _ => rfl⟩⟩
theorem lpf_X11_35 : LkPF RX11 35 11 7 1207 0 := ⟨rfl, rfl, TX11, 18, tyX11, rfl, by decide, uw11, rfl, (lw_ug w_319 rfl), tyX11_ok, nmX11, Or.inl ⟨rfl, rfl⟩⟩
theorem lpf_X11_39 : LkPF RX11 39 11 8 1208 2 := ⟨rfl, rfl, TX11, 18, tyX11, rfl, by decide, uw11, rfl, (lw_ug w_320 rfl), tyX11_ok, nmX11, Or.inr ⟨by decide, fun _ => rfl, fun _ => rfl⟩⟩
theorem lpf_X11_45 : LkPF RX11 45 11 9 1209 2 := ⟨rfl, rfl, TX11, 18, tyX11, rfl, by decide, uw11, rfl, (lw_ug w_321 rfl), tyX11_ok, nmX11, Or.inr ⟨by decide, fun _ => rfl, fun _ => rfl⟩⟩
theorem lkn_X11_49 : LkN RX11 49 3 10 := ⟨RX3, TX3, tyX3, rfl, uw3, tyX3_ok, lk_X11_49, lb_X3, la_X3, rfl, by decide +kernel⟩
theorem lpf_X11_52 : LkPF RX11 52 11 11 1211 6 := ⟨rfl, rfl, TX11, 18, tyX11, rfl, by decide, uw11, rfl, (lw_ug w_323 rfl), tyX11_ok, nmX11, Or.inr ⟨by decide, fun _ => rfl, fun _ => rfl⟩⟩
theorem lpf_X11_58 : LkPF RX11 58 11 13 1213 2 := ⟨rfl, rfl, TX11, 18, tyX11, rfl, by decide, uw11, rfl, (lw_ug w_325 rfl), tyX11_ok, nmX11, Or.inr ⟨by decide, fun _ => rfl, fun _ => rfl⟩⟩
theorem lkn_X11_62 : LkN RX11 62 4 13 := ⟨RX4, TX4, tyX4, rfl, uw4, tyX4_ok, lk_X11_62, lb_X4, la_X4, rfl, by decide +kernel⟩
theorem lpf_X11_65 : LkPF RX11 65 11 15 1215 7 := ⟨rfl, rfl, TX11, 18, tyX11, rfl, by decide, uw11, rfl, (lw_ug w_327 rfl), tyX11_ok, nmX11, Or.inr ⟨by decide, fun _ => rfl, fun _ => rfl⟩⟩
theorem lkn_X11_69 : LkN RX11 69 0 13 := ⟨RX0, TX0, tyX0, rfl, uw0, tyX0_ok, lk_X11_69, lb_X0, la_X0, rfl, by decide +kernel⟩
theorem lpf_X11_72 : LkPF RX11 72 11 16 1216 3 := ⟨rfl, rfl, TX11, 18, tyX11, rfl, by decide, uw11, rfl, (lw_ug w_328 rfl), tyX11_ok, nmX11, Or.inr ⟨by decide, fun _ => rfl, fun _ => rfl⟩⟩
theorem lkn_X11_76 : LkN RX11 76 2 9 := ⟨RX2, TX2, tyX2, rfl, uw2, tyX2_ok, lk_X11_76, lb_X2, la_X2, rfl, by decide +kernel⟩
theorem lpf_X11_79 : LkPF RX11 79 11 17 1217 5 := ⟨rfl, rfl, TX11, 18, tyX11, rfl, by decide, uw11, rfl, (lw_ug w_329 rfl), tyX11_ok, nmX11, Or.inr ⟨by decide, fun _ => rfl, fun _ => rfl⟩⟩
theorem lkn_X11_56 : LkN RX11 56 5 5 := ⟨RX5, TX5, tyX5, rfl, uw5, tyX5_ok, lk_X11_56, lb_X5, la_X5, rfl, by decide +kernel⟩
theorem lkn_X11_43 : LkN RX11 43 6 4 := ⟨RX6, TX6, tyX6, rfl, uw6, tyX6_ok, lk_X11_43, lb_X6, la_X6, rfl, by decide +kernel⟩
theorem lkn_X11_23 : LkN RX11 23 7 13 := ⟨RX7, TX7, tyX7, rfl, uw7, tyX7_ok, lk_X11_23, lb_X7, la_X7, rfl, by decide +kernel⟩
theorem lkn_X11_29 : LkN RX11 29 8 8 := ⟨RX8, TX8, tyX8, rfl, uw8, tyX8_ok, lk_X11_29, lb_X8, la_X8, rfl, by decide +kernel⟩
theorem lkn_X11_101 : LkN RX11 101 10 7 := ⟨RX10, TX10, tyX10, rfl, uw10, tyX10_ok, lk_X11_101, lb_X10, la_X10, rfl, by decide +kernel⟩
theorem lpf_X12_7 : LkPF RX12 7 12 2 1302 2 := ⟨rfl, rfl, TX12, 92, tyX12, rfl, by decide, uw12, rfl, (lw_ug w_1182 rfl), tyX12_ok, nmX12, Or.inr ⟨by decide, fun _ => rfl, fun _ => rfl⟩⟩
theorem lpf_X12_13 : LkPF RX12 13 12 3 1303 2 := ⟨rfl, rfl, TX12, 92, tyX12, rfl, by decide, uw12, rfl, (lw_ug w_1183 rfl), tyX12_ok, nmX12, Or.inr ⟨by decide, fun _ => rfl, fun _ => rfl⟩⟩
theorem lpf_X12_16 : LkPF RX12 16 12 4 1304 2 := ⟨rfl, rfl, TX12, 92, tyX12, rfl, by decide, uw12, rfl, (lw_ug w_1184 rfl), tyX12_ok, nmX12, Or.inr ⟨by decide, fun _ => rfl, fun _ => rfl⟩⟩
theorem lpf_X12_19 : LkPF RX12 19 12 5 1305 2 := ⟨rfl, rfl, TX12, 92, tyX12, rfl, by decide, uw12, rfl, (lw_ug w_1185 rfl), tyX12_ok, nmX12, Or.inr ⟨by decide, fun _ => rfl, fun _ => rfl⟩⟩
theorem lpf_X12_22 : LkPF RX12 22 12 6 1306 2 := ⟨rfl, rfl, TX12, 92, tyX12, rfl, by decide, uw12, rfl, (lw_ug w_1186 rfl), tyX12_ok, nmX12, Or.inr ⟨by decide, fun _ => rfl, fun _ => rfl⟩⟩
theorem lpf_X12_25 : LkPF RX12 25 12 7 1307 2 := ⟨rfl, rfl, TX12, 92, tyX12, rfl, by decide, uw12, rfl, (lw_ug w_1187 rfl), tyX12_ok, nmX12, Or.inr ⟨by decide, fun _ => rfl, fun _ => rfl⟩⟩
theorem lpf_X12_28 : LkPF RX12 28 12 8 1308 2 := ⟨rfl, rfl, TX12, 92, tyX12, rfl, by decide, uw12, rfl, (lw_ug w_1188 rfl), tyX12_ok, nmX12, Or.inr ⟨by decide, fun _ => rfl, fun _ => rfl⟩⟩
theorem lpf_X12_32 : LkPF RX12 32 12 9 1309 2 := ⟨rfl, rfl, TX12, 92, tyX12, rfl, by decide, uw12, rfl, (lw_ug w_1189 rfl), tyX12_ok, nmX12, Or.inr ⟨by decide, fun _ => rfl, fun _ => rfl⟩⟩
theorem lpf_X12_35 : LkPF RX12 35 12 11 1311 2 := ⟨rfl, rfl, TX12, 92, tyX12, rfl, by decide, uw12, rfl, (lw_ug w_1191 rfl), tyX12_ok, nmX12, Or.inr ⟨by decide, fun _ => rfl, fun _ => rfl⟩⟩
theorem lpf_X12_38 : LkPF RX12 38 12 12 1312 2 := ⟨rfl, rfl, TX12, 92, tyX12, rfl, by decide, uw12, rfl, (lw_ug w_1192 rfl), tyX12_ok, nmX12, Or.inr ⟨by decide, fun _ => rfl, fun _ => rfl⟩⟩
theorem lpf_X12_41 : LkPF RX12 41 12 13 1313 2 := ⟨rfl, rfl, TX12, 92, tyX12, rfl, by decide, uw12, rfl, (lw_ug w_1193 rfl), tyX12_ok, nmX12, Or.inr ⟨by decide, fun _ => rfl, fun _ => rfl⟩⟩
theorem lpf_X12_44 : LkPF RX12 44 12 14 1314 2 := ⟨rfl, rfl, TX12, 92, tyX12, rfl, by decide, uw12, rfl, (lw_ug w_1194 rfl), tyX12_ok, nmX12, Or.inr ⟨by decide, fun _ => rfl, fun _ => rfl⟩⟩
theorem lpf_X12_47 : LkPF RX12 47 12 15 1315 2 := ⟨rfl, rfl, TX12, 92, tyX12, rfl, by decide, uw12, rfl, (lw_ug w_1195 rfl), tyX12_ok, nmX12, Or.inr ⟨by decide, fun _ => rfl, fun _ => rfl⟩⟩
theorem lpf_X12_50 : LkPF RX12 50 12 16 1316 2 := ⟨rfl, rfl, TX12, 92, tyX12, rfl, by decide, uw12, rfl, (lw_ug w_1196 rfl), tyX12_ok, nmX12, Or.inr ⟨by decide, fun _ => rfl, fun _ => rfl⟩⟩
theorem lpf_X12_53 : LkPF RX12 53 12 17 1317 2 := ⟨rfl, rfl, TX12, 92, tyX12, rfl, by decide, uw12, rfl, (lw_ug w_1197 rfl), tyX12_ok, nmX12, Or.inr ⟨by decide, fun _ => rfl, fun _ => rfl⟩⟩
theorem lpf_X12_56 : LkPF RX12 56 12 18 1318 2 := ⟨rfl, rfl, TX12, 92, tyX12, rfl, by decide, uw12, rfl, (lw_ug w_1198 rfl), tyX12_ok, nmX12, Or.inr ⟨by decide, fun _ => rfl, fun _ => rfl⟩⟩
theorem lpf_X12_59 : LkPF RX12 59 12 19 1319 2 := ⟨rfl, rfl, TX12, 92, tyX12, rfl, by decide, uw12, rfl, (lw_ug w_1199 rfl), tyX12_ok, nmX12, Or.inr ⟨by decide, fun _ => rfl, fun _ => rfl⟩⟩
theorem lpf_X12_62 : LkPF RX12 62 12 20 1320 2 := ⟨rfl, rfl, TX12, 92, tyX12, rfl, by decide, uw12, rfl, (lw_ug w_1200 rfl), tyX12_ok, nmX12, Or.inr ⟨by decide, fun _ => rfl, fun _ => rfl⟩⟩
theorem lpf_X12_65 : LkPF RX12 65 12 21 1321 2 := ⟨rfl, rfl, TX12, 92, tyX12, rfl, by decide, uw12, rfl, (lw_ug w_1201 rfl), tyX12_ok, nmX12, Or.inr ⟨by decide, fun _ => rfl, fun _ => rfl⟩⟩
theorem lpf_X12_68 : LkPF RX12 68 12 22 1322 2 := ⟨rfl, rfl, TX12, 92, tyX12, rfl, by decide, uw12, rfl, (lw_ug w_1202 rfl), tyX12_ok, nmX12, Or.inr ⟨by decide, fun _ => rfl, fun _ => rfl⟩⟩
theorem lpf_X12_71 : LkPF RX12 71 12 23 1323 2 := ⟨rfl, rfl, TX12, 92, tyX12, rfl, by decide, uw12, rfl, (lw_ug w_1203 rfl), tyX12_ok, nmX12, Or.inr ⟨by decide, fun _ => rfl, fun _ => rfl⟩⟩
theorem lpf_X12_74 : LkPF RX12 74 12 24 1324 2 := ⟨rfl, rfl, TX12, 92, tyX12, rfl, by decide, uw12, rfl, (lw_ug w_1204 rfl), tyX12_ok, nmX12, Or.inr ⟨by decide, fun _ => rfl, fun _ => rfl⟩⟩
theorem lpf_X12_77 : LkPF RX12 77 12 25 1325 2 := ⟨rfl, rfl, TX12, 92, tyX12, rfl, by decide, uw12, rfl, (lw_ug w_1205 rfl), tyX12_ok, nmX12, Or.inr ⟨by decide, fun _ => rfl, fun _ => rfl⟩⟩
theorem lpf_X12_80 : LkPF RX12 80 12 27 1327 2 := ⟨rfl, rfl, TX12, 92, tyX12, rfl, by decide, uw12, rfl, (lw_ug w_1207 rfl), tyX12_ok, nmX12, Or.inr ⟨by decide, fun _ => rfl, fun _ => rfl⟩⟩
theorem lpf_X12_83 : LkPF RX12 83 12 28 1328 2 := ⟨rfl, rfl, TX12, 92, tyX12, rfl, by decide, uw12, rfl, (lw_ug w_1208 rfl), tyX12_ok, nmX12, Or.inr ⟨by decide, fun _ => rfl, fun _ => rfl⟩⟩
theorem lpf_X12_86 : LkPF RX12 86 12 29 1329 2 := ⟨rfl, rfl, TX12, 92, tyX12, rfl, by decide, uw12, rfl, (lw_ug w_1209 rfl), tyX12_ok, nmX12, Or.inr ⟨by decide, fun _ => rfl, fun _ => rfl⟩⟩
theorem lpf_X12_89 : LkPF RX12 89 12 30 1330 2 := ⟨rfl, rfl, TX12, 92, tyX12, rfl, by decide, uw12, rfl, (lw_ug w_1210 rfl), tyX12_ok, nmX12, Or.inr ⟨by decide, fun _ => rfl, fun _ => rfl⟩⟩
theorem lpf_X12_92 : LkPF RX12 92 12 31 1331 2 := ⟨rfl, rfl, TX12, 92, tyX12, rfl, by decide, uw12, rfl, (lw_ug w_1211 rfl), tyX12_ok, nmX12, Or.inr ⟨by decide, fun _ => rfl, fun _ => rfl⟩⟩
theorem lpf_X12_95 : LkPF RX12 95 12 32 1332 2 := ⟨rfl, rfl, TX12, 92, tyX12, rfl, by decide, uw12, rfl, (lw_ug w_1212 rfl), tyX12_ok, nmX12, Or.inr ⟨by decide, fun _ => rfl, fun _ => rfl⟩⟩
theorem lpf_X12_98 : LkPF RX12 98 12 33 1333 2 := ⟨rfl, rfl, TX12, 92, tyX12, rfl, by decide, uw12, rfl, (lw_ug w_1213 rfl), tyX12_ok, nmX12, Or.inr ⟨by decide, fun _ => rfl, fun _ => rfl⟩⟩
theorem lpf_X12_101 : LkPF RX12 101 12 34 1334 2 := ⟨rfl, rfl, TX12, 92, tyX12, rfl, by decide, uw12, rfl, (lw_ug w_1214 rfl), tyX12_ok, nmX12, Or.inr ⟨by decide, fun _ => rfl, fun _ => rfl⟩⟩
theorem lpf_X12_104 : LkPF RX12 104 12 35 1335 0 := ⟨rfl, rfl, TX12, 92, tyX12, rfl, by decide, uw12, rfl, (lw_ug w_1215 rfl), tyX12_ok, nmX12, Or.inl ⟨rfl, rfl⟩⟩
theorem lpf_X12_108 : LkPF RX12 108 12 36 1336 2 := ⟨rfl, rfl, TX12, 92, tyX12, rfl, by decide, uw12, rfl, (lw_ug w_1216 rfl), tyX12_ok, nmX12, Or.inr ⟨by decide, fun _ => rfl, fun _ => rfl⟩⟩
theorem lpf_X12_111 : LkPF RX12 111 12 38 1338 2 := ⟨rfl, rfl, TX12, 92, tyX12, rfl, by decide, uw12, rfl, (lw_ug w_1218 rfl), tyX12_ok, nmX12, Or.inr ⟨by decide, fun _ => rfl, fun _ => rfl⟩⟩
theorem lpf_X12_114 : LkPF RX12 114 12 39 1339 2 := ⟨rfl, rfl, TX12, 92, tyX12, rfl, by decide, uw12, rfl, (lw_ug w_1219 rfl), tyX12_ok, nmX12, Or.inr ⟨by decide, fun _ => rfl, fun _ => rfl⟩⟩
theorem lpf_X12_117 : LkPF RX12 117 12 40 1340 2 := ⟨rfl, rfl, TX12, 92, tyX12, rfl, by decide, uw12, rfl, (lw_ug w_1220 rfl), tyX12_ok, nmX12, Or.inr ⟨by decide, fun _ => rfl, fun _ => rfl⟩⟩
theorem lpf_X12_120 : LkPF RX12 120 12 41 1341 2 := ⟨rfl, rfl, TX12, 92, tyX12, rfl, by decide, uw12, rfl, (lw_ug w_1221 rfl), tyX12_ok, nmX12, Or.inr ⟨by decide, fun _ => rfl, fun _ => rfl⟩⟩
theorem lpf_X12_123 : LkPF RX12 123 12 44 1344 2 := ⟨rfl, rfl, TX12, 92, tyX12, rfl, by decide, uw12, rfl, (lw_ug w_1224 rfl), tyX12_ok, nmX12, Or.inr ⟨by decide, fun _ => rfl, fun _ => rfl⟩⟩
theorem lpf_X12_126 : LkPF RX12 126 12 46 1346 2 := ⟨rfl, rfl, TX12, 92, tyX12, rfl, by decide, uw12, rfl, (lw_ug w_1226 rfl), tyX12_ok, nmX12, Or.inr ⟨by decide, fun _ => rfl, fun _ => rfl⟩⟩
theorem lpf_X12_129 : LkPF RX12 129 12 47 1347 2 := ⟨rfl, rfl, TX12, 92, tyX12, rfl, by decide, uw12, rfl, (lw_ug w_1227 rfl), tyX12_ok, nmX12, Or.inr ⟨by decide, fun _ => rfl, fun _ => rfl⟩⟩
theorem lpf_X12_132 : LkPF RX12 132 12 48 1348 2 := ⟨rfl, rfl, TX12, 92, tyX12, rfl, by decide, uw12, rfl, (lw_ug w_1228 rfl), tyX12_ok, nmX12, Or.inr ⟨by decide, fun _ => rfl, fun _ => rfl⟩⟩
theorem lpf_X12_135 : LkPF RX12 135 12 50 1350 2 := ⟨rfl, rfl, TX12, 92, tyX12, rfl, by decide, uw12, rfl, (lw_ug w_1230 rfl), tyX12_ok, nmX12, Or.inr ⟨by decide, fun _ => rfl, fun _ => rfl⟩⟩
theorem lpf_X12_138 : LkPF RX12 138 12 51 1351 2 := ⟨rfl, rfl, TX12, 92, tyX12, rfl, by decide, uw12, rfl, (lw_ug w_1231 rfl), tyX12_ok, nmX12, Or.inr ⟨by decide, fun _ => rfl, fun _ => rfl⟩⟩
theorem lpf_X12_141 : LkPF RX12 141 12 52 1352 2 := ⟨rfl, rfl, TX12, 92, tyX12, rfl, by decide, uw12, rfl, (lw_ug w_1232 rfl), tyX12_ok, nmX12, Or.inr ⟨by decide, fun _ => rfl, fun _ => rfl⟩⟩
theorem lpf_X12_144 : LkPF RX12 144 12 53 1353 2 := ⟨rfl, rfl, TX12, 92, tyX12, rfl, by decide, uw12, rfl, (lw_ug w_1233 rfl), tyX12_ok, nmX12, Or.inr ⟨by decide, fun _ => rfl, fun _ => rfl⟩⟩
theorem lpf_X12_147 : LkPF RX12 147 12 54 1354 2 := ⟨rfl, rfl, TX12, 92, tyX12, rfl, by decide, uw12, rfl, (lw_ug w_1234 rfl), tyX12_ok, nmX12, Or.inr ⟨by decide, fun _ => rfl, fun _ => rfl⟩⟩
theorem lpf_X12_150 : LkPF RX12 150 12 55 1355 0 := ⟨rfl, rfl, TX12, 92, tyX12, rfl, by decide, uw12, rfl, (lw_ug w_1235 rfl), tyX12_ok, nmX12, Or.inl ⟨rfl, rfl⟩⟩
theorem lpf_X12_153 : LkPF RX12 153 12 56 1356 0 := ⟨rfl, rfl, TX12, 92, tyX12, rfl, by decide, uw12, rfl, (lw_ug w_1236 rfl), tyX12_ok, nmX12, Or.inl ⟨rfl, rfl⟩⟩
theorem lpf_X12_156 : LkPF RX12 156 12 57 1357 2 := ⟨rfl, rfl, TX12, 92, tyX12, rfl, by decide, uw12, rfl, (lw_ug w_1237 rfl), tyX12_ok, nmX12, Or.inr ⟨by decide, fun _ => rfl, fun _ => rfl⟩⟩
theorem lpf_X12_159 : LkPF RX12 159 12 58 1358 2 := ⟨rfl, rfl, TX12, 92, tyX12, rfl, by decide, uw12, rfl, (lw_ug w_1238 rfl), tyX12_ok, nmX12, Or.inr ⟨by decide, fun _ => rfl, fun _ => rfl⟩⟩
theorem lpf_X12_162 : LkPF RX12 162 12 59 1359 2 := ⟨rfl, rfl, TX12, 92, tyX12, rfl, by decide, uw12, rfl, (lw_ug w_1239 rfl), tyX12_ok, nmX12, Or.inr ⟨by decide, fun _ => rfl, fun _ => rfl⟩⟩
theorem lpf_X12_165 : LkPF RX12 165 12 60 1360 2 := ⟨rfl, rfl, TX12, 92, tyX12, rfl, by decide, uw12, rfl, (lw_ug w_1240 rfl), tyX12_ok, nmX12, Or.inr ⟨by decide, fun _ => rfl, fun _ => rfl⟩⟩
theorem lpf_X12_168 : LkPF RX12 168 12 61 1361 2 := ⟨rfl, rfl, TX12, 92, tyX12, rfl, by decide, uw12, rfl, (lw_ug w_1241 rfl), tyX12_ok, nmX12, Or.inr ⟨by decide, fun _ => rfl, fun _ => rfl⟩⟩
theorem lpf_X12_171 : LkPF RX12 171 12 63 1363 2 := ⟨rfl, rfl, TX12, 92, tyX12, rfl, by decide, uw12, rfl, (lw_ug w_1243 rfl), tyX12_ok, nmX12, Or.inr ⟨by decide, fun _ => rfl, fun _ => rfl⟩⟩
theorem lpf_X12_174 : LkPF RX12 174 12 64 1364 2 := ⟨rfl, rfl, TX12, 92, tyX12, rfl, by decide, uw12, rfl, (lw_ug w_1244 rfl), tyX12_ok, nmX12, Or.inr ⟨by decide, fun _ => rfl, fun _ => rfl⟩⟩
theorem lpf_X12_177 : LkPF RX12 177 12 67 1367 2 := ⟨rfl, rfl, TX12, 92, tyX12, rfl, by decide, uw12, rfl, (lw_ug w_1247 rfl), tyX12_ok, nmX12, Or.inr ⟨by decide, fun _ => rfl, fun _ => rfl⟩⟩
theorem lpf_X12_180 : LkPF RX12 180 12 68 1368 2 := ⟨rfl, rfl, TX12, 92, tyX12, rfl, by decide, uw12, rfl, (lw_ug w_1248 rfl), tyX12_ok, nmX12, Or.inr ⟨by decide, fun _ => rfl, fun _ => rfl⟩⟩
theorem lpf_X12_183 : LkPF RX12 183 12 70 1370 2 := ⟨rfl, rfl, TX12, 92, tyX12, rfl, by decide, uw12, rfl, (lw_ug w_1250 rfl), tyX12_ok, nmX12, Or.inr ⟨by decide, fun _ => rfl, fun _ => rfl⟩⟩
theorem lpf_X12_186 : LkPF RX12 186 12 71 1371 2 := ⟨rfl, rfl, TX12, 92, tyX12, rfl, by decide, uw12, rfl, (lw_ug w_1251 rfl), tyX12_ok, nmX12, Or.inr ⟨by decide, fun _ => rfl, fun _ => rfl⟩⟩
theorem lpf_X12_189 : LkPF RX12 189 12 72 1372 2 := ⟨rfl, rfl, TX12, 92, tyX12, rfl, by decide, uw12, rfl, (lw_ug w_1252 rfl), tyX12_ok, nmX12, Or.inr ⟨by decide, fun _ => rfl, fun _ => rfl⟩⟩
theorem lpf_X12_192 : LkPF RX12 192 12 73 1373 2 := ⟨rfl, rfl, TX12, 92, tyX12, rfl, by decide, uw12, rfl, (lw_ug w_1253 rfl), tyX12_ok, nmX12, Or.inr ⟨by decide, fun _ => rfl, fun _ => rfl⟩⟩
theorem lpf_X12_195 : LkPF RX12 195 12 74 1374 2 := ⟨rfl, rfl, TX12, 92, tyX12, rfl, by decide, uw12, rfl, (lw_ug w_1254 rfl), tyX12_ok, nmX12, Or.inr ⟨by decide, fun _ => rfl, fun _ => rfl⟩⟩
theorem lpf_X12_198 : LkPF RX12 198 12 75 1375 2 := ⟨rfl, rfl, TX12, 92, tyX12, rfl, by decide, uw12, rfl, (lw_ug w_1255 rfl), tyX12_ok, nmX12, Or.inr ⟨by decide, fun _ => rfl, fun _ => rfl⟩⟩
theorem lpf_X12_201 : LkPF RX12 201 12 76 1376 2 := ⟨rfl, rfl, TX12, 92, tyX12, rfl, by decide, uw12, rfl, (lw_ug w_1256 rfl), tyX12_ok, nmX12, Or.inr ⟨by decide, fun _ => rfl, fun _ => rfl⟩⟩
theorem lpf_X12_204 : LkPF RX12 204 12 77 1377 2 := ⟨rfl, rfl, TX12, 92, tyX12, rfl, by decide, uw12, rfl, (lw_ug w_1257 rfl), tyX12_ok, nmX12, Or.inr ⟨by decide, fun _ => rfl, fun _ => rfl⟩⟩
theorem lpf_X12_207 : LkPF RX12 207 12 79 1379 2 := ⟨rfl, rfl, TX12, 92, tyX12, rfl, by decide, uw12, rfl, (lw_ug w_1259 rfl), tyX12_ok, nmX12, Or.inr ⟨by decide, fun _ => rfl, fun _ => rfl⟩⟩
theorem lpf_X12_210 : LkPF RX12 210 12 80 1380 2 := ⟨rfl, rfl, TX12, 92, tyX12, rfl, by decide, uw12, rfl, (lw_ug w_1260 rfl), tyX12_ok, nmX12, Or.inr ⟨by decide, fun _ => rfl, fun _ => rfl⟩⟩
theorem lpf_X12_213 : LkPF RX12 213 12 81 1381 2 := ⟨rfl, rfl, TX12, 92, tyX12, rfl, by decide, uw12, rfl, (lw_ug w_1261 rfl), tyX12_ok, nmX12, Or.inr ⟨by decide, fun _ => rfl, fun _ => rfl⟩⟩
theorem lpf_X12_216 : LkPF RX12 216 12 82 1382 2 := ⟨rfl, rfl, TX12, 92, tyX12, rfl, by decide, uw12, rfl, (lw_ug w_1262 rfl), tyX12_ok, nmX12, Or.inr ⟨by decide, fun _ => rfl, fun _ => rfl⟩⟩
theorem lpf_X12_219 : LkPF RX12 219 12 83 1383 0 := ⟨rfl, rfl, TX12, 92, tyX12, rfl, by decide, uw12, rfl, (lw_ug w_1263 rfl), tyX12_ok, nmX12, Or.inl ⟨rfl, rfl⟩⟩
theorem lpf_X12_222 : LkPF RX12 222 12 85 1385 2 := ⟨rfl, rfl, TX12, 92, tyX12, rfl, by decide, uw12, rfl, (lw_ug w_1265 rfl), tyX12_ok, nmX12, Or.inr ⟨by decide, fun _ => rfl, fun _ => rfl⟩⟩
theorem lpf_X12_225 : LkPF RX12 225 12 86 1386 2 := ⟨rfl, rfl, TX12, 92, tyX12, rfl, by decide, uw12, rfl, (lw_ug w_1266 rfl), tyX12_ok, nmX12, Or.inr ⟨by decide, fun _ => rfl, fun _ => rfl⟩⟩
theorem lpf_X12_228 : LkPF RX12 228 12 87 1387 2 := ⟨rfl, rfl, TX12, 92, tyX12, rfl, by decide, uw12, rfl, (lw_ug w_1267 rfl), tyX12_ok, nmX12, Or.inr ⟨by decide, fun _ => rfl, fun _ => rfl⟩⟩
theorem lpf_X12_231 : LkPF RX12 231 12 88 1388 2 := ⟨rfl, rfl, TX12, 92, tyX12, rfl, by decide, uw12, rfl, (lw_ug w_1268 rfl), tyX12_ok, nmX12, Or.inr ⟨by decide, fun _ => rfl, fun _ => rfl⟩⟩
theorem lpf_X12_234 : LkPF RX12 234 12 89 1389 2 := ⟨rfl, rfl, TX12, 92, tyX12, rfl, by decide, uw12, rfl, (lw_ug w_1269 rfl), tyX12_ok, nmX12, Or.inr ⟨by decide, fun _ => rfl, fun _ => rfl⟩⟩
theorem lpf_X12_237 : LkPF RX12 237 12 90 1390 2 := ⟨rfl, rfl, TX12, 92, tyX12, rfl, by decide, uw12, rfl, (lw_ug w_1270 rfl), tyX12_ok, nmX12, Or.inr ⟨by decide, fun _ => rfl, fun _ => rfl⟩⟩
theorem lpf_X12_240 : LkPF RX12 240 12 91 1391 2 := ⟨rfl, rfl, TX12, 92, tyX12, rfl, by decide, uw12, rfl, (lw_ug w_1271 rfl), tyX12_ok, nmX12, Or.inr ⟨by decide, fun _ => rfl, fun _ => rfl⟩⟩
theorem lpf_X1_9 : LkPF RX1 9 1 0 200 2 := ⟨rfl, rfl, TX1, 3, tyX1, rfl, by decide, uw1, rfl, (lw_ug w_122 rfl), tyX1_ok, nmX1, Or.inr ⟨by decide, fun _ => rfl, fun _ => rfl⟩⟩
theorem lpf_X1_15 : LkPF RX1 15 1 1 201 2 := ⟨rfl, rfl, TX1, 3, tyX1, rfl, by decide, uw1, rfl, (lw_ug w_123 rfl), tyX1_ok, nmX1, Or.inr ⟨by decide, fun _ => rfl, fun _ => rfl⟩⟩
theorem lpf_X1_18 : LkPF RX1 18 1 2 202 2 := ⟨rfl, rfl, TX1, 3, tyX1, rfl, by decide, uw1, rfl, (lw_ug w_124 rfl), tyX1_ok, nmX1, Or.inr ⟨by decide, fun _ => rfl, fun _ => rfl⟩⟩
theorem lpf_X2_9 : LkPF RX2 9 2 1 301 2 := ⟨rfl, rfl, TX2, 9, tyX2, rfl, by decide, uw2, rfl, (lw_ug w_284 rfl), tyX2_ok, nmX2, Or.inr ⟨by decide, fun _ => rfl, fun _ => rfl⟩⟩
theorem lpf_X2_15 : LkPF RX2 15 2 2 302 2 := ⟨rfl, rfl, TX2, 9, tyX2, rfl, by decide, uw2, rfl, (lw_ug w_285 rfl), tyX2_ok, nmX2, Or.inr ⟨by decide, fun _ => rfl, fun _ => rfl⟩⟩
theorem lpf_X2_18 : LkPF RX2 18 2 3 303 2 := ⟨rfl, rfl, TX2, 9, tyX2, rfl, by decide, uw2, rfl, (lw_ug w_286 rfl), tyX2_ok, nmX2, Or.inr ⟨by decide, fun _ => rfl, fun _ => rfl⟩⟩
theorem lpf_X2_21 : LkPF RX2 21 2 4 304 2 := ⟨rfl, rfl, TX2, 9, tyX2, rfl, by decide, uw2, rfl, (lw_ug w_287 rfl), tyX2_ok, nmX2, Or.inr ⟨by decide, fun _ => rfl, fun _ => rfl⟩⟩
theorem lpf_X2_24 : LkPF RX2 24 2 5 305 0 := ⟨rfl, rfl, TX2, 9, tyX2, rfl, by decide, uw2, rfl, (lw_ug w_288 rfl), tyX2_ok, nmX2, Or.inl ⟨rfl, rfl⟩⟩
theorem lpf_X2_28 : LkPF RX2 28 2 6 306 2 := ⟨rfl, rfl, TX2, 9, tyX2, rfl, by decide, uw2, rfl, (lw_ug w_289 rfl), tyX2_ok, nmX2, Or.inr ⟨by decide, fun _ => rfl, fun _ => rfl⟩⟩
theorem lpf_X2_32 : LkPF RX2 32 2 7 307 2 := ⟨rfl, rfl, TX2, 9, tyX2, rfl, by decide, uw2, rfl, (lw_ug w_290 rfl), tyX2_ok, nmX2, Or.inr ⟨by decide, fun _ => rfl, fun _ => rfl⟩⟩
theorem lpf_X3_9 : LkPF RX3 9 3 0 400 2 := ⟨rfl, rfl, TX3, 10, tyX3, rfl, by decide, uw3, rfl, (lw_ug w_144 rfl), tyX3_ok, nmX3, Or.inr ⟨by decide, fun _ => rfl, fun _ => rfl⟩⟩
theorem lpf_X3_15 : LkPF RX3 15 3 1 401 2 := ⟨rfl, rfl, TX3, 10, tyX3, rfl, by decide, uw3, rfl, (lw_ug w_145 rfl), tyX3_ok, nmX3, Or.inr ⟨by decide, fun _ => rfl, fun _ => rfl⟩⟩
theorem lpf_X3_19 : LkPF RX3 19 3 2 402 2 := ⟨rfl, rfl, TX3, 10, tyX3, rfl, by decide, uw3, rfl, (lw_ug w_146 rfl), tyX3_ok, nmX3, Or.inr ⟨by decide, fun _ => rfl, fun _ => rfl⟩⟩
theorem lpf_X3_22 : LkPF RX3 22 3 3 403 2 := ⟨rfl, rfl, TX3, 10, tyX3, rfl, by decide, uw3, rfl, (lw_ug w_147 rfl), tyX3_ok, nmX3, Or.inr ⟨by decide, fun _ => rfl, fun _ => rfl⟩⟩
theorem lpf_X4_9 : LkPF RX4 9 4 0 500 0 := ⟨rfl, rfl, TX4, 13, tyX4, rfl, by decide, uw4, rfl, (lw_ug w_184 rfl), tyX4_ok, nmX4, Or.inl ⟨rfl, rfl⟩⟩
theorem lpf_X4_15 : LkPF RX4 15 4 1 501 0 := ⟨rfl, rfl, TX4, 13, tyX4, rfl, by decide, uw4, rfl, (lw_ug w_185 rfl), tyX4_ok, nmX4, Or.inl ⟨rfl, rfl⟩⟩
theorem lpf_X4_18 : LkPF RX4 18 4 2 502 2 := ⟨rfl, rfl, TX4, 13, tyX4, rfl, by decide, uw4, rfl, (lw_ug w_186 rfl), tyX4_ok, nmX4, Or.inr ⟨by decide, fun _ => rfl, fun _ => rfl⟩⟩
theorem lpf_X4_22 : LkPF RX4 22 4 8 508 2 := ⟨rfl, rfl, TX4, 13, tyX4, rfl, by decide, uw4, rfl, (lw_ug w_193 rfl), tyX4_ok, nmX4, Or.inr ⟨by decide, fun _ => rfl, fun _ => rfl⟩⟩
theorem lpf_X4_25 : LkPF RX4 25 4 9 509 2 := ⟨rfl, rfl, TX4, 13, tyX4, rfl, by decide, uw4, rfl, (lw_ug w_194 rfl), tyX4_ok, nmX4, Or.inr ⟨by decide, fun _ => rfl, fun _ => rfl⟩⟩
theorem lpf_X4_28 : LkPF RX4 28 4 10 510 2 := ⟨rfl, rfl, TX4, 13, tyX4, rfl, by decide, uw4, rfl, (lw_ug w_195 rfl), tyX4_ok, nmX4, Or.inr ⟨by decide, fun _ => rfl, fun _ => rfl⟩⟩
theorem lpf_X5_7 : LkPF RX5 7 5 0 600 0 := ⟨rfl, rfl, TX5, 5, tyX5, rfl, by decide, uw5, rfl, (lw_ug w_881 rfl), tyX5_ok, nmX5, Or.inl ⟨rfl, rfl⟩⟩
theorem lpf_X5_13 : LkPF RX5 13 5 1 601 0 := ⟨rfl, rfl, TX5, 5, tyX5, rfl, by decide, uw5, rfl, (lw_ug w_882 rfl), tyX5_ok, nmX5, Or.inl ⟨rfl, rfl⟩⟩
theorem lpf_X5_16 : LkPF RX5 16 5 2 602 0 := ⟨rfl, rfl, TX5, 5, tyX5, rfl, by decide, uw5, rfl, (lw_ug w_883 rfl), tyX5_ok, nmX5, Or.inl ⟨rfl, rfl⟩⟩
theorem lpf_X5_19 : LkPF RX5 19 5 3 603 0 := ⟨rfl, rfl, TX5, 5, tyX5, rfl, by decide, uw5, rfl, (lw_ug w_884 rfl), tyX5_ok, nmX5, Or.inl ⟨rfl, rfl⟩⟩
theorem lpf_X5_22 : LkPF RX5 22 5 4 604 0 := ⟨rfl, rfl, TX5, 5, tyX5, rfl, by decide, uw5, rfl, (lw_ug w_885 rfl), tyX5_ok, nmX5, Or.inl ⟨rfl, rfl⟩⟩
theorem lpf_X6_10 : LkPF RX6 10 6 1 701 0 := ⟨rfl, rfl, TX6, 4, tyX6, rfl, by decide, uw6, rfl, (lw_ug w_752 rfl), tyX6_ok, nmX6, Or.inl ⟨rfl, rfl⟩⟩
theorem lpf_X6_16 : LkPF RX6 16 6 2 702 2 := ⟨rfl, rfl, TX6, 4, tyX6, rfl, by decide, uw6, rfl, (lw_ug w_754 rfl), tyX6_ok, nmX6, Or.inr ⟨by decide, fun _ => rfl, fun _ => rfl⟩⟩
theorem lpf_X6_20 : LkPF RX6 20 6 0 700 0 := ⟨rfl, rfl, TX6, 4, tyX6, rfl, by decide, uw6, rfl, (lw_ug w_751 rfl), tyX6_ok, nmX6, Or.inl ⟨rfl, rfl⟩⟩
theorem lpf_X7_10 : LkPF RX7 10 7 8 808 0 := ⟨rfl, rfl, TX7, 13, tyX7, rfl, by decide, uw7, rfl, (lw_ug w_497 rfl), tyX7_ok, nmX7, Or.inl ⟨rfl, rfl⟩⟩
theorem lpf_X7_16 : LkPF RX7 16 7 9 809 0 := ⟨rfl, rfl, TX7, 13, tyX7, rfl, by decide, uw7, rfl, (lw_ug w_499 rfl), tyX7_ok, nmX7, Or.inl ⟨rfl, rfl⟩⟩
theorem lpf_X7_19 : LkPF RX7 19 7 10 810 0 := ⟨rfl, rfl, TX7, 13, tyX7, rfl, by decide, uw7, rfl, (lw_ug w_501 rfl), tyX7_ok, nmX7, Or.inl ⟨rfl, rfl⟩⟩
theorem lpf_X7_22 : LkPF RX7 22 7 11 811 0 := ⟨rfl, rfl, TX7, 13, tyX7, rfl, by decide, uw7, rfl, (lw_ug w_503 rfl), tyX7_ok, nmX7, Or.inl ⟨rfl, rfl⟩⟩
theorem lpf_X7_25 : LkPF RX7 25 7 12 812 0 := ⟨rfl, rfl, TX7, 13, tyX7, rfl, by decide, uw7, rfl, (lw_ug w_505 rfl), tyX7_ok, nmX7, Or.inl ⟨rfl, rfl⟩⟩
theorem lpf_X7_28 : LkPF RX7 28 7 0 800 0 := ⟨rfl, rfl, TX7, 13, tyX7, rfl, by decide, uw7, rfl, (lw_ug w_477 rfl), tyX7_ok, nmX7, Or.inl ⟨rfl, rfl⟩⟩
theorem lpf_X7_31 : LkPF RX7 31 7 1 801 0 := ⟨rfl, rfl, TX7, 13, tyX7, rfl, by decide, uw7, rfl, (lw_ug w_480 rfl), tyX7_ok, nmX7, Or.inl ⟨rfl, rfl⟩⟩
theorem lpf_X7_34 : LkPF RX7 34 7 2 802 0 := ⟨rfl, rfl, TX7, 13, tyX7, rfl, by decide, uw7, rfl, (lw_ug w_482 rfl), tyX7_ok, nmX7, Or.inl ⟨rfl, rfl⟩⟩
theorem lpf_X7_37 : LkPF RX7 37 7 3 803 0 := ⟨rfl, rfl, TX7, 13, tyX7, rfl, by decide, uw7, rfl, (lw_ug w_485 rfl), tyX7_ok, nmX7, Or.inl ⟨rfl, rfl⟩⟩
theorem lpf_X7_40 : LkPF RX7 40 7 4 804 0 := ⟨rfl, rfl, TX7, 13, tyX7, rfl, by decide, uw7, rfl, (lw_ug w_488 rfl), tyX7_ok, nmX7, Or.inl ⟨rfl, rfl⟩⟩
theorem lpf_X7_43 : LkPF RX7 43 7 5 805 0 := ⟨rfl, rfl, TX7, 13, tyX7, rfl, by decide, uw7, rfl, (lw_ug w_490 rfl), tyX7_ok, nmX7, Or.inl ⟨rfl, rfl⟩⟩
theorem lpf_X7_46 : LkPF RX7 46 7 6 806 0 := ⟨rfl, rfl, TX7, 13, tyX7, rfl, by decide, uw7, rfl, (lw_ug w_493 rfl), tyX7_ok, nmX7, Or.inl ⟨rfl, rfl⟩⟩
theorem lpf_X8_11 : LkPF RX8 11 8 4 904 2 := ⟨rfl, rfl, TX8, 8, tyX8, rfl, by decide, uw8, rfl, (lw_ug w_631 rfl), tyX8_ok, nmX8, Or.inr ⟨by decide, fun _ => rfl, fun _ => rfl⟩⟩
theorem lpf_X8_17 : LkPF RX8 17 8 0 900 0 := ⟨rfl, rfl, TX8, 8, tyX8, rfl, by decide, uw8, rfl, (lw_ug w_622 rfl), tyX8_ok, nmX8, Or.inl ⟨rfl, rfl⟩⟩
theorem lpf_X8_21 : LkPF RX8 21 8 1 901 0 := ⟨rfl, rfl, TX8, 8, tyX8, rfl, by decide, uw8, rfl, (lw_ug w_626 rfl), tyX8_ok, nmX8, Or.inl ⟨rfl, rfl⟩⟩
theorem lpf_X8_24 : LkPF RX8 24 8 2 902 0 := ⟨rfl, rfl, TX8, 8, tyX8, rfl, by decide, uw8, rfl, (lw_ug w_628 rfl), tyX8_ok, nmX8, Or.inl ⟨rfl, rfl⟩⟩
theorem lpf_X8_27 : LkPF RX8 27 8 3 903 0 := ⟨rfl, rfl, TX8, 8, tyX8, rfl, by decide, uw8, rfl, (lw_ug w_629 rfl), tyX8_ok, nmX8, Or.inl ⟨rfl, rfl⟩⟩
theorem lpf_X9_11 : LkPF RX9 11 9 0 1000 2 := ⟨rfl, rfl, TX9, 3, tyX9, rfl, by decide, uw9, rfl, (lw_ug w_105 rfl), tyX9_ok, nmX9, Or.inr ⟨by decide, fun _ => rfl, fun _ => rfl⟩⟩
theorem lpf_X9_17 : LkPF RX9 17 9 2 1002 2 := ⟨rfl, rfl, TX9, 3, tyX9, rfl, by decide, uw9, rfl, (lw_ug w_107 rfl), tyX9_ok, nmX9, Or.inr ⟨by decide, fun _ => rfl, fun _ => rfl⟩⟩
theorem lkn_L_7 : LkN RL 7 11 18 := ⟨RX11, TX11, tyX11, rfl, uw11, tyX11_ok, lk_L_7, lb_X11, la_X11, rfl, by decide +kernel⟩
theorem lkn_L_10 : LkN RL 10 12 92 := ⟨RX12, TX12, tyX12, rfl, uw12, tyX12_ok, lk_L_10, lb_X12, la_X12, rfl, by decide +kernel⟩
noncomputable def fX10_init_t (x0 : Nat) (x1 : Int) (x2 : Int) (x3 : Int) (x4 : Int) (x5 : Int) (x6 : Int) (σ : St) : Option (Unit × St) :=
  some ((), sI (sI (sI (sI (sI (sI σ 1100 x0 0 x1) 1101 x0 0 x2) 1102 x0 0 x3) 1103 x0 0 x4) 1104 x0 0 x5) 1105 x0 0 x6)
noncomputable def fX10_init_s0 (x0 : Nat) (x1 : Int) (x2 : Int) (x3 : Int) (x4 : Int) (x5 : Int) (x6 : Int) (σs : St) : Option (Unit × St) :=
  fX10_init_t x0 x1 x2 x3 x4 x5 x6 σs
noncomputable def fX10_init (x0 : Nat) (x1 : Int) (x2 : Int) (x3 : Int) (x4 : Int) (x5 : Int) (x6 : Int) (σ0 : St) : Option (Unit × St) :=
  fX10_init_s0 x0 x1 x2 x3 x4 x5 x6 σ0
set_option maxRecDepth 20000 in
set_option maxHeartbeats 8000000 in
theorem sgX10_init_0 (x0 : Nat) (x1 : Int) (x2 : Int) (x3 : Int) (x4 : Int) (x5 : Int) (x6 : Int) (hx1 : inr x1) (hx2 : inr x2) (hx3 : inr x3) (hx4 : inr x4) (hx5 : inr x5) (hx6 : inr x6) {κ : Cxt} {Q0 : State → Prop} {Xp : Unit × St → Prop} {ad0 : Nat → Nat → Nat} {σ0 : St} (C : Cx κ RX10 cX10_init 7 none 1) (F : isF κ) (I0 : isInit κ) (hcs : csOK κ (0, 0)) (tail : ∀ (ad : Nat → Nat → Nat) (σ : St), x0 < gN σ 10 → Grw σ0 ad0 σ ad → wpO (fX10_init_t x0 x1 x2 x3 x4 x5 x6 σ) Xp → Z κ (0, 0) Q0 4 [(0, vo ad 10 (some x0)), (1, vi x1), (2, vi x2), (3, vi x3), (4, vi x4), (5, vi x5), (6, vi x6)] [] ad σ) : ∀ (ads : Nat → Nat → Nat) (σs : St), x0 < gN σs 10 → Grw σ0 ad0 σs ads → wpO (fX10_init_s0 x0 x1 x2 x3 x4 x5 x6 σs) Xp → Z κ (0, 0) Q0 0 [(0, vo ads 10 (some x0)), (1, vi x1), (2, vi x2), (3, vi x3), (4, vi x4), (5, vi x5), (6, vi x6)] [] ads σs := by
  intro ads σs hx0 hGs h
  unfold fX10_init_s0 at h
  show Z κ (0, 0) Q0 0 [(0, vo ads 10 (some x0)), (1, vi x1), (2, vi x2), (3, vi x3), (4, vi x4), (5, vi x5), (6, vi x6)] [] ads σs
  refine z_aload_n C 0 dX10_init_0 rfl ?_
  refine z_objInit (st := []) C (by decide) lo_X10_3 lo_i lo_c (Nat.le_of_ble_eq_true rfl) dX10_init_1 ?_
  have hGc : Grw σ0 ad0 σs ads := hGs
  exact tail ads σs hx0 hGc h
set_option maxRecDepth 20000 in
set_option maxHeartbeats 8000000 in
theorem ct_X10_init (x0 : Nat) (x1 : Int) (x2 : Int) (x3 : Int) (x4 : Int) (x5 : Int) (x6 : Int) (hx1 : inr x1) (hx2 : inr x2) (hx3 : inr x3) (hx4 : inr x4) (hx5 : inr x5) (hx6 : inr x6) : CtA false yX10_init cX10_init 7 none 1 0 0 (fun ad => [vo ad 10 (some x0), vi x1, vi x2, vi x3, vi x4, vi x5, vi x6]) (fX10_init x0 x1 x2 x3 x4 x5 x6) enV okV (fun σ => x0 < gN σ 10) := by
  refine CtA.of (by decide) (fun ad => Nat.le_of_ble_eq_true rfl) ?_
  intro κ ad0 σ0 X C _ F I0 hcs hx0 h
  have F : isF κ := F rfl
  have I0 : isInit κ := I0 rfl
  have C : Cx κ RX10 cX10_init 7 none 1 := C
  generalize hQ : QmA κ false 0 0 ad0 σ0 enV okV X = Q0
  have tail : ∀ (ad : Nat → Nat → Nat) (σ : St), x0 < gN σ 10 → Grw σ0 ad0 σ ad → wpO (fX10_init_t x0 x1 x2 x3 x4 x5 x6 σ) (fun q => X q.1 q.2) → Z κ (0, 0) Q0 4 [(0, vo ad 10 (some x0)), (1, vi x1), (2, vi x2), (3, vi x3), (4, vi x4), (5, vi x5), (6, vi x6)] [] ad σ := by
    intro ad σ hx0 hG h
    unfold fX10_init_t at h
    refine z_rng (fun hI1 hJ2 => ?_)
    refine z_aload_n C 0 dX10_init_4 rfl ?_
    refine z_iload_n C 1 dX10_init_5 rfl ?_
    refine z_pF I0 C lpf_X10_9 (Or.inl (nNl rfl hx0)) hx1 dX10_init_6 ?_
    refine z_aload_n C 0 dX10_init_9 rfl ?_
    refine z_iload_n C 2 dX10_init_10 rfl ?_
    refine z_pF I0 C lpf_X10_15 (Or.inl (nNl rfl hx0)) hx2 dX10_init_11 ?_
    refine z_aload_n C 0 dX10_init_14 rfl ?_
    refine z_iload_n C 3 dX10_init_15 rfl ?_
    refine z_pF I0 C lpf_X10_18 (Or.inl (nNl rfl hx0)) hx3 dX10_init_16 ?_
    refine z_aload_n C 0 dX10_init_19 rfl ?_
    refine z_iload C 4 dX10_init_20 rfl ?_
    refine z_pF I0 C lpf_X10_21 (Or.inl (nNl rfl hx0)) hx4 dX10_init_22 ?_
    refine z_aload_n C 0 dX10_init_25 rfl ?_
    refine z_iload C 5 dX10_init_26 rfl ?_
    refine z_pF I0 C lpf_X10_24 (Or.inl (nNl rfl hx0)) hx5 dX10_init_28 ?_
    refine z_aload_n C 0 dX10_init_31 rfl ?_
    refine z_iload C 6 dX10_init_32 rfl ?_
    refine z_pF I0 C lpf_X10_27 (Or.inl (nNl rfl hx0)) hx6 dX10_init_34 ?_
    have h := wpO_some.mp h
    rw [← hQ]
    exact z_returnA C dX10_init_37 (hG.eN rfl) h (fun q => by cases q)
  unfold fX10_init at h
  show Z κ (0, 0) Q0 0 [(0, vo ad0 10 (some x0)), (1, vi x1), (2, vi x2), (3, vi x3), (4, vi x4), (5, vi x5), (6, vi x6)] [] ad0 σ0
  exact (sgX10_init_0 x0 x1 x2 x3 x4 x5 x6 hx1 hx2 hx3 hx4 hx5 hx6 C F I0 hcs tail) ad0 σ0 hx0 Grw.rf h
noncomputable def fX7_init_t (x0 : Nat) (x1 : Int) (x2 : Int) (x3 : Int) (x4 : Int) (x5 : Int) (x6 : Int) (x7 : Int) (σ : St) : Option (Unit × St) :=
  some ((), sI (sI (sI (sI (sI (sI (sI (sI (sI (sI (sI (sI σ 808 x0 0 1000000) 809 x0 0 1000000) 810 x0 0 1000000) 811 x0 0 ((-9))) 812 x0 0 ((-9))) 800 x0 0 x1) 801 x0 0 x2) 802 x0 0 x3) 803 x0 0 x4) 804 x0 0 x5) 805 x0 0 x6) 806 x0 0 x7)
noncomputable def fX7_init_s0 (x0 : Nat) (x1 : Int) (x2 : Int) (x3 : Int) (x4 : Int) (x5 : Int) (x6 : Int) (x7 : Int) (σs : St) : Option (Unit × St) :=
  fX7_init_t x0 x1 x2 x3 x4 x5 x6 x7 σs
noncomputable def fX7_init (x0 : Nat) (x1 : Int) (x2 : Int) (x3 : Int) (x4 : Int) (x5 : Int) (x6 : Int) (x7 : Int) (σ0 : St) : Option (Unit × St) :=
  fX7_init_s0 x0 x1 x2 x3 x4 x5 x6 x7 σ0
set_option maxRecDepth 20000 in
set_option maxHeartbeats 8000000 in
theorem sgX7_init_0 (x0 : Nat) (x1 : Int) (x2 : Int) (x3 : Int) (x4 : Int) (x5 : Int) (x6 : Int) (x7 : Int) (hx1 : inr x1) (hx2 : inr x2) (hx3 : inr x3) (hx4 : inr x4) (hx5 : inr x5) (hx6 : inr x6) (hx7 : inr x7) {κ : Cxt} {Q0 : State → Prop} {Xp : Unit × St → Prop} {ad0 : Nat → Nat → Nat} {σ0 : St} (C : Cx κ RX7 cX7_init 8 none 1) (F : isF κ) (I0 : isInit κ) (hcs : csOK κ (0, 0)) (tail : ∀ (ad : Nat → Nat → Nat) (σ : St), x0 < gN σ 7 → Grw σ0 ad0 σ ad → wpO (fX7_init_t x0 x1 x2 x3 x4 x5 x6 x7 σ) Xp → Z κ (0, 0) Q0 4 [(0, vo ad 7 (some x0)), (1, vi x1), (2, vi x2), (3, vi x3), (4, vi x4), (5, vi x5), (6, vi x6), (7, vi x7)] [] ad σ) : ∀ (ads : Nat → Nat → Nat) (σs : St), x0 < gN σs 7 → Grw σ0 ad0 σs ads → wpO (fX7_init_s0 x0 x1 x2 x3 x4 x5 x6 x7 σs) Xp → Z κ (0, 0) Q0 0 [(0, vo ads 7 (some x0)), (1, vi x1), (2, vi x2), (3, vi x3), (4, vi x4), (5, vi x5), (6, vi x6), (7, vi x7)] [] ads σs := by
  intro ads σs hx0 hGs h
  unfold fX7_init_s0 at h
  show Z κ (0, 0) Q0 0 [(0, vo ads 7 (some x0)), (1, vi x1), (2, vi x2), (3, vi x3), (4, vi x4), (5, vi x5), (6, vi x6), (7, vi x7)] [] ads σs
  refine z_aload_n C 0 dX7_init_0 rfl ?_
  refine z_objInit (st := []) C (by decide) lo_X7_3 lo_i lo_c (Nat.le_of_ble_eq_true rfl) dX7_init_1 ?_
  have hGc : Grw σ0 ad0 σs ads := hGs
  exact tail ads σs hx0 hGc h
set_option maxRecDepth 20000 in
set_option maxHeartbeats 8000000 in
theorem ct_X7_init (x0 : Nat) (x1 : Int) (x2 : Int) (x3 : Int) (x4 : Int) (x5 : Int) (x6 : Int) (x7 : Int) (hx1 : inr x1) (hx2 : inr x2) (hx3 : inr x3) (hx4 : inr x4) (hx5 : inr x5) (hx6 : inr x6) (hx7 : inr x7) : CtA false yX7_init cX7_init 8 none 1 0 0 (fun ad => [vo ad 7 (some x0), vi x1, vi x2, vi x3, vi x4, vi x5, vi x6, vi x7]) (fX7_init x0 x1 x2 x3 x4 x5 x6 x7) enV okV (fun σ => x0 < gN σ 7) := by
  refine CtA.of (by decide) (fun ad => Nat.le_of_ble_eq_true rfl) ?_
  intro κ ad0 σ0 X C _ F I0 hcs hx0 h
  have F : isF κ := F rfl
  have I0 : isInit κ := I0 rfl
  have C : Cx κ RX7 cX7_init 8 none 1 := C
  generalize hQ : QmA κ false 0 0 ad0 σ0 enV okV X = Q0
  have tail : ∀ (ad : Nat → Nat → Nat) (σ : St), x0 < gN σ 7 → Grw σ0 ad0 σ ad → wpO (fX7_init_t x0 x1 x2 x3 x4 x5 x6 x7 σ) (fun q => X q.1 q.2) → Z κ (0, 0) Q0 4 [(0, vo ad 7 (some x0)), (1, vi x1), (2, vi x2), (3, vi x3), (4, vi x4), (5, vi x5), (6, vi x6), (7, vi x7)] [] ad σ := by
    intro ad σ hx0 hG h
    unfold fX7_init_t at h
    refine z_rng (fun hI1 hJ2 => ?_)
    refine z_aload_n C 0 dX7_init_4 rfl ?_
    refine z_ldc C lc_X7_9 dX7_init_5 ?_
    refine z_pF I0 C lpf_X7_10 (Or.inl (nNl rfl hx0)) (by decide) dX7_init_7 ?_
    refine z_aload_n C 0 dX7_init_10 rfl ?_
    refine z_ldc C lc_X7_9 dX7_init_11 ?_
    refine z_pF I0 C lpf_X7_16 (Or.inl (nNl rfl hx0)) (by decide) dX7_init_13 ?_
    refine z_aload_n C 0 dX7_init_16 rfl ?_
    refine z_ldc C lc_X7_9 dX7_init_17 ?_
    refine z_pF I0 C lpf_X7_19 (Or.inl (nNl rfl hx0)) (by decide) dX7_init_19 ?_
    refine z_aload_n C 0 dX7_init_22 rfl ?_
    refine z_bipush C dX7_init_23 (by decide) ?_
    refine z_pF I0 C lpf_X7_22 (Or.inl (nNl rfl hx0)) (by decide) dX7_init_25 ?_
    refine z_aload_n C 0 dX7_init_28 rfl ?_
    refine z_bipush C dX7_init_29 (by decide) ?_
    refine z_pF I0 C lpf_X7_25 (Or.inl (nNl rfl hx0)) (by decide) dX7_init_31 ?_
    refine z_aload_n C 0 dX7_init_34 rfl ?_
    refine z_iload_n C 1 dX7_init_35 rfl ?_
    refine z_pF I0 C lpf_X7_28 (Or.inl (nNl rfl hx0)) hx1 dX7_init_36 ?_
    refine z_aload_n C 0 dX7_init_39 rfl ?_
    refine z_iload_n C 2 dX7_init_40 rfl ?_
    refine z_pF I0 C lpf_X7_31 (Or.inl (nNl rfl hx0)) hx2 dX7_init_41 ?_
    refine z_aload_n C 0 dX7_init_44 rfl ?_
    refine z_iload_n C 3 dX7_init_45 rfl ?_
    refine z_pF I0 C lpf_X7_34 (Or.inl (nNl rfl hx0)) hx3 dX7_init_46 ?_
    refine z_aload_n C 0 dX7_init_49 rfl ?_
    refine z_iload C 4 dX7_init_50 rfl ?_
    refine z_pF I0 C lpf_X7_37 (Or.inl (nNl rfl hx0)) hx4 dX7_init_52 ?_
    refine z_aload_n C 0 dX7_init_55 rfl ?_
    refine z_iload C 5 dX7_init_56 rfl ?_
    refine z_pF I0 C lpf_X7_40 (Or.inl (nNl rfl hx0)) hx5 dX7_init_58 ?_
    refine z_aload_n C 0 dX7_init_61 rfl ?_
    refine z_iload C 6 dX7_init_62 rfl ?_
    refine z_pF I0 C lpf_X7_43 (Or.inl (nNl rfl hx0)) hx6 dX7_init_64 ?_
    refine z_aload_n C 0 dX7_init_67 rfl ?_
    refine z_iload C 7 dX7_init_68 rfl ?_
    refine z_pF I0 C lpf_X7_46 (Or.inl (nNl rfl hx0)) hx7 dX7_init_70 ?_
    have h := wpO_some.mp h
    rw [← hQ]
    exact z_returnA C dX7_init_73 (hG.eN rfl) h (fun q => by cases q)
  unfold fX7_init at h
  show Z κ (0, 0) Q0 0 [(0, vo ad0 7 (some x0)), (1, vi x1), (2, vi x2), (3, vi x3), (4, vi x4), (5, vi x5), (6, vi x6), (7, vi x7)] [] ad0 σ0
  exact (sgX7_init_0 x0 x1 x2 x3 x4 x5 x6 x7 hx1 hx2 hx3 hx4 hx5 hx6 hx7 C F I0 hcs tail) ad0 σ0 hx0 Grw.rf h
noncomputable def fX5_init_t (x0 : Nat) (x1 : Int) (x2 : Int) (x3 : Int) (x4 : Int) (x5 : Int) (σ : St) : Option (Unit × St) :=
  some ((), sI (sI (sI (sI (sI σ 600 x0 0 x1) 601 x0 0 x2) 602 x0 0 x3) 603 x0 0 x4) 604 x0 0 x5)
noncomputable def fX5_init_s0 (x0 : Nat) (x1 : Int) (x2 : Int) (x3 : Int) (x4 : Int) (x5 : Int) (σs : St) : Option (Unit × St) :=
  fX5_init_t x0 x1 x2 x3 x4 x5 σs
noncomputable def fX5_init (x0 : Nat) (x1 : Int) (x2 : Int) (x3 : Int) (x4 : Int) (x5 : Int) (σ0 : St) : Option (Unit × St) :=
  fX5_init_s0 x0 x1 x2 x3 x4 x5 σ0
set_option maxRecDepth 20000 in
set_option maxHeartbeats 8000000 in
theorem sgX5_init_0 (x0 : Nat) (x1 : Int) (x2 : Int) (x3 : Int) (x4 : Int) (x5 : Int) (hx1 : inr x1) (hx2 : inr x2) (hx3 : inr x3) (hx4 : inr x4) (hx5 : inr x5) {κ : Cxt} {Q0 : State → Prop} {Xp : Unit × St → Prop} {ad0 : Nat → Nat → Nat} {σ0 : St} (C : Cx κ RX5 cX5_init 6 none 1) (F : isF κ) (I0 : isInit κ) (hcs : csOK κ (0, 0)) (tail : ∀ (ad : Nat → Nat → Nat) (σ : St), x0 < gN σ 5 → Grw σ0 ad0 σ ad → wpO (fX5_init_t x0 x1 x2 x3 x4 x5 σ) Xp → Z κ (0, 0) Q0 4 [(0, vo ad 5 (some x0)), (1, vi x1), (2, vi x2), (3, vi x3), (4, vi x4), (5, vi x5)] [] ad σ) : ∀ (ads : Nat → Nat → Nat) (σs : St), x0 < gN σs 5 → Grw σ0 ad0 σs ads → wpO (fX5_init_s0 x0 x1 x2 x3 x4 x5 σs) Xp → Z κ (0, 0) Q0 0 [(0, vo ads 5 (some x0)), (1, vi x1), (2, vi x2), (3, vi x3), (4, vi x4), (5, vi x5)] [] ads σs := by
  intro ads σs hx0 hGs h
  unfold fX5_init_s0 at h
  show Z κ (0, 0) Q0 0 [(0, vo ads 5 (some x0)), (1, vi x1), (2, vi x2), (3, vi x3), (4, vi x4), (5, vi x5)] [] ads σs
  refine z_aload_n C 0 dX5_init_0 rfl ?_
  refine z_objInit (st := []) C (by decide) lo_X5_1 lo_i lo_c (Nat.le_of_ble_eq_true rfl) dX5_init_1 ?_
  have hGc : Grw σ0 ad0 σs ads := hGs
  exact tail ads σs hx0 hGc h
set_option maxRecDepth 20000 in
set_option maxHeartbeats 8000000 in
theorem ct_X5_init (x0 : Nat) (x1 : Int) (x2 : Int) (x3 : Int) (x4 : Int) (x5 : Int) (hx1 : inr x1) (hx2 : inr x2) (hx3 : inr x3) (hx4 : inr x4) (hx5 : inr x5) : CtA false yX5_init cX5_init 6 none 1 0 0 (fun ad => [vo ad 5 (some x0), vi x1, vi x2, vi x3, vi x4, vi x5]) (fX5_init x0 x1 x2 x3 x4 x5) enV okV (fun σ => x0 < gN σ 5) := by
  refine CtA.of (by decide) (fun ad => Nat.le_of_ble_eq_true rfl) ?_
  intro κ ad0 σ0 X C _ F I0 hcs hx0 h
  have F : isF κ := F rfl
  have I0 : isInit κ := I0 rfl
  have C : Cx κ RX5 cX5_init 6 none 1 := C
  generalize hQ : QmA κ false 0 0 ad0 σ0 enV okV X = Q0
  have tail : ∀ (ad : Nat → Nat → Nat) (σ : St), x0 < gN σ 5 → Grw σ0 ad0 σ ad → wpO (fX5_init_t x0 x1 x2 x3 x4 x5 σ) (fun q => X q.1 q.2) → Z κ (0, 0) Q0 4 [(0, vo ad 5 (some x0)), (1, vi x1), (2, vi x2), (3, vi x3), (4, vi x4), (5, vi x5)] [] ad σ := by
    intro ad σ hx0 hG h
    unfold fX5_init_t at h
    refine z_rng (fun hI1 hJ2 => ?_)
    refine z_aload_n C 0 dX5_init_4 rfl ?_
    refine z_iload_n C 1 dX5_init_5 rfl ?_
    refine z_pF I0 C lpf_X5_7 (Or.inl (nNl rfl hx0)) hx1 dX5_init_6 ?_
    refine z_aload_n C 0 dX5_init_9 rfl ?_
    refine z_iload_n C 2 dX5_init_10 rfl ?_
    refine z_pF I0 C lpf_X5_13 (Or.inl (nNl rfl hx0)) hx2 dX5_init_11 ?_
    refine z_aload_n C 0 dX5_init_14 rfl ?_
    refine z_iload_n C 3 dX5_init_15 rfl ?_
    refine z_pF I0 C lpf_X5_16 (Or.inl (nNl rfl hx0)) hx3 dX5_init_16 ?_
    refine z_aload_n C 0 dX5_init_19 rfl ?_
    refine z_iload C 4 dX5_init_20 rfl ?_
    refine z_pF I0 C lpf_X5_19 (Or.inl (nNl rfl hx0)) hx4 dX5_init_22 ?_
    refine z_aload_n C 0 dX5_init_25 rfl ?_
    refine z_iload C 5 dX5_init_26 rfl ?_
    refine z_pF I0 C lpf_X5_22 (Or.inl (nNl rfl hx0)) hx5 dX5_init_28 ?_
    have h := wpO_some.mp h
    rw [← hQ]
    exact z_returnA C dX5_init_31 (hG.eN rfl) h (fun q => by cases q)
  unfold fX5_init at h
  show Z κ (0, 0) Q0 0 [(0, vo ad0 5 (some x0)), (1, vi x1), (2, vi x2), (3, vi x3), (4, vi x4), (5, vi x5)] [] ad0 σ0
  exact (sgX5_init_0 x0 x1 x2 x3 x4 x5 hx1 hx2 hx3 hx4 hx5 C F I0 hcs tail) ad0 σ0 hx0 Grw.rf h
noncomputable def fX8_init_t (x0 : Nat) (x1 : Int) (x2 : Int) (x3 : Int) (x4 : Int) (σ : St) : Option (Unit × St) :=
  some ((), sI (sI (sI (sI σ 900 x0 0 x1) 901 x0 0 x2) 902 x0 0 x3) 903 x0 0 x4)
noncomputable def fX8_init_s0 (x0 : Nat) (x1 : Int) (x2 : Int) (x3 : Int) (x4 : Int) (σs : St) : Option (Unit × St) :=
  lt (nwA σs 904) (fun σ105 => lt (gN σs 904) (fun j5 => fX8_init_t x0 x1 x2 x3 x4 (sP σ105 5904 x0 0 (some j5))))
noncomputable def fX8_init (x0 : Nat) (x1 : Int) (x2 : Int) (x3 : Int) (x4 : Int) (σ0 : St) : Option (Unit × St) :=
  fX8_init_s0 x0 x1 x2 x3 x4 σ0
set_option maxRecDepth 20000 in
set_option maxHeartbeats 8000000 in
theorem sgX8_init_0 (x0 : Nat) (x1 : Int) (x2 : Int) (x3 : Int) (x4 : Int) (hx1 : inr x1) (hx2 : inr x2) (hx3 : inr x3) (hx4 : inr x4) {κ : Cxt} {Q0 : State → Prop} {Xp : Unit × St → Prop} {ad0 : Nat → Nat → Nat} {σ0 : St} (C : Cx κ RX8 cX8_init 5 none 1) (F : isF κ) (I0 : isInit κ) (hcs : csOK κ (1, 6)) (tail : ∀ (ad : Nat → Nat → Nat) (σ : St), x0 < gN σ 8 → Grw σ0 ad0 σ ad → wpO (fX8_init_t x0 x1 x2 x3 x4 σ) Xp → Z κ (1, 6) Q0 13 [(0, vo ad 8 (some x0)), (1, vi x1), (2, vi x2), (3, vi x3), (4, vi x4)] [] ad σ) : ∀ (ads : Nat → Nat → Nat) (σs : St), x0 < gN σs 8 → Grw σ0 ad0 σs ads → wpO (fX8_init_s0 x0 x1 x2 x3 x4 σs) Xp → Z κ (0, 0) Q0 0 [(0, vo ads 8 (some x0)), (1, vi x1), (2, vi x2), (3, vi x3), (4, vi x4)] [] ads σs := by
  intro ads σs hx0 hGs h
  unfold fX8_init_s0 at h
  show Z κ (0, 0) Q0 0 [(0, vo ads 8 (some x0)), (1, vi x1), (2, vi x2), (3, vi x3), (4, vi x4)] [] ads σs
  refine z_aload_n C 0 dX8_init_0 rfl ?_
  refine z_objInit (st := []) C (by decide) lo_X8_3 lo_i lo_c (Nat.le_of_ble_eq_true rfl) dX8_init_1 ?_
  refine z_aload_n C 0 dX8_init_4 rfl ?_
  refine z_bipush C dX8_init_5 (by decide) ?_
  refine z_newref (K := 7) (t0 := 4) C ar_904 lk_X8_9 (by decide) (fun _ => rfl) rfl (by decide) (fun q => noT F q) (csOK_le hcs (by decide) (by decide)) dX8_init_7 (fun ad105 hA5 => ?_)
  rw [voA (K2 := 8) (r := some x0) hA5 (by decide)]
  have hGc : Grw σ0 ad0 σs ads := hGs
  have hG5 := hGc.nwA hA5
  have hN5 : gN σs 904 < gN (nwA σs 904) 904 := nwA_lt
  generalize e5 : nwA σs 904 = σ105 at hG5 hN5 ⊢
  have h := lt_elim h σ105 e5
  generalize e5j : gN σs 904 = j5 at hN5 ⊢
  have h := lt_elim h j5 e5j
  have hp3 : x0 < gN σ105 8 := (grN e5 hx0 (by decide))
  show Z κ (1, 6) Q0 10 [(0, vo ad105 8 (some x0)), (1, vi x1), (2, vi x2), (3, vi x3), (4, vi x4)] [vo ad105 904 (some j5), vo ad105 8 (some x0)] ad105 σ105
  refine z_pR (K2 := 904) I0 F C lpf_X8_11 (by decide) rfl (Or.inl hp3) hN5 dX8_init_10 ?_
  show Z κ (1, 6) Q0 13 _ _ _ (sP σ105 5904 x0 0 (some j5))
  have hGc : Grw σ0 ad0 (sP σ105 5904 x0 0 (some j5)) ad105 := hG5
  exact tail ad105 (sP σ105 5904 x0 0 (some j5)) hp3 hGc h
set_option maxRecDepth 20000 in
set_option maxHeartbeats 8000000 in
theorem ct_X8_init (x0 : Nat) (x1 : Int) (x2 : Int) (x3 : Int) (x4 : Int) (hx1 : inr x1) (hx2 : inr x2) (hx3 : inr x3) (hx4 : inr x4) : CtA false yX8_init cX8_init 5 none 1 1 6 (fun ad => [vo ad 8 (some x0), vi x1, vi x2, vi x3, vi x4]) (fX8_init x0 x1 x2 x3 x4) enV okV (fun σ => x0 < gN σ 8) := by
  refine CtA.of (by decide) (fun ad => Nat.le_of_ble_eq_true rfl) ?_
  intro κ ad0 σ0 X C _ F I0 hcs hx0 h
  have F : isF κ := F rfl
  have I0 : isInit κ := I0 rfl
  have C : Cx κ RX8 cX8_init 5 none 1 := C
  generalize hQ : QmA κ false 1 6 ad0 σ0 enV okV X = Q0
  have tail : ∀ (ad : Nat → Nat → Nat) (σ : St), x0 < gN σ 8 → Grw σ0 ad0 σ ad → wpO (fX8_init_t x0 x1 x2 x3 x4 σ) (fun q => X q.1 q.2) → Z κ (1, 6) Q0 13 [(0, vo ad 8 (some x0)), (1, vi x1), (2, vi x2), (3, vi x3), (4, vi x4)] [] ad σ := by
    intro ad σ hx0 hG h
    unfold fX8_init_t at h
    refine z_rng (fun hI1 hJ2 => ?_)
    refine z_aload_n C 0 dX8_init_13 rfl ?_
    refine z_iload_n C 1 dX8_init_14 rfl ?_
    refine z_pF I0 C lpf_X8_17 (Or.inl (nNl rfl hx0)) hx1 dX8_init_15 ?_
    refine z_aload_n C 0 dX8_init_18 rfl ?_
    refine z_iload_n C 2 dX8_init_19 rfl ?_
    refine z_pF I0 C lpf_X8_21 (Or.inl (nNl rfl hx0)) hx2 dX8_init_20 ?_
    refine z_aload_n C 0 dX8_init_23 rfl ?_
    refine z_iload_n C 3 dX8_init_24 rfl ?_
    refine z_pF I0 C lpf_X8_24 (Or.inl (nNl rfl hx0)) hx3 dX8_init_25 ?_
    refine z_aload_n C 0 dX8_init_28 rfl ?_
    refine z_iload C 4 dX8_init_29 rfl ?_
    refine z_pF I0 C lpf_X8_27 (Or.inl (nNl rfl hx0)) hx4 dX8_init_31 ?_
    have h := wpO_some.mp h
    rw [← hQ]
    exact z_returnA C dX8_init_34 (hG.eN rfl) h (fun q => by cases q)
  unfold fX8_init at h
  show Z κ (0, 0) Q0 0 [(0, vo ad0 8 (some x0)), (1, vi x1), (2, vi x2), (3, vi x3), (4, vi x4)] [] ad0 σ0
  exact (sgX8_init_0 x0 x1 x2 x3 x4 hx1 hx2 hx3 hx4 C F I0 hcs tail) ad0 σ0 hx0 Grw.rf h
noncomputable def fX6_init_t (x0 : Nat) (x1 : Int) (σ : St) : Option (Unit × St) :=
  some ((), sI σ 700 x0 0 x1)
noncomputable def fX6_init_s0 (x0 : Nat) (x1 : Int) (σs : St) : Option (Unit × St) :=
  lt (nwA (sI σs 701 x0 0 1000000) 702) (fun σ108 => lt (gN (sI σs 701 x0 0 1000000) 702) (fun j8 => fX6_init_t x0 x1 (sP σ108 5702 x0 0 (some j8))))
noncomputable def fX6_init (x0 : Nat) (x1 : Int) (σ0 : St) : Option (Unit × St) :=
  fX6_init_s0 x0 x1 σ0
set_option maxRecDepth 20000 in
set_option maxHeartbeats 8000000 in
theorem sgX6_init_0 (x0 : Nat) (x1 : Int) (hx1 : inr x1) {κ : Cxt} {Q0 : State → Prop} {Xp : Unit × St → Prop} {ad0 : Nat → Nat → Nat} {σ0 : St} (C : Cx κ RX6 cX6_init 2 none 1) (F : isF κ) (I0 : isInit κ) (hcs : csOK κ (1, 80)) (tail : ∀ (ad : Nat → Nat → Nat) (σ : St), x0 < gN σ 6 → Grw σ0 ad0 σ ad → wpO (fX6_init_t x0 x1 σ) Xp → Z κ (1, 80) Q0 18 [(0, vo ad 6 (some x0)), (1, vi x1)] [] ad σ) : ∀ (ads : Nat → Nat → Nat) (σs : St), x0 < gN σs 6 → Grw σ0 ad0 σs ads → wpO (fX6_init_s0 x0 x1 σs) Xp → Z κ (0, 0) Q0 0 [(0, vo ads 6 (some x0)), (1, vi x1)] [] ads σs := by
  intro ads σs hx0 hGs h
  unfold fX6_init_s0 at h
  show Z κ (0, 0) Q0 0 [(0, vo ads 6 (some x0)), (1, vi x1)] [] ads σs
  refine z_aload_n C 0 dX6_init_0 rfl ?_
  refine z_objInit (st := []) C (by decide) lo_X6_3 lo_i lo_c (Nat.le_of_ble_eq_true rfl) dX6_init_1 ?_
  refine z_aload_n C 0 dX6_init_4 rfl ?_
  refine z_ldc C lc_X6_9 dX6_init_5 ?_
  refine z_pF I0 C lpf_X6_10 (Or.inl hx0) (by decide) dX6_init_7 ?_
  refine z_aload_n C 0 dX6_init_10 rfl ?_
  refine z_bipush C dX6_init_11 (by decide) ?_
  refine z_newarr (atype := .int) (t0 := 0) C ar_702 rfl lac_int (fun _ => rfl) (by decide) rfl (by decide) (fun q => noT F q) (csOK_le hcs (by decide) (by decide)) dX6_init_13 (fun ad108 hA8 => ?_)
  rw [voA (K2 := 6) (r := some x0) hA8 (by decide)]
  have hGc : Grw σ0 ad0 (sI σs 701 x0 0 1000000) ads := hGs
  have hG8 := hGc.nwA hA8
  have hN8 : gN (sI σs 701 x0 0 1000000) 702 < gN (nwA (sI σs 701 x0 0 1000000) 702) 702 := nwA_lt
  generalize e8 : nwA (sI σs 701 x0 0 1000000) 702 = σ108 at hG8 hN8 ⊢
  have h := lt_elim h σ108 e8
  generalize e8j : gN (sI σs 701 x0 0 1000000) 702 = j8 at hN8 ⊢
  have h := lt_elim h j8 e8j
  have hp3 : x0 < gN σ108 6 := (grN e8 hx0 (by decide))
  show Z κ (1, 80) Q0 15 [(0, vo ad108 6 (some x0)), (1, vi x1)] [vo ad108 702 (some j8), vo ad108 6 (some x0)] ad108 σ108
  refine z_pR (K2 := 702) I0 F C lpf_X6_16 (by decide) rfl (Or.inl hp3) hN8 dX6_init_15 ?_
  show Z κ (1, 80) Q0 18 _ _ _ (sP σ108 5702 x0 0 (some j8))
  have hGc : Grw σ0 ad0 (sP σ108 5702 x0 0 (some j8)) ad108 := hG8
  exact tail ad108 (sP σ108 5702 x0 0 (some j8)) hp3 hGc h
set_option maxRecDepth 20000 in
set_option maxHeartbeats 8000000 in
theorem ct_X6_init (x0 : Nat) (x1 : Int) (hx1 : inr x1) : CtA false yX6_init cX6_init 2 none 1 1 80 (fun ad => [vo ad 6 (some x0), vi x1]) (fX6_init x0 x1) enV okV (fun σ => x0 < gN σ 6) := by
  refine CtA.of (by decide) (fun ad => Nat.le_of_ble_eq_true rfl) ?_
  intro κ ad0 σ0 X C _ F I0 hcs hx0 h
  have F : isF κ := F rfl
  have I0 : isInit κ := I0 rfl
  have C : Cx κ RX6 cX6_init 2 none 1 := C
  generalize hQ : QmA κ false 1 80 ad0 σ0 enV okV X = Q0
  have tail : ∀ (ad : Nat → Nat → Nat) (σ : St), x0 < gN σ 6 → Grw σ0 ad0 σ ad → wpO (fX6_init_t x0 x1 σ) (fun q => X q.1 q.2) → Z κ (1, 80) Q0 18 [(0, vo ad 6 (some x0)), (1, vi x1)] [] ad σ := by
    intro ad σ hx0 hG h
    unfold fX6_init_t at h
    refine z_rng (fun hI1 hJ2 => ?_)
    refine z_aload_n C 0 dX6_init_18 rfl ?_
    refine z_iload_n C 1 dX6_init_19 rfl ?_
    refine z_pF I0 C lpf_X6_20 (Or.inl (nNl rfl hx0)) hx1 dX6_init_20 ?_
    have h := wpO_some.mp h
    rw [← hQ]
    exact z_returnA C dX6_init_23 (hG.eN rfl) h (fun q => by cases q)
  unfold fX6_init at h
  show Z κ (0, 0) Q0 0 [(0, vo ad0 6 (some x0)), (1, vi x1)] [] ad0 σ0
  exact (sgX6_init_0 x0 x1 hx1 C F I0 hcs tail) ad0 σ0 hx0 Grw.rf h
noncomputable def fX9_init_t (x0 : Nat) (σ : St) : Option (Unit × St) :=
  some ((), σ)
noncomputable def fX9_init_s0 (x0 : Nat) (σs : St) : Option (Unit × St) :=
  lt (nwA σs 1000) (fun σ105 => lt (gN σs 1000) (fun j5 => lt (nwA (sP σ105 6000 x0 0 (some j5)) 1002) (fun σ109 => lt (gN (sP σ105 6000 x0 0 (some j5)) 1002) (fun j9 => fX9_init_t x0 (sP σ109 6002 x0 0 (some j9))))))
noncomputable def fX9_init (x0 : Nat) (σ0 : St) : Option (Unit × St) :=
  fX9_init_s0 x0 σ0
set_option maxRecDepth 20000 in
set_option maxHeartbeats 8000000 in
theorem sgX9_init_0 (x0 : Nat) {κ : Cxt} {Q0 : State → Prop} {Xp : Unit × St → Prop} {ad0 : Nat → Nat → Nat} {σ0 : St} (C : Cx κ RX9 cX9_init 1 none 1) (F : isF κ) (I0 : isInit κ) (hcs : csOK κ (2, 32)) (tail : ∀ (ad : Nat → Nat → Nat) (σ : St), x0 < gN σ 9 → Grw σ0 ad0 σ ad → wpO (fX9_init_t x0 σ) Xp → Z κ (2, 32) Q0 21 [(0, vo ad 9 (some x0))] [] ad σ) : ∀ (ads : Nat → Nat → Nat) (σs : St), x0 < gN σs 9 → Grw σ0 ad0 σs ads → wpO (fX9_init_s0 x0 σs) Xp → Z κ (0, 0) Q0 0 [(0, vo ads 9 (some x0))] [] ads σs := by
  intro ads σs hx0 hGs h
  unfold fX9_init_s0 at h
  show Z κ (0, 0) Q0 0 [(0, vo ads 9 (some x0))] [] ads σs
  refine z_aload_n C 0 dX9_init_0 rfl ?_
  refine z_objInit (st := []) C (by decide) lo_X9_3 lo_i lo_c (Nat.le_of_ble_eq_true rfl) dX9_init_1 ?_
  refine z_aload_n C 0 dX9_init_4 rfl ?_
  refine z_bipush C dX9_init_5 (by decide) ?_
  refine z_newref (K := 10) (t0 := 3) C ar_1000 lk_X9_9 (by decide) (fun _ => rfl) rfl (by decide) (fun q => noT F q) (csOK_le hcs (by decide) (by decide)) dX9_init_7 (fun ad105 hA5 => ?_)
  rw [voA (K2 := 9) (r := some x0) hA5 (by decide)]
  have hGc : Grw σ0 ad0 σs ads := hGs
  have hG5 := hGc.nwA hA5
  have hN5 : gN σs 1000 < gN (nwA σs 1000) 1000 := nwA_lt
  generalize e5 : nwA σs 1000 = σ105 at hG5 hN5 ⊢
  have h := lt_elim h σ105 e5
  generalize e5j : gN σs 1000 = j5 at hN5 ⊢
  have h := lt_elim h j5 e5j
  have hp3 : x0 < gN σ105 9 := (grN e5 hx0 (by decide))
  show Z κ (1, 24) Q0 10 [(0, vo ad105 9 (some x0))] [vo ad105 1000 (some j5), vo ad105 9 (some x0)] ad105 σ105
  refine z_pR (K2 := 1000) I0 F C lpf_X9_11 (by decide) rfl (Or.inl hp3) hN5 dX9_init_10 ?_
  show Z κ (1, 24) Q0 13 _ _ _ (sP σ105 6000 x0 0 (some j5))
  refine z_aload_n C 0 dX9_init_13 rfl ?_
  refine z_bipush C dX9_init_14 (by decide) ?_
  refine z_newarr (atype := .int) (t0 := 0) C ar_1002 rfl lac_int (fun _ => rfl) (by decide) rfl (by decide) (fun q => noT F q) (csOK_le hcs (by decide) (by decide)) dX9_init_16 (fun ad109 hA9 => ?_)
  rw [voA (K2 := 9) (r := some x0) hA9 (by decide)]
  have hGc : Grw σ0 ad0 (sP σ105 6000 x0 0 (some j5)) ad105 := hG5
  have hG9 := hGc.nwA hA9
  have hN9 : gN (sP σ105 6000 x0 0 (some j5)) 1002 < gN (nwA (sP σ105 6000 x0 0 (some j5)) 1002) 1002 := nwA_lt
  generalize e9 : nwA (sP σ105 6000 x0 0 (some j5)) 1002 = σ109 at hG9 hN9 ⊢
  have h := lt_elim h σ109 e9
  generalize e9j : gN (sP σ105 6000 x0 0 (some j5)) 1002 = j9 at hN9 ⊢
  have h := lt_elim h j9 e9j
  have hp4 : x0 < gN σ109 9 := (grN e9 hp3 (by decide))
  show Z κ (2, 32) Q0 18 [(0, vo ad109 9 (some x0))] [vo ad109 1002 (some j9), vo ad109 9 (some x0)] ad109 σ109
  refine z_pR (K2 := 1002) I0 F C lpf_X9_17 (by decide) rfl (Or.inl hp4) hN9 dX9_init_18 ?_
  show Z κ (2, 32) Q0 21 _ _ _ (sP σ109 6002 x0 0 (some j9))
  have hGc : Grw σ0 ad0 (sP σ109 6002 x0 0 (some j9)) ad109 := hG9
  exact tail ad109 (sP σ109 6002 x0 0 (some j9)) hp4 hGc h
set_option maxRecDepth 20000 in
set_option maxHeartbeats 8000000 in
theorem ct_X9_init (x0 : Nat) : CtA false yX9_init cX9_init 1 none 1 2 32 (fun ad => [vo ad 9 (some x0)]) (fX9_init x0) enV okV (fun σ => x0 < gN σ 9) := by
  refine CtA.of (by decide) (fun ad => Nat.le_of_ble_eq_true rfl) ?_
  intro κ ad0 σ0 X C _ F I0 hcs hx0 h
  have F : isF κ := F rfl
  have I0 : isInit κ := I0 rfl
  have C : Cx κ RX9 cX9_init 1 none 1 := C
  generalize hQ : QmA κ false 2 32 ad0 σ0 enV okV X = Q0
  have tail : ∀ (ad : Nat → Nat → Nat) (σ : St), x0 < gN σ 9 → Grw σ0 ad0 σ ad → wpO (fX9_init_t x0 σ) (fun q => X q.1 q.2) → Z κ (2, 32) Q0 21 [(0, vo ad 9 (some x0))] [] ad σ := by
    intro ad σ hx0 hG h
    unfold fX9_init_t at h
    refine z_rng (fun hI1 hJ2 => ?_)
    have h := wpO_some.mp h
    rw [← hQ]
    exact z_returnA C dX9_init_21 (hG.eN rfl) h (fun q => by cases q)
  unfold fX9_init at h
  show Z κ (0, 0) Q0 0 [(0, vo ad0 9 (some x0))] [] ad0 σ0
  exact (sgX9_init_0 x0 C F I0 hcs tail) ad0 σ0 hx0 Grw.rf h
noncomputable def fX1_init_t (x0 : Nat) (σ : St) : Option (Unit × St) :=
  some ((), σ)
noncomputable def fX1_init_s0 (x0 : Nat) (σs : St) : Option (Unit × St) :=
  lt (nwA σs 200) (fun σ105 => lt (gN σs 200) (fun j5 => lt (nwA (sP (sI (sI (sI (sI (sI (sI (sI (sI σ105 200 j5 0 255) 200 j5 1 255) 200 j5 2 255) 200 j5 3 255) 200 j5 4 255) 200 j5 5 255) 200 j5 6 255) 200 j5 7 255) 5200 x0 0 (some j5)) 201) (fun σ141 => lt (gN (sP (sI (sI (sI (sI (sI (sI (sI (sI σ105 200 j5 0 255) 200 j5 1 255) 200 j5 2 255) 200 j5 3 255) 200 j5 4 255) 200 j5 5 255) 200 j5 6 255) 200 j5 7 255) 5200 x0 0 (some j5)) 201) (fun j41 => lt (nwA (sP σ141 5201 x0 0 (some j41)) 202) (fun σ145 => lt (gN (sP σ141 5201 x0 0 (some j41)) 202) (fun j45 => fX1_init_t x0 (sP (sI (sI (sI (sI (sI (sI (sI (sI σ145 202 j45 0 364) 202 j45 1 364) 202 j45 2 364) 202 j45 3 364) 202 j45 4 364) 202 j45 5 364) 202 j45 6 364) 202 j45 7 364) 5202 x0 0 (some j45))))))))
noncomputable def fX1_init (x0 : Nat) (σ0 : St) : Option (Unit × St) :=
  fX1_init_s0 x0 σ0
set_option maxRecDepth 20000 in
set_option maxHeartbeats 8000000 in
theorem sgX1_init_0 (x0 : Nat) {κ : Cxt} {Q0 : State → Prop} {Xp : Unit × St → Prop} {ad0 : Nat → Nat → Nat} {σ0 : St} (C : Cx κ RX1 cX1_init 1 none 1) (F : isF κ) (I0 : isInit κ) (hcs : csOK κ (3, 24)) (tail : ∀ (ad : Nat → Nat → Nat) (σ : St), x0 < gN σ 1 → Grw σ0 ad0 σ ad → wpO (fX1_init_t x0 σ) Xp → Z κ (3, 24) Q0 128 [(0, vo ad 1 (some x0))] [] ad σ) : ∀ (ads : Nat → Nat → Nat) (σs : St), x0 < gN σs 1 → Grw σ0 ad0 σs ads → wpO (fX1_init_s0 x0 σs) Xp → Z κ (0, 0) Q0 0 [(0, vo ads 1 (some x0))] [] ads σs := by
  intro ads σs hx0 hGs h
  unfold fX1_init_s0 at h
  show Z κ (0, 0) Q0 0 [(0, vo ads 1 (some x0))] [] ads σs
  refine z_aload_n C 0 dX1_init_0 rfl ?_
  refine z_objInit (st := []) C (by decide) lo_X1_3 lo_i lo_c (Nat.le_of_ble_eq_true rfl) dX1_init_1 ?_
  refine z_aload_n C 0 dX1_init_4 rfl ?_
  refine z_bipush C dX1_init_5 (by decide) ?_
  refine z_newarr (atype := .int) (t0 := 0) C ar_200 rfl lac_int (fun _ => rfl) (by decide) rfl (by decide) (fun q => noT F q) (csOK_le hcs (by decide) (by decide)) dX1_init_7 (fun ad105 hA5 => ?_)
  rw [voA (K2 := 1) (r := some x0) hA5 (by decide)]
  have hGc : Grw σ0 ad0 σs ads := hGs
  have hG5 := hGc.nwA hA5
  have hN5 : gN σs 200 < gN (nwA σs 200) 200 := nwA_lt
  generalize e5 : nwA σs 200 = σ105 at hG5 hN5 ⊢
  have h := lt_elim h σ105 e5
  generalize e5j : gN σs 200 = j5 at hN5 ⊢
  have h := lt_elim h j5 e5j
  have hp3 : x0 < gN σ105 1 := (grN e5 hx0 (by decide))
  show Z κ (1, 8) Q0 9 [(0, vo ad105 1 (some x0))] [vo ad105 200 (some j5), vo ad105 1 (some x0)] ad105 σ105
  refine z_dup C dX1_init_9 rfl ?_
  refine z_iconst C dX1_init_10 ?_
  refine z_sipush C dX1_init_11 (by decide) ?_
  refine z_iastore C ar_200 (Or.inl hN5) (by decide) (by decide) (by decide) dX1_init_14 ?_
  show Z κ (1, 8) Q0 15 _ _ _ (sI σ105 200 j5 0 255)
  refine z_dup C dX1_init_15 rfl ?_
  refine z_iconst C dX1_init_16 ?_
  refine z_sipush C dX1_init_17 (by decide) ?_
  refine z_iastore C ar_200 (Or.inl hN5) (by decide) (by decide) (by decide) dX1_init_20 ?_
  show Z κ (1, 8) Q0 21 _ _ _ (sI (sI σ105 200 j5 0 255) 200 j5 1 255)
  refine z_dup C dX1_init_21 rfl ?_
  refine z_iconst C dX1_init_22 ?_
  refine z_sipush C dX1_init_23 (by decide) ?_
  refine z_iastore C ar_200 (Or.inl hN5) (by decide) (by decide) (by decide) dX1_init_26 ?_
  show Z κ (1, 8) Q0 27 _ _ _ (sI (sI (sI σ105 200 j5 0 255) 200 j5 1 255) 200 j5 2 255)
  refine z_dup C dX1_init_27 rfl ?_
  refine z_iconst C dX1_init_28 ?_
  refine z_sipush C dX1_init_29 (by decide) ?_
  refine z_iastore C ar_200 (Or.inl hN5) (by decide) (by decide) (by decide) dX1_init_32 ?_
  show Z κ (1, 8) Q0 33 _ _ _ (sI (sI (sI (sI σ105 200 j5 0 255) 200 j5 1 255) 200 j5 2 255) 200 j5 3 255)
  refine z_dup C dX1_init_33 rfl ?_
  refine z_iconst C dX1_init_34 ?_
  refine z_sipush C dX1_init_35 (by decide) ?_
  refine z_iastore C ar_200 (Or.inl hN5) (by decide) (by decide) (by decide) dX1_init_38 ?_
  show Z κ (1, 8) Q0 39 _ _ _ (sI (sI (sI (sI (sI σ105 200 j5 0 255) 200 j5 1 255) 200 j5 2 255) 200 j5 3 255) 200 j5 4 255)
  refine z_dup C dX1_init_39 rfl ?_
  refine z_iconst C dX1_init_40 ?_
  refine z_sipush C dX1_init_41 (by decide) ?_
  refine z_iastore C ar_200 (Or.inl hN5) (by decide) (by decide) (by decide) dX1_init_44 ?_
  show Z κ (1, 8) Q0 45 _ _ _ (sI (sI (sI (sI (sI (sI σ105 200 j5 0 255) 200 j5 1 255) 200 j5 2 255) 200 j5 3 255) 200 j5 4 255) 200 j5 5 255)
  refine z_dup C dX1_init_45 rfl ?_
  refine z_bipush C dX1_init_46 (by decide) ?_
  refine z_sipush C dX1_init_48 (by decide) ?_
  refine z_iastore C ar_200 (Or.inl hN5) (by decide) (by decide) (by decide) dX1_init_51 ?_
  show Z κ (1, 8) Q0 52 _ _ _ (sI (sI (sI (sI (sI (sI (sI σ105 200 j5 0 255) 200 j5 1 255) 200 j5 2 255) 200 j5 3 255) 200 j5 4 255) 200 j5 5 255) 200 j5 6 255)
  refine z_dup C dX1_init_52 rfl ?_
  refine z_bipush C dX1_init_53 (by decide) ?_
  refine z_sipush C dX1_init_55 (by decide) ?_
  refine z_iastore C ar_200 (Or.inl hN5) (by decide) (by decide) (by decide) dX1_init_58 ?_
  show Z κ (1, 8) Q0 59 _ _ _ (sI (sI (sI (sI (sI (sI (sI (sI σ105 200 j5 0 255) 200 j5 1 255) 200 j5 2 255) 200 j5 3 255) 200 j5 4 255) 200 j5 5 255) 200 j5 6 255) 200 j5 7 255)
  refine z_pR (K2 := 200) I0 F C lpf_X1_9 (by decide) rfl (Or.inl hp3) hN5 dX1_init_59 ?_
  show Z κ (1, 8) Q0 62 _ _ _ (sP (sI (sI (sI (sI (sI (sI (sI (sI σ105 200 j5 0 255) 200 j5 1 255) 200 j5 2 255) 200 j5 3 255) 200 j5 4 255) 200 j5 5 255) 200 j5 6 255) 200 j5 7 255) 5200 x0 0 (some j5))
  refine z_aload_n C 0 dX1_init_62 rfl ?_
  refine z_bipush C dX1_init_63 (by decide) ?_
  refine z_newarr (atype := .int) (t0 := 0) C ar_201 rfl lac_int (fun _ => rfl) (by decide) rfl (by decide) (fun q => noT F q) (csOK_le hcs (by decide) (by decide)) dX1_init_65 (fun ad141 hA41 => ?_)
  rw [voA (K2 := 1) (r := some x0) hA41 (by decide)]
  have hGc : Grw σ0 ad0 (sP (sI (sI (sI (sI (sI (sI (sI (sI σ105 200 j5 0 255) 200 j5 1 255) 200 j5 2 255) 200 j5 3 255) 200 j5 4 255) 200 j5 5 255) 200 j5 6 255) 200 j5 7 255) 5200 x0 0 (some j5)) ad105 := hG5
  have hG41 := hGc.nwA hA41
  have hN41 : gN (sP (sI (sI (sI (sI (sI (sI (sI (sI σ105 200 j5 0 255) 200 j5 1 255) 200 j5 2 255) 200 j5 3 255) 200 j5 4 255) 200 j5 5 255) 200 j5 6 255) 200 j5 7 255) 5200 x0 0 (some j5)) 201 < gN (nwA (sP (sI (sI (sI (sI (sI (sI (sI (sI σ105 200 j5 0 255) 200 j5 1 255) 200 j5 2 255) 200 j5 3 255) 200 j5 4 255) 200 j5 5 255) 200 j5 6 255) 200 j5 7 255) 5200 x0 0 (some j5)) 201) 201 := nwA_lt
  generalize e41 : nwA (sP (sI (sI (sI (sI (sI (sI (sI (sI σ105 200 j5 0 255) 200 j5 1 255) 200 j5 2 255) 200 j5 3 255) 200 j5 4 255) 200 j5 5 255) 200 j5 6 255) 200 j5 7 255) 5200 x0 0 (some j5)) 201 = σ141 at hG41 hN41 ⊢
  have h := lt_elim h σ141 e41
  generalize e41j : gN (sP (sI (sI (sI (sI (sI (sI (sI (sI σ105 200 j5 0 255) 200 j5 1 255) 200 j5 2 255) 200 j5 3 255) 200 j5 4 255) 200 j5 5 255) 200 j5 6 255) 200 j5 7 255) 5200 x0 0 (some j5)) 201 = j41 at hN41 ⊢
  have h := lt_elim h j41 e41j
  have hp4 : x0 < gN σ141 1 := (grN e41 hp3 (by decide))
  show Z κ (2, 16) Q0 67 [(0, vo ad141 1 (some x0))] [vo ad141 201 (some j41), vo ad141 1 (some x0)] ad141 σ141
  refine z_pR (K2 := 201) I0 F C lpf_X1_15 (by decide) rfl (Or.inl hp4) hN41 dX1_init_67 ?_
  show Z κ (2, 16) Q0 70 _ _ _ (sP σ141 5201 x0 0 (some j41))
  refine z_aload_n C 0 dX1_init_70 rfl ?_
  refine z_bipush C dX1_init_71 (by decide) ?_
  refine z_newarr (atype := .int) (t0 := 0) C ar_202 rfl lac_int (fun _ => rfl) (by decide) rfl (by decide) (fun q => noT F q) (csOK_le hcs (by decide) (by decide)) dX1_init_73 (fun ad145 hA45 => ?_)
  rw [voA (K2 := 1) (r := some x0) hA45 (by decide)]
  have hGc : Grw σ0 ad0 (sP σ141 5201 x0 0 (some j41)) ad141 := hG41
  have hG45 := hGc.nwA hA45
  have hN45 : gN (sP σ141 5201 x0 0 (some j41)) 202 < gN (nwA (sP σ141 5201 x0 0 (some j41)) 202) 202 := nwA_lt
  generalize e45 : nwA (sP σ141 5201 x0 0 (some j41)) 202 = σ145 at hG45 hN45 ⊢
  have h := lt_elim h σ145 e45
  generalize e45j : gN (sP σ141 5201 x0 0 (some j41)) 202 = j45 at hN45 ⊢
  have h := lt_elim h j45 e45j
  have hp5 : x0 < gN σ145 1 := (grN e45 hp4 (by decide))
  show Z κ (3, 24) Q0 75 [(0, vo ad145 1 (some x0))] [vo ad145 202 (some j45), vo ad145 1 (some x0)] ad145 σ145
  refine z_dup C dX1_init_75 rfl ?_
  refine z_iconst C dX1_init_76 ?_
  refine z_sipush C dX1_init_77 (by decide) ?_
  refine z_iastore C ar_202 (Or.inl hN45) (by decide) (by decide) (by decide) dX1_init_80 ?_
  show Z κ (3, 24) Q0 81 _ _ _ (sI σ145 202 j45 0 364)
  refine z_dup C dX1_init_81 rfl ?_
  refine z_iconst C dX1_init_82 ?_
  refine z_sipush C dX1_init_83 (by decide) ?_
  refine z_iastore C ar_202 (Or.inl hN45) (by decide) (by decide) (by decide) dX1_init_86 ?_
  show Z κ (3, 24) Q0 87 _ _ _ (sI (sI σ145 202 j45 0 364) 202 j45 1 364)
  refine z_dup C dX1_init_87 rfl ?_
  refine z_iconst C dX1_init_88 ?_
  refine z_sipush C dX1_init_89 (by decide) ?_
  refine z_iastore C ar_202 (Or.inl hN45) (by decide) (by decide) (by decide) dX1_init_92 ?_
  show Z κ (3, 24) Q0 93 _ _ _ (sI (sI (sI σ145 202 j45 0 364) 202 j45 1 364) 202 j45 2 364)
  refine z_dup C dX1_init_93 rfl ?_
  refine z_iconst C dX1_init_94 ?_
  refine z_sipush C dX1_init_95 (by decide) ?_
  refine z_iastore C ar_202 (Or.inl hN45) (by decide) (by decide) (by decide) dX1_init_98 ?_
  show Z κ (3, 24) Q0 99 _ _ _ (sI (sI (sI (sI σ145 202 j45 0 364) 202 j45 1 364) 202 j45 2 364) 202 j45 3 364)
  refine z_dup C dX1_init_99 rfl ?_
  refine z_iconst C dX1_init_100 ?_
  refine z_sipush C dX1_init_101 (by decide) ?_
  refine z_iastore C ar_202 (Or.inl hN45) (by decide) (by decide) (by decide) dX1_init_104 ?_
  show Z κ (3, 24) Q0 105 _ _ _ (sI (sI (sI (sI (sI σ145 202 j45 0 364) 202 j45 1 364) 202 j45 2 364) 202 j45 3 364) 202 j45 4 364)
  refine z_dup C dX1_init_105 rfl ?_
  refine z_iconst C dX1_init_106 ?_
  refine z_sipush C dX1_init_107 (by decide) ?_
  refine z_iastore C ar_202 (Or.inl hN45) (by decide) (by decide) (by decide) dX1_init_110 ?_
  show Z κ (3, 24) Q0 111 _ _ _ (sI (sI (sI (sI (sI (sI σ145 202 j45 0 364) 202 j45 1 364) 202 j45 2 364) 202 j45 3 364) 202 j45 4 364) 202 j45 5 364)
  refine z_dup C dX1_init_111 rfl ?_
  refine z_bipush C dX1_init_112 (by decide) ?_
  refine z_sipush C dX1_init_114 (by decide) ?_
  refine z_iastore C ar_202 (Or.inl hN45) (by decide) (by decide) (by decide) dX1_init_117 ?_
  show Z κ (3, 24) Q0 118 _ _ _ (sI (sI (sI (sI (sI (sI (sI σ145 202 j45 0 364) 202 j45 1 364) 202 j45 2 364) 202 j45 3 364) 202 j45 4 364) 202 j45 5 364) 202 j45 6 364)
  refine z_dup C dX1_init_118 rfl ?_
  refine z_bipush C dX1_init_119 (by decide) ?_
  refine z_sipush C dX1_init_121 (by decide) ?_
  refine z_iastore C ar_202 (Or.inl hN45) (by decide) (by decide) (by decide) dX1_init_124 ?_
  show Z κ (3, 24) Q0 125 _ _ _ (sI (sI (sI (sI (sI (sI (sI (sI σ145 202 j45 0 364) 202 j45 1 364) 202 j45 2 364) 202 j45 3 364) 202 j45 4 364) 202 j45 5 364) 202 j45 6 364) 202 j45 7 364)
  refine z_pR (K2 := 202) I0 F C lpf_X1_18 (by decide) rfl (Or.inl hp5) hN45 dX1_init_125 ?_
  show Z κ (3, 24) Q0 128 _ _ _ (sP (sI (sI (sI (sI (sI (sI (sI (sI σ145 202 j45 0 364) 202 j45 1 364) 202 j45 2 364) 202 j45 3 364) 202 j45 4 364) 202 j45 5 364) 202 j45 6 364) 202 j45 7 364) 5202 x0 0 (some j45))
  have hGc : Grw σ0 ad0 (sP (sI (sI (sI (sI (sI (sI (sI (sI σ145 202 j45 0 364) 202 j45 1 364) 202 j45 2 364) 202 j45 3 364) 202 j45 4 364) 202 j45 5 364) 202 j45 6 364) 202 j45 7 364) 5202 x0 0 (some j45)) ad145 := hG45
  exact tail ad145 (sP (sI (sI (sI (sI (sI (sI (sI (sI σ145 202 j45 0 364) 202 j45 1 364) 202 j45 2 364) 202 j45 3 364) 202 j45 4 364) 202 j45 5 364) 202 j45 6 364) 202 j45 7 364) 5202 x0 0 (some j45)) hp5 hGc h
set_option maxRecDepth 20000 in
set_option maxHeartbeats 8000000 in
theorem ct_X1_init (x0 : Nat) : CtA false yX1_init cX1_init 1 none 1 3 24 (fun ad => [vo ad 1 (some x0)]) (fX1_init x0) enV okV (fun σ => x0 < gN σ 1) := by
  refine CtA.of (by decide) (fun ad => Nat.le_of_ble_eq_true rfl) ?_
  intro κ ad0 σ0 X C _ F I0 hcs hx0 h
  have F : isF κ := F rfl
  have I0 : isInit κ := I0 rfl
  have C : Cx κ RX1 cX1_init 1 none 1 := C
  generalize hQ : QmA κ false 3 24 ad0 σ0 enV okV X = Q0
  have tail : ∀ (ad : Nat → Nat → Nat) (σ : St), x0 < gN σ 1 → Grw σ0 ad0 σ ad → wpO (fX1_init_t x0 σ) (fun q => X q.1 q.2) → Z κ (3, 24) Q0 128 [(0, vo ad 1 (some x0))] [] ad σ := by
    intro ad σ hx0 hG h
    unfold fX1_init_t at h
    refine z_rng (fun hI1 hJ2 => ?_)
    have h := wpO_some.mp h
    rw [← hQ]
    exact z_returnA C dX1_init_128 (hG.eN rfl) h (fun q => by cases q)
  unfold fX1_init at h
  show Z κ (0, 0) Q0 0 [(0, vo ad0 1 (some x0))] [] ad0 σ0
  exact (sgX1_init_0 x0 C F I0 hcs tail) ad0 σ0 hx0 Grw.rf h
noncomputable def fX3_init_t (x0 : Nat) (σ : St) : Option (Unit × St) :=
  some ((), σ)
noncomputable def fX3_init_s0 (x0 : Nat) (σs : St) : Option (Unit × St) :=
  lt (nwA σs 400) (fun σ105 => lt (gN σs 400) (fun j5 => lt (nwA (sP σ105 5400 x0 0 (some j5)) 401) (fun σ109 => lt (gN (sP σ105 5400 x0 0 (some j5)) 401) (fun j9 => lt (nwA (sP σ109 5401 x0 0 (some j9)) 402) (fun σ113 => lt (gN (sP σ109 5401 x0 0 (some j9)) 402) (fun j13 => lt (nwA (sP σ113 5402 x0 0 (some j13)) 403) (fun σ117 => lt (gN (sP σ113 5402 x0 0 (some j13)) 403) (fun j17 => fX3_init_t x0 (sP σ117 5403 x0 0 (some j17))))))))))
noncomputable def fX3_init (x0 : Nat) (σ0 : St) : Option (Unit × St) :=
  fX3_init_s0 x0 σ0
set_option maxRecDepth 20000 in
set_option maxHeartbeats 8000000 in
theorem sgX3_init_0 (x0 : Nat) {κ : Cxt} {Q0 : State → Prop} {Xp : Unit × St → Prop} {ad0 : Nat → Nat → Nat} {σ0 : St} (C : Cx κ RX3 cX3_init 1 none 1) (F : isF κ) (I0 : isInit κ) (hcs : csOK κ (4, 251)) (tail : ∀ (ad : Nat → Nat → Nat) (σ : St), x0 < gN σ 3 → Grw σ0 ad0 σ ad → wpO (fX3_init_t x0 σ) Xp → Z κ (4, 251) Q0 36 [(0, vo ad 3 (some x0))] [] ad σ) : ∀ (ads : Nat → Nat → Nat) (σs : St), x0 < gN σs 3 → Grw σ0 ad0 σs ads → wpO (fX3_init_s0 x0 σs) Xp → Z κ (0, 0) Q0 0 [(0, vo ads 3 (some x0))] [] ads σs := by
  intro ads σs hx0 hGs h
  unfold fX3_init_s0 at h
  show Z κ (0, 0) Q0 0 [(0, vo ads 3 (some x0))] [] ads σs
  refine z_aload_n C 0 dX3_init_0 rfl ?_
  refine z_objInit (st := []) C (by decide) lo_X3_3 lo_i lo_c (Nat.le_of_ble_eq_true rfl) dX3_init_1 ?_
  refine z_aload_n C 0 dX3_init_4 rfl ?_
  refine z_bipush C dX3_init_5 (by decide) ?_
  refine z_newarr (atype := .int) (t0 := 0) C ar_400 rfl lac_int (fun _ => rfl) (by decide) rfl (by decide) (fun q => noT F q) (csOK_le hcs (by decide) (by decide)) dX3_init_7 (fun ad105 hA5 => ?_)
  rw [voA (K2 := 3) (r := some x0) hA5 (by decide)]
  have hGc : Grw σ0 ad0 σs ads := hGs
  have hG5 := hGc.nwA hA5
  have hN5 : gN σs 400 < gN (nwA σs 400) 400 := nwA_lt
  generalize e5 : nwA σs 400 = σ105 at hG5 hN5 ⊢
  have h := lt_elim h σ105 e5
  generalize e5j : gN σs 400 = j5 at hN5 ⊢
  have h := lt_elim h j5 e5j
  have hp3 : x0 < gN σ105 3 := (grN e5 hx0 (by decide))
  show Z κ (1, 8) Q0 9 [(0, vo ad105 3 (some x0))] [vo ad105 400 (some j5), vo ad105 3 (some x0)] ad105 σ105
  refine z_pR (K2 := 400) I0 F C lpf_X3_9 (by decide) rfl (Or.inl hp3) hN5 dX3_init_9 ?_
  show Z κ (1, 8) Q0 12 _ _ _ (sP σ105 5400 x0 0 (some j5))
  refine z_aload_n C 0 dX3_init_12 rfl ?_
  refine z_bipush C dX3_init_13 (by decide) ?_
  refine z_newarr (atype := .boolean) (t0 := 1) C ar_401 rfl lac_boolean (fun _ => rfl) (by decide) rfl (by decide) (fun q => noT F q) (csOK_le hcs (by decide) (by decide)) dX3_init_15 (fun ad109 hA9 => ?_)
  rw [voA (K2 := 3) (r := some x0) hA9 (by decide)]
  have hGc : Grw σ0 ad0 (sP σ105 5400 x0 0 (some j5)) ad105 := hG5
  have hG9 := hGc.nwA hA9
  have hN9 : gN (sP σ105 5400 x0 0 (some j5)) 401 < gN (nwA (sP σ105 5400 x0 0 (some j5)) 401) 401 := nwA_lt
  generalize e9 : nwA (sP σ105 5400 x0 0 (some j5)) 401 = σ109 at hG9 hN9 ⊢
  have h := lt_elim h σ109 e9
  generalize e9j : gN (sP σ105 5400 x0 0 (some j5)) 401 = j9 at hN9 ⊢
  have h := lt_elim h j9 e9j
  have hp4 : x0 < gN σ109 3 := (grN e9 hp3 (by decide))
  show Z κ (2, 89) Q0 17 [(0, vo ad109 3 (some x0))] [vo ad109 401 (some j9), vo ad109 3 (some x0)] ad109 σ109
  refine z_pR (K2 := 401) I0 F C lpf_X3_15 (by decide) rfl (Or.inl hp4) hN9 dX3_init_17 ?_
  show Z κ (2, 89) Q0 20 _ _ _ (sP σ109 5401 x0 0 (some j9))
  refine z_aload_n C 0 dX3_init_20 rfl ?_
  refine z_bipush C dX3_init_21 (by decide) ?_
  refine z_newarr (atype := .boolean) (t0 := 1) C ar_402 rfl lac_boolean (fun _ => rfl) (by decide) rfl (by decide) (fun q => noT F q) (csOK_le hcs (by decide) (by decide)) dX3_init_23 (fun ad113 hA13 => ?_)
  rw [voA (K2 := 3) (r := some x0) hA13 (by decide)]
  have hGc : Grw σ0 ad0 (sP σ109 5401 x0 0 (some j9)) ad109 := hG9
  have hG13 := hGc.nwA hA13
  have hN13 : gN (sP σ109 5401 x0 0 (some j9)) 402 < gN (nwA (sP σ109 5401 x0 0 (some j9)) 402) 402 := nwA_lt
  generalize e13 : nwA (sP σ109 5401 x0 0 (some j9)) 402 = σ113 at hG13 hN13 ⊢
  have h := lt_elim h σ113 e13
  generalize e13j : gN (sP σ109 5401 x0 0 (some j9)) 402 = j13 at hN13 ⊢
  have h := lt_elim h j13 e13j
  have hp5 : x0 < gN σ113 3 := (grN e13 hp4 (by decide))
  show Z κ (3, 170) Q0 25 [(0, vo ad113 3 (some x0))] [vo ad113 402 (some j13), vo ad113 3 (some x0)] ad113 σ113
  refine z_pR (K2 := 402) I0 F C lpf_X3_19 (by decide) rfl (Or.inl hp5) hN13 dX3_init_25 ?_
  show Z κ (3, 170) Q0 28 _ _ _ (sP σ113 5402 x0 0 (some j13))
  refine z_aload_n C 0 dX3_init_28 rfl ?_
  refine z_bipush C dX3_init_29 (by decide) ?_
  refine z_newarr (atype := .boolean) (t0 := 1) C ar_403 rfl lac_boolean (fun _ => rfl) (by decide) rfl (by decide) (fun q => noT F q) (csOK_le hcs (by decide) (by decide)) dX3_init_31 (fun ad117 hA17 => ?_)
  rw [voA (K2 := 3) (r := some x0) hA17 (by decide)]
  have hGc : Grw σ0 ad0 (sP σ113 5402 x0 0 (some j13)) ad113 := hG13
  have hG17 := hGc.nwA hA17
  have hN17 : gN (sP σ113 5402 x0 0 (some j13)) 403 < gN (nwA (sP σ113 5402 x0 0 (some j13)) 403) 403 := nwA_lt
  generalize e17 : nwA (sP σ113 5402 x0 0 (some j13)) 403 = σ117 at hG17 hN17 ⊢
  have h := lt_elim h σ117 e17
  generalize e17j : gN (sP σ113 5402 x0 0 (some j13)) 403 = j17 at hN17 ⊢
  have h := lt_elim h j17 e17j
  have hp6 : x0 < gN σ117 3 := (grN e17 hp5 (by decide))
  show Z κ (4, 251) Q0 33 [(0, vo ad117 3 (some x0))] [vo ad117 403 (some j17), vo ad117 3 (some x0)] ad117 σ117
  refine z_pR (K2 := 403) I0 F C lpf_X3_22 (by decide) rfl (Or.inl hp6) hN17 dX3_init_33 ?_
  show Z κ (4, 251) Q0 36 _ _ _ (sP σ117 5403 x0 0 (some j17))
  have hGc : Grw σ0 ad0 (sP σ117 5403 x0 0 (some j17)) ad117 := hG17
  exact tail ad117 (sP σ117 5403 x0 0 (some j17)) hp6 hGc h
set_option maxRecDepth 20000 in
set_option maxHeartbeats 8000000 in
theorem ct_X3_init (x0 : Nat) : CtA false yX3_init cX3_init 1 none 1 4 251 (fun ad => [vo ad 3 (some x0)]) (fX3_init x0) enV okV (fun σ => x0 < gN σ 3) := by
  refine CtA.of (by decide) (fun ad => Nat.le_of_ble_eq_true rfl) ?_
  intro κ ad0 σ0 X C _ F I0 hcs hx0 h
  have F : isF κ := F rfl
  have I0 : isInit κ := I0 rfl
  have C : Cx κ RX3 cX3_init 1 none 1 := C
  generalize hQ : QmA κ false 4 251 ad0 σ0 enV okV X = Q0
  have tail : ∀ (ad : Nat → Nat → Nat) (σ : St), x0 < gN σ 3 → Grw σ0 ad0 σ ad → wpO (fX3_init_t x0 σ) (fun q => X q.1 q.2) → Z κ (4, 251) Q0 36 [(0, vo ad 3 (some x0))] [] ad σ := by
    intro ad σ hx0 hG h
    unfold fX3_init_t at h
    refine z_rng (fun hI1 hJ2 => ?_)
    have h := wpO_some.mp h
    rw [← hQ]
    exact z_returnA C dX3_init_36 (hG.eN rfl) h (fun q => by cases q)
  unfold fX3_init at h
  show Z κ (0, 0) Q0 0 [(0, vo ad0 3 (some x0))] [] ad0 σ0
  exact (sgX3_init_0 x0 C F I0 hcs tail) ad0 σ0 hx0 Grw.rf h
noncomputable def fX4_init_t (x0 : Nat) (σ : St) : Option (Unit × St) :=
  some ((), σ)
noncomputable def fX4_init_s0 (x0 : Nat) (σs : St) : Option (Unit × St) :=
  lt (nwA (sI (sI σs 500 x0 0 100) 501 x0 0 900) 502) (fun σ111 => lt (gN (sI (sI σs 500 x0 0 100) 501 x0 0 900) 502) (fun j11 => lt (nwA (sP σ111 5502 x0 0 (some j11)) 508) (fun σ115 => lt (gN (sP σ111 5502 x0 0 (some j11)) 508) (fun j15 => lt (nwA (sP σ115 5508 x0 0 (some j15)) 509) (fun σ119 => lt (gN (sP σ115 5508 x0 0 (some j15)) 509) (fun j19 => lt (nwA (sP σ119 5509 x0 0 (some j19)) 510) (fun σ123 => lt (gN (sP σ119 5509 x0 0 (some j19)) 510) (fun j23 => fX4_init_t x0 (sP σ123 5510 x0 0 (some j23))))))))))
noncomputable def fX4_init (x0 : Nat) (σ0 : St) : Option (Unit × St) :=
  fX4_init_s0 x0 σ0
set_option maxRecDepth 20000 in
set_option maxHeartbeats 8000000 in
theorem sgX4_init_0 (x0 : Nat) {κ : Cxt} {Q0 : State → Prop} {Xp : Unit × St → Prop} {ad0 : Nat → Nat → Nat} {σ0 : St} (C : Cx κ RX4 cX4_init 1 none 1) (F : isF κ) (I0 : isInit κ) (hcs : csOK κ (4, 2072)) (tail : ∀ (ad : Nat → Nat → Nat) (σ : St), x0 < gN σ 4 → Grw σ0 ad0 σ ad → wpO (fX4_init_t x0 σ) Xp → Z κ (4, 2072) Q0 50 [(0, vo ad 4 (some x0))] [] ad σ) : ∀ (ads : Nat → Nat → Nat) (σs : St), x0 < gN σs 4 → Grw σ0 ad0 σs ads → wpO (fX4_init_s0 x0 σs) Xp → Z κ (0, 0) Q0 0 [(0, vo ads 4 (some x0))] [] ads σs := by
  intro ads σs hx0 hGs h
  unfold fX4_init_s0 at h
  show Z κ (0, 0) Q0 0 [(0, vo ads 4 (some x0))] [] ads σs
  refine z_aload_n C 0 dX4_init_0 rfl ?_
  refine z_objInit (st := []) C (by decide) lo_X4_3 lo_i lo_c (Nat.le_of_ble_eq_true rfl) dX4_init_1 ?_
  refine z_aload_n C 0 dX4_init_4 rfl ?_
  refine z_bipush C dX4_init_5 (by decide) ?_
  refine z_pF I0 C lpf_X4_9 (Or.inl hx0) (by decide) dX4_init_7 ?_
  refine z_aload_n C 0 dX4_init_10 rfl ?_
  refine z_sipush C dX4_init_11 (by decide) ?_
  refine z_pF I0 C lpf_X4_15 (Or.inl hx0) (by decide) dX4_init_14 ?_
  refine z_aload_n C 0 dX4_init_17 rfl ?_
  refine z_bipush C dX4_init_18 (by decide) ?_
  refine z_newarr (atype := .int) (t0 := 0) C ar_502 rfl lac_int (fun _ => rfl) (by decide) rfl (by decide) (fun q => noT F q) (csOK_le hcs (by decide) (by decide)) dX4_init_20 (fun ad111 hA11 => ?_)
  rw [voA (K2 := 4) (r := some x0) hA11 (by decide)]
  have hGc : Grw σ0 ad0 (sI (sI σs 500 x0 0 100) 501 x0 0 900) ads := hGs
  have hG11 := hGc.nwA hA11
  have hN11 : gN (sI (sI σs 500 x0 0 100) 501 x0 0 900) 502 < gN (nwA (sI (sI σs 500 x0 0 100) 501 x0 0 900) 502) 502 := nwA_lt
  generalize e11 : nwA (sI (sI σs 500 x0 0 100) 501 x0 0 900) 502 = σ111 at hG11 hN11 ⊢
  have h := lt_elim h σ111 e11
  generalize e11j : gN (sI (sI σs 500 x0 0 100) 501 x0 0 900) 502 = j11 at hN11 ⊢
  have h := lt_elim h j11 e11j
  have hp3 : x0 < gN σ111 4 := (grN e11 hx0 (by decide))
  show Z κ (1, 8) Q0 22 [(0, vo ad111 4 (some x0))] [vo ad111 502 (some j11), vo ad111 4 (some x0)] ad111 σ111
  refine z_pR (K2 := 502) I0 F C lpf_X4_18 (by decide) rfl (Or.inl hp3) hN11 dX4_init_22 ?_
  show Z κ (1, 8) Q0 25 _ _ _ (sP σ111 5502 x0 0 (some j11))
  refine z_aload_n C 0 dX4_init_25 rfl ?_
  refine z_bipush C dX4_init_26 (by decide) ?_
  refine z_newarr (atype := .int) (t0 := 0) C ar_508 rfl lac_int (fun _ => rfl) (by decide) rfl (by decide) (fun q => noT F q) (csOK_le hcs (by decide) (by decide)) dX4_init_28 (fun ad115 hA15 => ?_)
  rw [voA (K2 := 4) (r := some x0) hA15 (by decide)]
  have hGc : Grw σ0 ad0 (sP σ111 5502 x0 0 (some j11)) ad111 := hG11
  have hG15 := hGc.nwA hA15
  have hN15 : gN (sP σ111 5502 x0 0 (some j11)) 508 < gN (nwA (sP σ111 5502 x0 0 (some j11)) 508) 508 := nwA_lt
  generalize e15 : nwA (sP σ111 5502 x0 0 (some j11)) 508 = σ115 at hG15 hN15 ⊢
  have h := lt_elim h σ115 e15
  generalize e15j : gN (sP σ111 5502 x0 0 (some j11)) 508 = j15 at hN15 ⊢
  have h := lt_elim h j15 e15j
  have hp4 : x0 < gN σ115 4 := (grN e15 hp3 (by decide))
  show Z κ (2, 16) Q0 30 [(0, vo ad115 4 (some x0))] [vo ad115 508 (some j15), vo ad115 4 (some x0)] ad115 σ115
  refine z_pR (K2 := 508) I0 F C lpf_X4_22 (by decide) rfl (Or.inl hp4) hN15 dX4_init_30 ?_
  show Z κ (2, 16) Q0 33 _ _ _ (sP σ115 5508 x0 0 (some j15))
  refine z_aload_n C 0 dX4_init_33 rfl ?_
  refine z_bipush C dX4_init_34 (by decide) ?_
  refine z_newarr (atype := .int) (t0 := 0) C ar_509 rfl lac_int (fun _ => rfl) (by decide) rfl (by decide) (fun q => noT F q) (csOK_le hcs (by decide) (by decide)) dX4_init_36 (fun ad119 hA19 => ?_)
  rw [voA (K2 := 4) (r := some x0) hA19 (by decide)]
  have hGc : Grw σ0 ad0 (sP σ115 5508 x0 0 (some j15)) ad115 := hG15
  have hG19 := hGc.nwA hA19
  have hN19 : gN (sP σ115 5508 x0 0 (some j15)) 509 < gN (nwA (sP σ115 5508 x0 0 (some j15)) 509) 509 := nwA_lt
  generalize e19 : nwA (sP σ115 5508 x0 0 (some j15)) 509 = σ119 at hG19 hN19 ⊢
  have h := lt_elim h σ119 e19
  generalize e19j : gN (sP σ115 5508 x0 0 (some j15)) 509 = j19 at hN19 ⊢
  have h := lt_elim h j19 e19j
  have hp5 : x0 < gN σ119 4 := (grN e19 hp4 (by decide))
  show Z κ (3, 24) Q0 38 [(0, vo ad119 4 (some x0))] [vo ad119 509 (some j19), vo ad119 4 (some x0)] ad119 σ119
  refine z_pR (K2 := 509) I0 F C lpf_X4_25 (by decide) rfl (Or.inl hp5) hN19 dX4_init_38 ?_
  show Z κ (3, 24) Q0 41 _ _ _ (sP σ119 5509 x0 0 (some j19))
  refine z_aload_n C 0 dX4_init_41 rfl ?_
  refine z_sipush C dX4_init_42 (by decide) ?_
  refine z_newarr (atype := .int) (t0 := 0) C ar_510 rfl lac_int (fun _ => rfl) (by decide) rfl (by decide) (fun q => noT F q) (csOK_le hcs (by decide) (by decide)) dX4_init_45 (fun ad123 hA23 => ?_)
  rw [voA (K2 := 4) (r := some x0) hA23 (by decide)]
  have hGc : Grw σ0 ad0 (sP σ119 5509 x0 0 (some j19)) ad119 := hG19
  have hG23 := hGc.nwA hA23
  have hN23 : gN (sP σ119 5509 x0 0 (some j19)) 510 < gN (nwA (sP σ119 5509 x0 0 (some j19)) 510) 510 := nwA_lt
  generalize e23 : nwA (sP σ119 5509 x0 0 (some j19)) 510 = σ123 at hG23 hN23 ⊢
  have h := lt_elim h σ123 e23
  generalize e23j : gN (sP σ119 5509 x0 0 (some j19)) 510 = j23 at hN23 ⊢
  have h := lt_elim h j23 e23j
  have hp6 : x0 < gN σ123 4 := (grN e23 hp5 (by decide))
  show Z κ (4, 2072) Q0 47 [(0, vo ad123 4 (some x0))] [vo ad123 510 (some j23), vo ad123 4 (some x0)] ad123 σ123
  refine z_pR (K2 := 510) I0 F C lpf_X4_28 (by decide) rfl (Or.inl hp6) hN23 dX4_init_47 ?_
  show Z κ (4, 2072) Q0 50 _ _ _ (sP σ123 5510 x0 0 (some j23))
  have hGc : Grw σ0 ad0 (sP σ123 5510 x0 0 (some j23)) ad123 := hG23
  exact tail ad123 (sP σ123 5510 x0 0 (some j23)) hp6 hGc h
set_option maxRecDepth 20000 in
set_option maxHeartbeats 8000000 in
theorem ct_X4_init (x0 : Nat) : CtA false yX4_init cX4_init 1 none 1 4 2072 (fun ad => [vo ad 4 (some x0)]) (fX4_init x0) enV okV (fun σ => x0 < gN σ 4) := by
  refine CtA.of (by decide) (fun ad => Nat.le_of_ble_eq_true rfl) ?_
  intro κ ad0 σ0 X C _ F I0 hcs hx0 h
  have F : isF κ := F rfl
  have I0 : isInit κ := I0 rfl
  have C : Cx κ RX4 cX4_init 1 none 1 := C
  generalize hQ : QmA κ false 4 2072 ad0 σ0 enV okV X = Q0
  have tail : ∀ (ad : Nat → Nat → Nat) (σ : St), x0 < gN σ 4 → Grw σ0 ad0 σ ad → wpO (fX4_init_t x0 σ) (fun q => X q.1 q.2) → Z κ (4, 2072) Q0 50 [(0, vo ad 4 (some x0))] [] ad σ := by
    intro ad σ hx0 hG h
    unfold fX4_init_t at h
    refine z_rng (fun hI1 hJ2 => ?_)
    have h := wpO_some.mp h
    rw [← hQ]
    exact z_returnA C dX4_init_50 (hG.eN rfl) h (fun q => by cases q)
  unfold fX4_init at h
  show Z κ (0, 0) Q0 0 [(0, vo ad0 4 (some x0))] [] ad0 σ0
  exact (sgX4_init_0 x0 C F I0 hcs tail) ad0 σ0 hx0 Grw.rf h
noncomputable def fX0_init_t (x0 : Nat) (σ : St) : Option (Unit × St) :=
  some ((), σ)
noncomputable def fX0_init_s1 (x0 : Nat) (σs : St) : Option (Unit × St) :=
  lt (nwA σs 109) (fun σ103 => lt (gN σs 109) (fun j3 => fX0_init_t x0 (sP σ103 5109 x0 0 (some j3))))
noncomputable def fX0_init_s0 (x0 : Nat) (σs : St) : Option (Unit × St) :=
  lt (nwA σs 100) (fun σ105 => lt (gN σs 100) (fun j5 => lt (nwA (sP (sI (sI (sI (sI σ105 100 j5 0 ((-9))) 100 j5 1 ((-9))) 100 j5 2 ((-9))) 100 j5 3 ((-9))) 5100 x0 0 (some j5)) 101) (fun σ125 => lt (gN (sP (sI (sI (sI (sI σ105 100 j5 0 ((-9))) 100 j5 1 ((-9))) 100 j5 2 ((-9))) 100 j5 3 ((-9))) 5100 x0 0 (some j5)) 101) (fun j25 => lt (nwA (sP σ125 5101 x0 0 (some j25)) 103) (fun σ129 => lt (gN (sP σ125 5101 x0 0 (some j25)) 103) (fun j29 => lt (nwA (sP σ129 5103 x0 0 (some j29)) 104) (fun σ133 => lt (gN (sP σ129 5103 x0 0 (some j29)) 104) (fun j33 => lt (nwA (sP σ133 5104 x0 0 (some j33)) 105) (fun σ137 => lt (gN (sP σ133 5104 x0 0 (some j33)) 105) (fun j37 => lt (nwA (sP σ137 5105 x0 0 (some j37)) 106) (fun σ141 => lt (gN (sP σ137 5105 x0 0 (some j37)) 106) (fun j41 => lt (nwA (sP σ141 5106 x0 0 (some j41)) 107) (fun σ145 => lt (gN (sP σ141 5106 x0 0 (some j41)) 107) (fun j45 => lt (nwA (sP σ145 5107 x0 0 (some j45)) 108) (fun σ149 => lt (gN (sP σ145 5107 x0 0 (some j45)) 108) (fun j49 => fX0_init_s1 x0 (sP σ149 5108 x0 0 (some j49))))))))))))))))))
noncomputable def fX0_init (x0 : Nat) (σ0 : St) : Option (Unit × St) :=
  fX0_init_s0 x0 σ0
set_option maxRecDepth 20000 in
set_option maxHeartbeats 8000000 in
theorem sgX0_init_0 (x0 : Nat) {κ : Cxt} {Q0 : State → Prop} {Xp : Unit × St → Prop} {ad0 : Nat → Nat → Nat} {σ0 : St} (C : Cx κ RX0 cX0_init 1 none 1) (F : isF κ) (I0 : isInit κ) (hcs : csOK κ (9, 560)) (tail : ∀ (ad : Nat → Nat → Nat) (σ : St), x0 < gN σ 0 → Grw σ0 ad0 σ ad → wpO (fX0_init_s1 x0 σ) Xp → Z κ (8, 304) Q0 87 [(0, vo ad 0 (some x0))] [] ad σ) : ∀ (ads : Nat → Nat → Nat) (σs : St), x0 < gN σs 0 → Grw σ0 ad0 σs ads → wpO (fX0_init_s0 x0 σs) Xp → Z κ (0, 0) Q0 0 [(0, vo ads 0 (some x0))] [] ads σs := by
  intro ads σs hx0 hGs h
  unfold fX0_init_s0 at h
  show Z κ (0, 0) Q0 0 [(0, vo ads 0 (some x0))] [] ads σs
  refine z_aload_n C 0 dX0_init_0 rfl ?_
  refine z_objInit (st := []) C (by decide) lo_X0_3 lo_i lo_c (Nat.le_of_ble_eq_true rfl) dX0_init_1 ?_
  refine z_aload_n C 0 dX0_init_4 rfl ?_
  refine z_iconst C dX0_init_5 ?_
  refine z_newarr (atype := .int) (t0 := 0) C ar_100 rfl lac_int (fun _ => rfl) (by decide) rfl (by decide) (fun q => noT F q) (csOK_le hcs (by decide) (by decide)) dX0_init_6 (fun ad105 hA5 => ?_)
  rw [voA (K2 := 0) (r := some x0) hA5 (by decide)]
  have hGc : Grw σ0 ad0 σs ads := hGs
  have hG5 := hGc.nwA hA5
  have hN5 : gN σs 100 < gN (nwA σs 100) 100 := nwA_lt
  generalize e5 : nwA σs 100 = σ105 at hG5 hN5 ⊢
  have h := lt_elim h σ105 e5
  generalize e5j : gN σs 100 = j5 at hN5 ⊢
  have h := lt_elim h j5 e5j
  have hp3 : x0 < gN σ105 0 := (grN e5 hx0 (by decide))
  show Z κ (1, 4) Q0 8 [(0, vo ad105 0 (some x0))] [vo ad105 100 (some j5), vo ad105 0 (some x0)] ad105 σ105
  refine z_dup C dX0_init_8 rfl ?_
  refine z_iconst C dX0_init_9 ?_
  refine z_bipush C dX0_init_10 (by decide) ?_
  refine z_iastore C ar_100 (Or.inl hN5) (by decide) (by decide) (by decide) dX0_init_12 ?_
  show Z κ (1, 4) Q0 13 _ _ _ (sI σ105 100 j5 0 ((-9)))
  refine z_dup C dX0_init_13 rfl ?_
  refine z_iconst C dX0_init_14 ?_
  refine z_bipush C dX0_init_15 (by decide) ?_
  refine z_iastore C ar_100 (Or.inl hN5) (by decide) (by decide) (by decide) dX0_init_17 ?_
  show Z κ (1, 4) Q0 18 _ _ _ (sI (sI σ105 100 j5 0 ((-9))) 100 j5 1 ((-9)))
  refine z_dup C dX0_init_18 rfl ?_
  refine z_iconst C dX0_init_19 ?_
  refine z_bipush C dX0_init_20 (by decide) ?_
  refine z_iastore C ar_100 (Or.inl hN5) (by decide) (by decide) (by decide) dX0_init_22 ?_
  show Z κ (1, 4) Q0 23 _ _ _ (sI (sI (sI σ105 100 j5 0 ((-9))) 100 j5 1 ((-9))) 100 j5 2 ((-9)))
  refine z_dup C dX0_init_23 rfl ?_
  refine z_iconst C dX0_init_24 ?_
  refine z_bipush C dX0_init_25 (by decide) ?_
  refine z_iastore C ar_100 (Or.inl hN5) (by decide) (by decide) (by decide) dX0_init_27 ?_
  show Z κ (1, 4) Q0 28 _ _ _ (sI (sI (sI (sI σ105 100 j5 0 ((-9))) 100 j5 1 ((-9))) 100 j5 2 ((-9))) 100 j5 3 ((-9)))
  refine z_pR (K2 := 100) I0 F C lpf_X0_9 (by decide) rfl (Or.inl hp3) hN5 dX0_init_28 ?_
  show Z κ (1, 4) Q0 31 _ _ _ (sP (sI (sI (sI (sI σ105 100 j5 0 ((-9))) 100 j5 1 ((-9))) 100 j5 2 ((-9))) 100 j5 3 ((-9))) 5100 x0 0 (some j5))
  refine z_aload_n C 0 dX0_init_31 rfl ?_
  refine z_iconst C dX0_init_32 ?_
  refine z_newarr (atype := .int) (t0 := 0) C ar_101 rfl lac_int (fun _ => rfl) (by decide) rfl (by decide) (fun q => noT F q) (csOK_le hcs (by decide) (by decide)) dX0_init_33 (fun ad125 hA25 => ?_)
  rw [voA (K2 := 0) (r := some x0) hA25 (by decide)]
  have hGc : Grw σ0 ad0 (sP (sI (sI (sI (sI σ105 100 j5 0 ((-9))) 100 j5 1 ((-9))) 100 j5 2 ((-9))) 100 j5 3 ((-9))) 5100 x0 0 (some j5)) ad105 := hG5
  have hG25 := hGc.nwA hA25
  have hN25 : gN (sP (sI (sI (sI (sI σ105 100 j5 0 ((-9))) 100 j5 1 ((-9))) 100 j5 2 ((-9))) 100 j5 3 ((-9))) 5100 x0 0 (some j5)) 101 < gN (nwA (sP (sI (sI (sI (sI σ105 100 j5 0 ((-9))) 100 j5 1 ((-9))) 100 j5 2 ((-9))) 100 j5 3 ((-9))) 5100 x0 0 (some j5)) 101) 101 := nwA_lt
  generalize e25 : nwA (sP (sI (sI (sI (sI σ105 100 j5 0 ((-9))) 100 j5 1 ((-9))) 100 j5 2 ((-9))) 100 j5 3 ((-9))) 5100 x0 0 (some j5)) 101 = σ125 at hG25 hN25 ⊢
  have h := lt_elim h σ125 e25
  generalize e25j : gN (sP (sI (sI (sI (sI σ105 100 j5 0 ((-9))) 100 j5 1 ((-9))) 100 j5 2 ((-9))) 100 j5 3 ((-9))) 5100 x0 0 (some j5)) 101 = j25 at hN25 ⊢
  have h := lt_elim h j25 e25j
  have hp4 : x0 < gN σ125 0 := (grN e25 hp3 (by decide))
  show Z κ (2, 8) Q0 35 [(0, vo ad125 0 (some x0))] [vo ad125 101 (some j25), vo ad125 0 (some x0)] ad125 σ125
  refine z_pR (K2 := 101) I0 F C lpf_X0_15 (by decide) rfl (Or.inl hp4) hN25 dX0_init_35 ?_
  show Z κ (2, 8) Q0 38 _ _ _ (sP σ125 5101 x0 0 (some j25))
  refine z_aload_n C 0 dX0_init_38 rfl ?_
  refine z_bipush C dX0_init_39 (by decide) ?_
  refine z_newarr (atype := .int) (t0 := 0) C ar_103 rfl lac_int (fun _ => rfl) (by decide) rfl (by decide) (fun q => noT F q) (csOK_le hcs (by decide) (by decide)) dX0_init_41 (fun ad129 hA29 => ?_)
  rw [voA (K2 := 0) (r := some x0) hA29 (by decide)]
  have hGc : Grw σ0 ad0 (sP σ125 5101 x0 0 (some j25)) ad125 := hG25
  have hG29 := hGc.nwA hA29
  have hN29 : gN (sP σ125 5101 x0 0 (some j25)) 103 < gN (nwA (sP σ125 5101 x0 0 (some j25)) 103) 103 := nwA_lt
  generalize e29 : nwA (sP σ125 5101 x0 0 (some j25)) 103 = σ129 at hG29 hN29 ⊢
  have h := lt_elim h σ129 e29
  generalize e29j : gN (sP σ125 5101 x0 0 (some j25)) 103 = j29 at hN29 ⊢
  have h := lt_elim h j29 e29j
  have hp5 : x0 < gN σ129 0 := (grN e29 hp4 (by decide))
  show Z κ (3, 16) Q0 43 [(0, vo ad129 0 (some x0))] [vo ad129 103 (some j29), vo ad129 0 (some x0)] ad129 σ129
  refine z_pR (K2 := 103) I0 F C lpf_X0_18 (by decide) rfl (Or.inl hp5) hN29 dX0_init_43 ?_
  show Z κ (3, 16) Q0 46 _ _ _ (sP σ129 5103 x0 0 (some j29))
  refine z_aload_n C 0 dX0_init_46 rfl ?_
  refine z_bipush C dX0_init_47 (by decide) ?_
  refine z_newarr (atype := .int) (t0 := 0) C ar_104 rfl lac_int (fun _ => rfl) (by decide) rfl (by decide) (fun q => noT F q) (csOK_le hcs (by decide) (by decide)) dX0_init_49 (fun ad133 hA33 => ?_)
  rw [voA (K2 := 0) (r := some x0) hA33 (by decide)]
  have hGc : Grw σ0 ad0 (sP σ129 5103 x0 0 (some j29)) ad129 := hG29
  have hG33 := hGc.nwA hA33
  have hN33 : gN (sP σ129 5103 x0 0 (some j29)) 104 < gN (nwA (sP σ129 5103 x0 0 (some j29)) 104) 104 := nwA_lt
  generalize e33 : nwA (sP σ129 5103 x0 0 (some j29)) 104 = σ133 at hG33 hN33 ⊢
  have h := lt_elim h σ133 e33
  generalize e33j : gN (sP σ129 5103 x0 0 (some j29)) 104 = j33 at hN33 ⊢
  have h := lt_elim h j33 e33j
  have hp6 : x0 < gN σ133 0 := (grN e33 hp5 (by decide))
  show Z κ (4, 24) Q0 51 [(0, vo ad133 0 (some x0))] [vo ad133 104 (some j33), vo ad133 0 (some x0)] ad133 σ133
  refine z_pR (K2 := 104) I0 F C lpf_X0_21 (by decide) rfl (Or.inl hp6) hN33 dX0_init_51 ?_
  show Z κ (4, 24) Q0 54 _ _ _ (sP σ133 5104 x0 0 (some j33))
  refine z_aload_n C 0 dX0_init_54 rfl ?_
  refine z_bipush C dX0_init_55 (by decide) ?_
  refine z_newarr (atype := .int) (t0 := 0) C ar_105 rfl lac_int (fun _ => rfl) (by decide) rfl (by decide) (fun q => noT F q) (csOK_le hcs (by decide) (by decide)) dX0_init_57 (fun ad137 hA37 => ?_)
  rw [voA (K2 := 0) (r := some x0) hA37 (by decide)]
  have hGc : Grw σ0 ad0 (sP σ133 5104 x0 0 (some j33)) ad133 := hG33
  have hG37 := hGc.nwA hA37
  have hN37 : gN (sP σ133 5104 x0 0 (some j33)) 105 < gN (nwA (sP σ133 5104 x0 0 (some j33)) 105) 105 := nwA_lt
  generalize e37 : nwA (sP σ133 5104 x0 0 (some j33)) 105 = σ137 at hG37 hN37 ⊢
  have h := lt_elim h σ137 e37
  generalize e37j : gN (sP σ133 5104 x0 0 (some j33)) 105 = j37 at hN37 ⊢
  have h := lt_elim h j37 e37j
  have hp7 : x0 < gN σ137 0 := (grN e37 hp6 (by decide))
  show Z κ (5, 32) Q0 59 [(0, vo ad137 0 (some x0))] [vo ad137 105 (some j37), vo ad137 0 (some x0)] ad137 σ137
  refine z_pR (K2 := 105) I0 F C lpf_X0_24 (by decide) rfl (Or.inl hp7) hN37 dX0_init_59 ?_
  show Z κ (5, 32) Q0 62 _ _ _ (sP σ137 5105 x0 0 (some j37))
  refine z_aload_n C 0 dX0_init_62 rfl ?_
  refine z_bipush C dX0_init_63 (by decide) ?_
  refine z_newarr (atype := .int) (t0 := 0) C ar_106 rfl lac_int (fun _ => rfl) (by decide) rfl (by decide) (fun q => noT F q) (csOK_le hcs (by decide) (by decide)) dX0_init_65 (fun ad141 hA41 => ?_)
  rw [voA (K2 := 0) (r := some x0) hA41 (by decide)]
  have hGc : Grw σ0 ad0 (sP σ137 5105 x0 0 (some j37)) ad137 := hG37
  have hG41 := hGc.nwA hA41
  have hN41 : gN (sP σ137 5105 x0 0 (some j37)) 106 < gN (nwA (sP σ137 5105 x0 0 (some j37)) 106) 106 := nwA_lt
  generalize e41 : nwA (sP σ137 5105 x0 0 (some j37)) 106 = σ141 at hG41 hN41 ⊢
  have h := lt_elim h σ141 e41
  generalize e41j : gN (sP σ137 5105 x0 0 (some j37)) 106 = j41 at hN41 ⊢
  have h := lt_elim h j41 e41j
  have hp8 : x0 < gN σ141 0 := (grN e41 hp7 (by decide))
  show Z κ (6, 40) Q0 67 [(0, vo ad141 0 (some x0))] [vo ad141 106 (some j41), vo ad141 0 (some x0)] ad141 σ141
  refine z_pR (K2 := 106) I0 F C lpf_X0_27 (by decide) rfl (Or.inl hp8) hN41 dX0_init_67 ?_
  show Z κ (6, 40) Q0 70 _ _ _ (sP σ141 5106 x0 0 (some j41))
  refine z_aload_n C 0 dX0_init_70 rfl ?_
  refine z_bipush C dX0_init_71 (by decide) ?_
  refine z_newarr (atype := .int) (t0 := 0) C ar_107 rfl lac_int (fun _ => rfl) (by decide) rfl (by decide) (fun q => noT F q) (csOK_le hcs (by decide) (by decide)) dX0_init_73 (fun ad145 hA45 => ?_)
  rw [voA (K2 := 0) (r := some x0) hA45 (by decide)]
  have hGc : Grw σ0 ad0 (sP σ141 5106 x0 0 (some j41)) ad141 := hG41
  have hG45 := hGc.nwA hA45
  have hN45 : gN (sP σ141 5106 x0 0 (some j41)) 107 < gN (nwA (sP σ141 5106 x0 0 (some j41)) 107) 107 := nwA_lt
  generalize e45 : nwA (sP σ141 5106 x0 0 (some j41)) 107 = σ145 at hG45 hN45 ⊢
  have h := lt_elim h σ145 e45
  generalize e45j : gN (sP σ141 5106 x0 0 (some j41)) 107 = j45 at hN45 ⊢
  have h := lt_elim h j45 e45j
  have hp9 : x0 < gN σ145 0 := (grN e45 hp8 (by decide))
  show Z κ (7, 48) Q0 75 [(0, vo ad145 0 (some x0))] [vo ad145 107 (some j45), vo ad145 0 (some x0)] ad145 σ145
  refine z_pR (K2 := 107) I0 F C lpf_X0_30 (by decide) rfl (Or.inl hp9) hN45 dX0_init_75 ?_
  show Z κ (7, 48) Q0 78 _ _ _ (sP σ145 5107 x0 0 (some j45))
  refine z_aload_n C 0 dX0_init_78 rfl ?_
  refine z_sipush C dX0_init_79 (by decide) ?_
  refine z_newarr (atype := .boolean) (t0 := 1) C ar_108 rfl lac_boolean (fun _ => rfl) (by decide) rfl (by decide) (fun q => noT F q) (csOK_le hcs (by decide) (by decide)) dX0_init_82 (fun ad149 hA49 => ?_)
  rw [voA (K2 := 0) (r := some x0) hA49 (by decide)]
  have hGc : Grw σ0 ad0 (sP σ145 5107 x0 0 (some j45)) ad145 := hG45
  have hG49 := hGc.nwA hA49
  have hN49 : gN (sP σ145 5107 x0 0 (some j45)) 108 < gN (nwA (sP σ145 5107 x0 0 (some j45)) 108) 108 := nwA_lt
  generalize e49 : nwA (sP σ145 5107 x0 0 (some j45)) 108 = σ149 at hG49 hN49 ⊢
  have h := lt_elim h σ149 e49
  generalize e49j : gN (sP σ145 5107 x0 0 (some j45)) 108 = j49 at hN49 ⊢
  have h := lt_elim h j49 e49j
  have hp10 : x0 < gN σ149 0 := (grN e49 hp9 (by decide))
  show Z κ (8, 304) Q0 84 [(0, vo ad149 0 (some x0))] [vo ad149 108 (some j49), vo ad149 0 (some x0)] ad149 σ149
  refine z_pR (K2 := 108) I0 F C lpf_X0_33 (by decide) rfl (Or.inl hp10) hN49 dX0_init_84 ?_
  show Z κ (8, 304) Q0 87 _ _ _ (sP σ149 5108 x0 0 (some j49))
  have hGc : Grw σ0 ad0 (sP σ149 5108 x0 0 (some j49)) ad149 := hG49
  exact tail ad149 (sP σ149 5108 x0 0 (some j49)) hp10 hGc h
set_option maxRecDepth 20000 in
set_option maxHeartbeats 8000000 in
theorem sgX0_init_1 (x0 : Nat) {κ : Cxt} {Q0 : State → Prop} {Xp : Unit × St → Prop} {ad0 : Nat → Nat → Nat} {σ0 : St} (C : Cx κ RX0 cX0_init 1 none 1) (F : isF κ) (I0 : isInit κ) (hcs : csOK κ (9, 560)) (tail : ∀ (ad : Nat → Nat → Nat) (σ : St), x0 < gN σ 0 → Grw σ0 ad0 σ ad → wpO (fX0_init_t x0 σ) Xp → Z κ (9, 560) Q0 96 [(0, vo ad 0 (some x0))] [] ad σ) : ∀ (ads : Nat → Nat → Nat) (σs : St), x0 < gN σs 0 → Grw σ0 ad0 σs ads → wpO (fX0_init_s1 x0 σs) Xp → Z κ (8, 304) Q0 87 [(0, vo ads 0 (some x0))] [] ads σs := by
  intro ads σs hx0 hGs h
  unfold fX0_init_s1 at h
  show Z κ (8, 304) Q0 87 [(0, vo ads 0 (some x0))] [] ads σs
  refine z_aload_n C 0 dX0_init_87 rfl ?_
  refine z_sipush C dX0_init_88 (by decide) ?_
  refine z_newarr (atype := .boolean) (t0 := 1) C ar_109 rfl lac_boolean (fun _ => rfl) (by decide) rfl (by decide) (fun q => noT F q) (csOK_le hcs (by decide) (by decide)) dX0_init_91 (fun ad103 hA3 => ?_)
  rw [voA (K2 := 0) (r := some x0) hA3 (by decide)]
  have hGc : Grw σ0 ad0 σs ads := hGs
  have hG3 := hGc.nwA hA3
  have hN3 : gN σs 109 < gN (nwA σs 109) 109 := nwA_lt
  generalize e3 : nwA σs 109 = σ103 at hG3 hN3 ⊢
  have h := lt_elim h σ103 e3
  generalize e3j : gN σs 109 = j3 at hN3 ⊢
  have h := lt_elim h j3 e3j
  have hp11 : x0 < gN σ103 0 := (grN e3 hx0 (by decide))
  show Z κ (9, 560) Q0 93 [(0, vo ad103 0 (some x0))] [vo ad103 109 (some j3), vo ad103 0 (some x0)] ad103 σ103
  refine z_pR (K2 := 109) I0 F C lpf_X0_37 (by decide) rfl (Or.inl hp11) hN3 dX0_init_93 ?_
  show Z κ (9, 560) Q0 96 _ _ _ (sP σ103 5109 x0 0 (some j3))
  have hGc : Grw σ0 ad0 (sP σ103 5109 x0 0 (some j3)) ad103 := hG3
  exact tail ad103 (sP σ103 5109 x0 0 (some j3)) hp11 hGc h
set_option maxRecDepth 20000 in
set_option maxHeartbeats 8000000 in
theorem ct_X0_init (x0 : Nat) : CtA false yX0_init cX0_init 1 none 1 9 560 (fun ad => [vo ad 0 (some x0)]) (fX0_init x0) enV okV (fun σ => x0 < gN σ 0) := by
  refine CtA.of (by decide) (fun ad => Nat.le_of_ble_eq_true rfl) ?_
  intro κ ad0 σ0 X C _ F I0 hcs hx0 h
  have F : isF κ := F rfl
  have I0 : isInit κ := I0 rfl
  have C : Cx κ RX0 cX0_init 1 none 1 := C
  generalize hQ : QmA κ false 9 560 ad0 σ0 enV okV X = Q0
  have tail : ∀ (ad : Nat → Nat → Nat) (σ : St), x0 < gN σ 0 → Grw σ0 ad0 σ ad → wpO (fX0_init_t x0 σ) (fun q => X q.1 q.2) → Z κ (9, 560) Q0 96 [(0, vo ad 0 (some x0))] [] ad σ := by
    intro ad σ hx0 hG h
    unfold fX0_init_t at h
    refine z_rng (fun hI1 hJ2 => ?_)
    have h := wpO_some.mp h
    rw [← hQ]
    exact z_returnA C dX0_init_96 (hG.eN rfl) h (fun q => by cases q)
  unfold fX0_init at h
  show Z κ (0, 0) Q0 0 [(0, vo ad0 0 (some x0))] [] ad0 σ0
  exact (sgX0_init_0 x0 C F I0 hcs (sgX0_init_1 x0 C F I0 hcs tail)) ad0 σ0 hx0 Grw.rf h
noncomputable def fX2_init_t (x0 : Nat) (σ : St) : Option (Unit × St) :=
  some ((), σ)
noncomputable def fX2_init_s0 (x0 : Nat) (σs : St) : Option (Unit × St) :=
  lt (nwA σs 301) (fun σ105 => lt (gN σs 301) (fun j5 => lt (nwA (sP σ105 5301 x0 0 (some j5)) 302) (fun σ109 => lt (gN (sP σ105 5301 x0 0 (some j5)) 302) (fun j9 => lt (nwA (sP σ109 5302 x0 0 (some j9)) 303) (fun σ113 => lt (gN (sP σ109 5302 x0 0 (some j9)) 303) (fun j13 => lt (nwA (sP σ113 5303 x0 0 (some j13)) 304) (fun σ117 => lt (gN (sP σ113 5303 x0 0 (some j13)) 304) (fun j17 => lt (nwA (sI (sP (sI (sI (sI (sI (sI (sI (sI (sI (sI σ117 304 j17 0 100) 304 j17 1 100) 304 j17 2 100) 304 j17 3 100) 304 j17 4 100) 304 j17 5 100) 304 j17 6 100) 304 j17 7 100) 304 j17 8 100) 5304 x0 0 (some j17)) 305 x0 0 1) 306) (fun σ160 => lt (gN (sI (sP (sI (sI (sI (sI (sI (sI (sI (sI (sI σ117 304 j17 0 100) 304 j17 1 100) 304 j17 2 100) 304 j17 3 100) 304 j17 4 100) 304 j17 5 100) 304 j17 6 100) 304 j17 7 100) 304 j17 8 100) 5304 x0 0 (some j17)) 305 x0 0 1) 306) (fun j60 => lt (nwA (sP σ160 5306 x0 0 (some j60)) 307) (fun σ164 => lt (gN (sP σ160 5306 x0 0 (some j60)) 307) (fun j64 => fX2_init_t x0 (sP σ164 5307 x0 0 (some j64))))))))))))))
noncomputable def fX2_init (x0 : Nat) (σ0 : St) : Option (Unit × St) :=
  fX2_init_s0 x0 σ0
set_option maxRecDepth 20000 in
set_option maxHeartbeats 8000000 in
theorem sgX2_init_0 (x0 : Nat) {κ : Cxt} {Q0 : State → Prop} {Xp : Unit × St → Prop} {ad0 : Nat → Nat → Nat} {σ0 : St} (C : Cx κ RX2 cX2_init 1 none 1) (F : isF κ) (I0 : isInit κ) (hcs : csOK κ (6, 297)) (tail : ∀ (ad : Nat → Nat → Nat) (σ : St), x0 < gN σ 2 → Grw σ0 ad0 σ ad → wpO (fX2_init_t x0 σ) Xp → Z κ (6, 297) Q0 106 [(0, vo ad 2 (some x0))] [] ad σ) : ∀ (ads : Nat → Nat → Nat) (σs : St), x0 < gN σs 2 → Grw σ0 ad0 σs ads → wpO (fX2_init_s0 x0 σs) Xp → Z κ (0, 0) Q0 0 [(0, vo ads 2 (some x0))] [] ads σs := by
  intro ads σs hx0 hGs h
  unfold fX2_init_s0 at h
  show Z κ (0, 0) Q0 0 [(0, vo ads 2 (some x0))] [] ads σs
  refine z_aload_n C 0 dX2_init_0 rfl ?_
  refine z_objInit (st := []) C (by decide) lo_X2_3 lo_i lo_c (Nat.le_of_ble_eq_true rfl) dX2_init_1 ?_
  refine z_aload_n C 0 dX2_init_4 rfl ?_
  refine z_bipush C dX2_init_5 (by decide) ?_
  refine z_newarr (atype := .int) (t0 := 0) C ar_301 rfl lac_int (fun _ => rfl) (by decide) rfl (by decide) (fun q => noT F q) (csOK_le hcs (by decide) (by decide)) dX2_init_7 (fun ad105 hA5 => ?_)
  rw [voA (K2 := 2) (r := some x0) hA5 (by decide)]
  have hGc : Grw σ0 ad0 σs ads := hGs
  have hG5 := hGc.nwA hA5
  have hN5 : gN σs 301 < gN (nwA σs 301) 301 := nwA_lt
  generalize e5 : nwA σs 301 = σ105 at hG5 hN5 ⊢
  have h := lt_elim h σ105 e5
  generalize e5j : gN σs 301 = j5 at hN5 ⊢
  have h := lt_elim h j5 e5j
  have hp3 : x0 < gN σ105 2 := (grN e5 hx0 (by decide))
  show Z κ (1, 8) Q0 9 [(0, vo ad105 2 (some x0))] [vo ad105 301 (some j5), vo ad105 2 (some x0)] ad105 σ105
  refine z_pR (K2 := 301) I0 F C lpf_X2_9 (by decide) rfl (Or.inl hp3) hN5 dX2_init_9 ?_
  show Z κ (1, 8) Q0 12 _ _ _ (sP σ105 5301 x0 0 (some j5))
  refine z_aload_n C 0 dX2_init_12 rfl ?_
  refine z_bipush C dX2_init_13 (by decide) ?_
  refine z_newarr (atype := .int) (t0 := 0) C ar_302 rfl lac_int (fun _ => rfl) (by decide) rfl (by decide) (fun q => noT F q) (csOK_le hcs (by decide) (by decide)) dX2_init_15 (fun ad109 hA9 => ?_)
  rw [voA (K2 := 2) (r := some x0) hA9 (by decide)]
  have hGc : Grw σ0 ad0 (sP σ105 5301 x0 0 (some j5)) ad105 := hG5
  have hG9 := hGc.nwA hA9
  have hN9 : gN (sP σ105 5301 x0 0 (some j5)) 302 < gN (nwA (sP σ105 5301 x0 0 (some j5)) 302) 302 := nwA_lt
  generalize e9 : nwA (sP σ105 5301 x0 0 (some j5)) 302 = σ109 at hG9 hN9 ⊢
  have h := lt_elim h σ109 e9
  generalize e9j : gN (sP σ105 5301 x0 0 (some j5)) 302 = j9 at hN9 ⊢
  have h := lt_elim h j9 e9j
  have hp4 : x0 < gN σ109 2 := (grN e9 hp3 (by decide))
  show Z κ (2, 16) Q0 17 [(0, vo ad109 2 (some x0))] [vo ad109 302 (some j9), vo ad109 2 (some x0)] ad109 σ109
  refine z_pR (K2 := 302) I0 F C lpf_X2_15 (by decide) rfl (Or.inl hp4) hN9 dX2_init_17 ?_
  show Z κ (2, 16) Q0 20 _ _ _ (sP σ109 5302 x0 0 (some j9))
  refine z_aload_n C 0 dX2_init_20 rfl ?_
  refine z_bipush C dX2_init_21 (by decide) ?_
  refine z_newarr (atype := .int) (t0 := 0) C ar_303 rfl lac_int (fun _ => rfl) (by decide) rfl (by decide) (fun q => noT F q) (csOK_le hcs (by decide) (by decide)) dX2_init_23 (fun ad113 hA13 => ?_)
  rw [voA (K2 := 2) (r := some x0) hA13 (by decide)]
  have hGc : Grw σ0 ad0 (sP σ109 5302 x0 0 (some j9)) ad109 := hG9
  have hG13 := hGc.nwA hA13
  have hN13 : gN (sP σ109 5302 x0 0 (some j9)) 303 < gN (nwA (sP σ109 5302 x0 0 (some j9)) 303) 303 := nwA_lt
  generalize e13 : nwA (sP σ109 5302 x0 0 (some j9)) 303 = σ113 at hG13 hN13 ⊢
  have h := lt_elim h σ113 e13
  generalize e13j : gN (sP σ109 5302 x0 0 (some j9)) 303 = j13 at hN13 ⊢
  have h := lt_elim h j13 e13j
  have hp5 : x0 < gN σ113 2 := (grN e13 hp4 (by decide))
  show Z κ (3, 24) Q0 25 [(0, vo ad113 2 (some x0))] [vo ad113 303 (some j13), vo ad113 2 (some x0)] ad113 σ113
  refine z_pR (K2 := 303) I0 F C lpf_X2_18 (by decide) rfl (Or.inl hp5) hN13 dX2_init_25 ?_
  show Z κ (3, 24) Q0 28 _ _ _ (sP σ113 5303 x0 0 (some j13))
  refine z_aload_n C 0 dX2_init_28 rfl ?_
  refine z_bipush C dX2_init_29 (by decide) ?_
  refine z_newarr (atype := .int) (t0 := 0) C ar_304 rfl lac_int (fun _ => rfl) (by decide) rfl (by decide) (fun q => noT F q) (csOK_le hcs (by decide) (by decide)) dX2_init_31 (fun ad117 hA17 => ?_)
  rw [voA (K2 := 2) (r := some x0) hA17 (by decide)]
  have hGc : Grw σ0 ad0 (sP σ113 5303 x0 0 (some j13)) ad113 := hG13
  have hG17 := hGc.nwA hA17
  have hN17 : gN (sP σ113 5303 x0 0 (some j13)) 304 < gN (nwA (sP σ113 5303 x0 0 (some j13)) 304) 304 := nwA_lt
  generalize e17 : nwA (sP σ113 5303 x0 0 (some j13)) 304 = σ117 at hG17 hN17 ⊢
  have h := lt_elim h σ117 e17
  generalize e17j : gN (sP σ113 5303 x0 0 (some j13)) 304 = j17 at hN17 ⊢
  have h := lt_elim h j17 e17j
  have hp6 : x0 < gN σ117 2 := (grN e17 hp5 (by decide))
  show Z κ (4, 33) Q0 33 [(0, vo ad117 2 (some x0))] [vo ad117 304 (some j17), vo ad117 2 (some x0)] ad117 σ117
  refine z_dup C dX2_init_33 rfl ?_
  refine z_iconst C dX2_init_34 ?_
  refine z_bipush C dX2_init_35 (by decide) ?_
  refine z_iastore C ar_304 (Or.inl hN17) (by decide) (by decide) (by decide) dX2_init_37 ?_
  show Z κ (4, 33) Q0 38 _ _ _ (sI σ117 304 j17 0 100)
  refine z_dup C dX2_init_38 rfl ?_
  refine z_iconst C dX2_init_39 ?_
  refine z_bipush C dX2_init_40 (by decide) ?_
  refine z_iastore C ar_304 (Or.inl hN17) (by decide) (by decide) (by decide) dX2_init_42 ?_
  show Z κ (4, 33) Q0 43 _ _ _ (sI (sI σ117 304 j17 0 100) 304 j17 1 100)
  refine z_dup C dX2_init_43 rfl ?_
  refine z_iconst C dX2_init_44 ?_
  refine z_bipush C dX2_init_45 (by decide) ?_
  refine z_iastore C ar_304 (Or.inl hN17) (by decide) (by decide) (by decide) dX2_init_47 ?_
  show Z κ (4, 33) Q0 48 _ _ _ (sI (sI (sI σ117 304 j17 0 100) 304 j17 1 100) 304 j17 2 100)
  refine z_dup C dX2_init_48 rfl ?_
  refine z_iconst C dX2_init_49 ?_
  refine z_bipush C dX2_init_50 (by decide) ?_
  refine z_iastore C ar_304 (Or.inl hN17) (by decide) (by decide) (by decide) dX2_init_52 ?_
  show Z κ (4, 33) Q0 53 _ _ _ (sI (sI (sI (sI σ117 304 j17 0 100) 304 j17 1 100) 304 j17 2 100) 304 j17 3 100)
  refine z_dup C dX2_init_53 rfl ?_
  refine z_iconst C dX2_init_54 ?_
  refine z_bipush C dX2_init_55 (by decide) ?_
  refine z_iastore C ar_304 (Or.inl hN17) (by decide) (by decide) (by decide) dX2_init_57 ?_
  show Z κ (4, 33) Q0 58 _ _ _ (sI (sI (sI (sI (sI σ117 304 j17 0 100) 304 j17 1 100) 304 j17 2 100) 304 j17 3 100) 304 j17 4 100)
  refine z_dup C dX2_init_58 rfl ?_
  refine z_iconst C dX2_init_59 ?_
  refine z_bipush C dX2_init_60 (by decide) ?_
  refine z_iastore C ar_304 (Or.inl hN17) (by decide) (by decide) (by decide) dX2_init_62 ?_
  show Z κ (4, 33) Q0 63 _ _ _ (sI (sI (sI (sI (sI (sI σ117 304 j17 0 100) 304 j17 1 100) 304 j17 2 100) 304 j17 3 100) 304 j17 4 100) 304 j17 5 100)
  refine z_dup C dX2_init_63 rfl ?_
  refine z_bipush C dX2_init_64 (by decide) ?_
  refine z_bipush C dX2_init_66 (by decide) ?_
  refine z_iastore C ar_304 (Or.inl hN17) (by decide) (by decide) (by decide) dX2_init_68 ?_
  show Z κ (4, 33) Q0 69 _ _ _ (sI (sI (sI (sI (sI (sI (sI σ117 304 j17 0 100) 304 j17 1 100) 304 j17 2 100) 304 j17 3 100) 304 j17 4 100) 304 j17 5 100) 304 j17 6 100)
  refine z_dup C dX2_init_69 rfl ?_
  refine z_bipush C dX2_init_70 (by decide) ?_
  refine z_bipush C dX2_init_72 (by decide) ?_
  refine z_iastore C ar_304 (Or.inl hN17) (by decide) (by decide) (by decide) dX2_init_74 ?_
  show Z κ (4, 33) Q0 75 _ _ _ (sI (sI (sI (sI (sI (sI (sI (sI σ117 304 j17 0 100) 304 j17 1 100) 304 j17 2 100) 304 j17 3 100) 304 j17 4 100) 304 j17 5 100) 304 j17 6 100) 304 j17 7 100)
  refine z_dup C dX2_init_75 rfl ?_
  refine z_bipush C dX2_init_76 (by decide) ?_
  refine z_bipush C dX2_init_78 (by decide) ?_
  refine z_iastore C ar_304 (Or.inl hN17) (by decide) (by decide) (by decide) dX2_init_80 ?_
  show Z κ (4, 33) Q0 81 _ _ _ (sI (sI (sI (sI (sI (sI (sI (sI (sI σ117 304 j17 0 100) 304 j17 1 100) 304 j17 2 100) 304 j17 3 100) 304 j17 4 100) 304 j17 5 100) 304 j17 6 100) 304 j17 7 100) 304 j17 8 100)
  refine z_pR (K2 := 304) I0 F C lpf_X2_21 (by decide) rfl (Or.inl hp6) hN17 dX2_init_81 ?_
  show Z κ (4, 33) Q0 84 _ _ _ (sP (sI (sI (sI (sI (sI (sI (sI (sI (sI σ117 304 j17 0 100) 304 j17 1 100) 304 j17 2 100) 304 j17 3 100) 304 j17 4 100) 304 j17 5 100) 304 j17 6 100) 304 j17 7 100) 304 j17 8 100) 5304 x0 0 (some j17))
  refine z_aload_n C 0 dX2_init_84 rfl ?_
  refine z_iconst C dX2_init_85 ?_
  refine z_pF I0 C lpf_X2_24 (Or.inl hp6) (by decide) dX2_init_86 ?_
  refine z_aload_n C 0 dX2_init_89 rfl ?_
  refine z_bipush C dX2_init_90 (by decide) ?_
  refine z_newarr (atype := .long) (t0 := 2) C ar_306 rfl lac_long (fun _ => rfl) (by decide) rfl (by decide) (fun q => noT F q) (csOK_le hcs (by decide) (by decide)) dX2_init_92 (fun ad160 hA60 => ?_)
  rw [voA (K2 := 2) (r := some x0) hA60 (by decide)]
  have hGc : Grw σ0 ad0 (sI (sP (sI (sI (sI (sI (sI (sI (sI (sI (sI σ117 304 j17 0 100) 304 j17 1 100) 304 j17 2 100) 304 j17 3 100) 304 j17 4 100) 304 j17 5 100) 304 j17 6 100) 304 j17 7 100) 304 j17 8 100) 5304 x0 0 (some j17)) 305 x0 0 1) ad117 := hG17
  have hG60 := hGc.nwA hA60
  have hN60 : gN (sI (sP (sI (sI (sI (sI (sI (sI (sI (sI (sI σ117 304 j17 0 100) 304 j17 1 100) 304 j17 2 100) 304 j17 3 100) 304 j17 4 100) 304 j17 5 100) 304 j17 6 100) 304 j17 7 100) 304 j17 8 100) 5304 x0 0 (some j17)) 305 x0 0 1) 306 < gN (nwA (sI (sP (sI (sI (sI (sI (sI (sI (sI (sI (sI σ117 304 j17 0 100) 304 j17 1 100) 304 j17 2 100) 304 j17 3 100) 304 j17 4 100) 304 j17 5 100) 304 j17 6 100) 304 j17 7 100) 304 j17 8 100) 5304 x0 0 (some j17)) 305 x0 0 1) 306) 306 := nwA_lt
  generalize e60 : nwA (sI (sP (sI (sI (sI (sI (sI (sI (sI (sI (sI σ117 304 j17 0 100) 304 j17 1 100) 304 j17 2 100) 304 j17 3 100) 304 j17 4 100) 304 j17 5 100) 304 j17 6 100) 304 j17 7 100) 304 j17 8 100) 5304 x0 0 (some j17)) 305 x0 0 1) 306 = σ160 at hG60 hN60 ⊢
  have h := lt_elim h σ160 e60
  generalize e60j : gN (sI (sP (sI (sI (sI (sI (sI (sI (sI (sI (sI σ117 304 j17 0 100) 304 j17 1 100) 304 j17 2 100) 304 j17 3 100) 304 j17 4 100) 304 j17 5 100) 304 j17 6 100) 304 j17 7 100) 304 j17 8 100) 5304 x0 0 (some j17)) 305 x0 0 1) 306 = j60 at hN60 ⊢
  have h := lt_elim h j60 e60j
  have hp7 : x0 < gN σ160 2 := (grN e60 hp6 (by decide))
  show Z κ (5, 41) Q0 94 [(0, vo ad160 2 (some x0))] [vo ad160 306 (some j60), vo ad160 2 (some x0)] ad160 σ160
  refine z_pR (K2 := 306) I0 F C lpf_X2_28 (by decide) rfl (Or.inl hp7) hN60 dX2_init_94 ?_
  show Z κ (5, 41) Q0 97 _ _ _ (sP σ160 5306 x0 0 (some j60))
  refine z_aload_n C 0 dX2_init_97 rfl ?_
  refine z_sipush C dX2_init_98 (by decide) ?_
  refine z_newarr (atype := .long) (t0 := 2) C ar_307 rfl lac_long (fun _ => rfl) (by decide) rfl (by decide) (fun q => noT F q) (csOK_le hcs (by decide) (by decide)) dX2_init_101 (fun ad164 hA64 => ?_)
  rw [voA (K2 := 2) (r := some x0) hA64 (by decide)]
  have hGc : Grw σ0 ad0 (sP σ160 5306 x0 0 (some j60)) ad160 := hG60
  have hG64 := hGc.nwA hA64
  have hN64 : gN (sP σ160 5306 x0 0 (some j60)) 307 < gN (nwA (sP σ160 5306 x0 0 (some j60)) 307) 307 := nwA_lt
  generalize e64 : nwA (sP σ160 5306 x0 0 (some j60)) 307 = σ164 at hG64 hN64 ⊢
  have h := lt_elim h σ164 e64
  generalize e64j : gN (sP σ160 5306 x0 0 (some j60)) 307 = j64 at hN64 ⊢
  have h := lt_elim h j64 e64j
  have hp8 : x0 < gN σ164 2 := (grN e64 hp7 (by decide))
  show Z κ (6, 297) Q0 103 [(0, vo ad164 2 (some x0))] [vo ad164 307 (some j64), vo ad164 2 (some x0)] ad164 σ164
  refine z_pR (K2 := 307) I0 F C lpf_X2_32 (by decide) rfl (Or.inl hp8) hN64 dX2_init_103 ?_
  show Z κ (6, 297) Q0 106 _ _ _ (sP σ164 5307 x0 0 (some j64))
  have hGc : Grw σ0 ad0 (sP σ164 5307 x0 0 (some j64)) ad164 := hG64
  exact tail ad164 (sP σ164 5307 x0 0 (some j64)) hp8 hGc h
set_option maxRecDepth 20000 in
set_option maxHeartbeats 8000000 in
theorem ct_X2_init (x0 : Nat) : CtA false yX2_init cX2_init 1 none 1 6 297 (fun ad => [vo ad 2 (some x0)]) (fX2_init x0) enV okV (fun σ => x0 < gN σ 2) := by
  refine CtA.of (by decide) (fun ad => Nat.le_of_ble_eq_true rfl) ?_
  intro κ ad0 σ0 X C _ F I0 hcs hx0 h
  have F : isF κ := F rfl
  have I0 : isInit κ := I0 rfl
  have C : Cx κ RX2 cX2_init 1 none 1 := C
  generalize hQ : QmA κ false 6 297 ad0 σ0 enV okV X = Q0
  have tail : ∀ (ad : Nat → Nat → Nat) (σ : St), x0 < gN σ 2 → Grw σ0 ad0 σ ad → wpO (fX2_init_t x0 σ) (fun q => X q.1 q.2) → Z κ (6, 297) Q0 106 [(0, vo ad 2 (some x0))] [] ad σ := by
    intro ad σ hx0 hG h
    unfold fX2_init_t at h
    refine z_rng (fun hI1 hJ2 => ?_)
    have h := wpO_some.mp h
    rw [← hQ]
    exact z_returnA C dX2_init_106 (hG.eN rfl) h (fun q => by cases q)
  unfold fX2_init at h
  show Z κ (0, 0) Q0 0 [(0, vo ad0 2 (some x0))] [] ad0 σ0
  exact (sgX2_init_0 x0 C F I0 hcs tail) ad0 σ0 hx0 Grw.rf h
noncomputable def fX11_init_t (x0 : Nat) (σ : St) : Option (Unit × St) :=
  some ((), σ)
noncomputable def fX11_init_s1 (x0 : Nat) (σs : St) : Option (Unit × St) :=
  lt (nwO σs 4) (fun σ102 => lt (gN σs 4) (fun j2 => bnd (fX4_init j2 σ102) (fun _ σ104 => lt (nwO (sP σ104 6215 x0 0 (some j2)) 0) (fun σ107 => lt (gN (sP σ104 6215 x0 0 (some j2)) 0) (fun j7 => bnd (fX0_init j7 σ107) (fun _ σ109 => lt (nwO (sP σ109 6216 x0 0 (some j7)) 2) (fun σ112 => lt (gN (sP σ109 6216 x0 0 (some j7)) 2) (fun j12 => bnd (fX2_init j12 σ112) (fun _ σ114 => fX11_init_t x0 (sP σ114 6217 x0 0 (some j12)))))))))))
noncomputable def fX11_init_s0 (x0 : Nat) (σs : St) : Option (Unit × St) :=
  lt (nwO σs 9) (fun σ104 => lt (gN σs 9) (fun j4 => bnd (fX9_init j4 σ104) (fun _ σ106 => lt (nwO (sP σ106 6201 x0 0 (some j4)) 1) (fun σ109 => lt (gN (sP σ106 6201 x0 0 (some j4)) 1) (fun j9 => bnd (fX1_init j9 σ109) (fun _ σ111 => lt (nwA (sP σ111 6202 x0 0 (some j9)) 1203) (fun σ115 => lt (gN (sP σ111 6202 x0 0 (some j9)) 1203) (fun j15 => lt (nwA (sP σ115 6203 x0 0 (some j15)) 1205) (fun σ119 => lt (gN (sP σ115 6203 x0 0 (some j15)) 1205) (fun j19 => lt (nwA (sI (sP σ119 6205 x0 0 (some j19)) 1207 x0 0 30) 1208) (fun σ126 => lt (gN (sI (sP σ119 6205 x0 0 (some j19)) 1207 x0 0 30) 1208) (fun j26 => lt (nwA (sP (sI (sI (sI σ126 1208 j26 0 3) 1208 j26 1 1) 1208 j26 2 5) 6208 x0 0 (some j26)) 1209) (fun σ142 => lt (gN (sP (sI (sI (sI σ126 1208 j26 0 3) 1208 j26 1 1) 1208 j26 2 5) 6208 x0 0 (some j26)) 1209) (fun j42 => lt (nwO (sP σ142 6209 x0 0 (some j42)) 3) (fun σ145 => lt (gN (sP σ142 6209 x0 0 (some j42)) 3) (fun j45 => bnd (fX3_init j45 σ145) (fun _ σ147 => lt (nwA (sP σ147 6211 x0 0 (some j45)) 1213) (fun σ151 => lt (gN (sP σ147 6211 x0 0 (some j45)) 1213) (fun j51 => fX11_init_s1 x0 (sP σ151 6213 x0 0 (some j51)))))))))))))))))))))
noncomputable def fX11_init (x0 : Nat) (σ0 : St) : Option (Unit × St) :=
  fX11_init_s0 x0 σ0
set_option maxRecDepth 20000 in
set_option maxHeartbeats 8000000 in
theorem sgX11_init_0 (x0 : Nat) {κ : Cxt} {Q0 : State → Prop} {Xp : Unit × St → Prop} {ad0 : Nat → Nat → Nat} {σ0 : St} (C : Cx κ RX11 cX11_init 1 none 2) (F : isF κ) (I0 : isInit κ) (hcs : csOK κ (39, 3352)) (tail : ∀ (ad : Nat → Nat → Nat) (σ : St), x0 < gN σ 11 → Grw σ0 ad0 σ ad → wpO (fX11_init_s1 x0 σ) Xp → Z κ (17, 388) Q0 98 [(0, vo ad 11 (some x0))] [] ad σ) : ∀ (ads : Nat → Nat → Nat) (σs : St), x0 < gN σs 11 → Grw σ0 ad0 σs ads → wpO (fX11_init_s0 x0 σs) Xp → Z κ (0, 0) Q0 0 [(0, vo ads 11 (some x0))] [] ads σs := by
  intro ads σs hx0 hGs h
  unfold fX11_init_s0 at h
  show Z κ (0, 0) Q0 0 [(0, vo ads 11 (some x0))] [] ads σs
  refine z_aload_n C 0 dX11_init_0 rfl ?_
  refine z_objInit (st := []) C (by decide) lo_X11_1 lo_i lo_c (Nat.le_of_ble_eq_true rfl) dX11_init_1 ?_
  refine z_aload_n C 0 dX11_init_4 rfl ?_
  refine z_new C lkn_X11_7 (fun q => noT F q) (csOK_le hcs (by decide) (by decide)) dX11_init_5 (fun ad104 hA4 => ?_)
  rw [voA (K2 := 11) (r := some x0) hA4 (by decide)]
  have hGc : Grw σ0 ad0 σs ads := hGs
  have hG4 := hGc.nwO hA4
  have hN4 : gN σs 9 < gN (nwO σs 9) 9 := nwO_lt
  generalize e4 : nwO σs 9 = σ104 at hG4 hN4 ⊢
  have h := lt_elim h σ104 e4
  generalize e4j : gN σs 9 = j4 at hN4 ⊢
  have h := lt_elim h j4 e4j
  have hp3 : x0 < gN σ104 11 := (grO e4 hx0)
  show Z κ (1, 3) Q0 8 [(0, vo ad104 11 (some x0))] [vo ad104 9 (some j4), vo ad104 11 (some x0)] ad104 σ104
  refine z_dup C dX11_init_8 rfl ?_
  refine z_cI (st := [vo ad104 9 (some j4), vo ad104 11 (some x0)]) F C (ct_X9_init j4) lm_X11_9 ln_X9_init rfl dX11_init_9 [] rfl rfl rfl hN4 (by decide) (Nat.le_of_ble_eq_true rfl) (csOK_le hcs (by decide) (by decide)) h (fun _ σ106 ad106 _ hg6 h => ?_)
  show Z κ (3, 35) Q0 12 [(0, vo ad104 11 (some x0))] [vo ad104 9 (some j4), vo ad104 11 (some x0)] ad106 σ106
  rw [voG hg6 hp3]
  have hp4 := (hg6 _ _ hp3).1
  rw [voG hg6 hN4]
  have hp5 := (hg6 _ _ hN4).1
  have hGc : Grw σ0 ad0 σ104 ad104 := hG4
  have hG6 := hGc.trans hg6
  show Z κ (3, 35) Q0 12 [(0, vo ad106 11 (some x0))] [vo ad106 9 (some j4), vo ad106 11 (some x0)] ad106 σ106
  refine z_pR (K2 := 9) I0 F C lpf_X11_10 (by decide) rfl (Or.inl hp4) hp5 dX11_init_12 ?_
  show Z κ (3, 35) Q0 15 _ _ _ (sP σ106 6201 x0 0 (some j4))
  refine z_aload_n C 0 dX11_init_15 rfl ?_
  refine z_new C lkn_X11_16 (fun q => noT F q) (csOK_le hcs (by decide) (by decide)) dX11_init_16 (fun ad109 hA9 => ?_)
  rw [voA (K2 := 11) (r := some x0) hA9 (by decide)]
  have hGc : Grw σ0 ad0 (sP σ106 6201 x0 0 (some j4)) ad106 := hG6
  have hG9 := hGc.nwO hA9
  have hN9 : gN (sP σ106 6201 x0 0 (some j4)) 1 < gN (nwO (sP σ106 6201 x0 0 (some j4)) 1) 1 := nwO_lt
  generalize e9 : nwO (sP σ106 6201 x0 0 (some j4)) 1 = σ109 at hG9 hN9 ⊢
  have h := lt_elim h σ109 e9
  generalize e9j : gN (sP σ106 6201 x0 0 (some j4)) 1 = j9 at hN9 ⊢
  have h := lt_elim h j9 e9j
  have hp6 : x0 < gN σ109 11 := (grO e9 hp4)
  show Z κ (4, 38) Q0 19 [(0, vo ad109 11 (some x0))] [vo ad109 1 (some j9), vo ad109 11 (some x0)] ad109 σ109
  refine z_dup C dX11_init_19 rfl ?_
  refine z_cI (st := [vo ad109 1 (some j9), vo ad109 11 (some x0)]) F C (ct_X1_init j9) lm_X11_18 ln_X1_init rfl dX11_init_20 [] rfl rfl rfl hN9 (by decide) (Nat.le_of_ble_eq_true rfl) (csOK_le hcs (by decide) (by decide)) h (fun _ σ111 ad111 _ hg11 h => ?_)
  show Z κ (7, 62) Q0 23 [(0, vo ad109 11 (some x0))] [vo ad109 1 (some j9), vo ad109 11 (some x0)] ad111 σ111
  rw [voG hg11 hp6]
  have hp7 := (hg11 _ _ hp6).1
  rw [voG hg11 hN9]
  have hp8 := (hg11 _ _ hN9).1
  have hGc : Grw σ0 ad0 σ109 ad109 := hG9
  have hG11 := hGc.trans hg11
  show Z κ (7, 62) Q0 23 [(0, vo ad111 11 (some x0))] [vo ad111 1 (some j9), vo ad111 11 (some x0)] ad111 σ111
  refine z_pR (K2 := 1) I0 F C lpf_X11_19 (by decide) rfl (Or.inl hp7) hp8 dX11_init_23 ?_
  show Z κ (7, 62) Q0 26 _ _ _ (sP σ111 6202 x0 0 (some j9))
  refine z_aload_n C 0 dX11_init_26 rfl ?_
  refine z_bipush C dX11_init_27 (by decide) ?_
  refine z_newref (K := 7) (t0 := 4) C ar_1203 lk_X11_23 (by decide) (fun _ => rfl) rfl (by decide) (fun q => noT F q) (csOK_le hcs (by decide) (by decide)) dX11_init_29 (fun ad115 hA15 => ?_)
  rw [voA (K2 := 11) (r := some x0) hA15 (by decide)]
  have hGc : Grw σ0 ad0 (sP σ111 6202 x0 0 (some j9)) ad111 := hG11
  have hG15 := hGc.nwA hA15
  have hN15 : gN (sP σ111 6202 x0 0 (some j9)) 1203 < gN (nwA (sP σ111 6202 x0 0 (some j9)) 1203) 1203 := nwA_lt
  generalize e15 : nwA (sP σ111 6202 x0 0 (some j9)) 1203 = σ115 at hG15 hN15 ⊢
  have h := lt_elim h σ115 e15
  generalize e15j : gN (sP σ111 6202 x0 0 (some j9)) 1203 = j15 at hN15 ⊢
  have h := lt_elim h j15 e15j
  have hp9 : x0 < gN σ115 11 := (grN e15 hp7 (by decide))
  show Z κ (8, 102) Q0 32 [(0, vo ad115 11 (some x0))] [vo ad115 1203 (some j15), vo ad115 11 (some x0)] ad115 σ115
  refine z_pR (K2 := 1203) I0 F C lpf_X11_25 (by decide) rfl (Or.inl hp9) hN15 dX11_init_32 ?_
  show Z κ (8, 102) Q0 35 _ _ _ (sP σ115 6203 x0 0 (some j15))
  refine z_aload_n C 0 dX11_init_35 rfl ?_
  refine z_bipush C dX11_init_36 (by decide) ?_
  refine z_newref (K := 8) (t0 := 5) C ar_1205 lk_X11_29 (by decide) (fun _ => rfl) rfl (by decide) (fun q => noT F q) (csOK_le hcs (by decide) (by decide)) dX11_init_38 (fun ad119 hA19 => ?_)
  rw [voA (K2 := 11) (r := some x0) hA19 (by decide)]
  have hGc : Grw σ0 ad0 (sP σ115 6203 x0 0 (some j15)) ad115 := hG15
  have hG19 := hGc.nwA hA19
  have hN19 : gN (sP σ115 6203 x0 0 (some j15)) 1205 < gN (nwA (sP σ115 6203 x0 0 (some j15)) 1205) 1205 := nwA_lt
  generalize e19 : nwA (sP σ115 6203 x0 0 (some j15)) 1205 = σ119 at hG19 hN19 ⊢
  have h := lt_elim h σ119 e19
  generalize e19j : gN (sP σ115 6203 x0 0 (some j15)) 1205 = j19 at hN19 ⊢
  have h := lt_elim h j19 e19j
  have hp10 : x0 < gN σ119 11 := (grN e19 hp9 (by decide))
  show Z κ (9, 110) Q0 41 [(0, vo ad119 11 (some x0))] [vo ad119 1205 (some j19), vo ad119 11 (some x0)] ad119 σ119
  refine z_pR (K2 := 1205) I0 F C lpf_X11_31 (by decide) rfl (Or.inl hp10) hN19 dX11_init_41 ?_
  show Z κ (9, 110) Q0 44 _ _ _ (sP σ119 6205 x0 0 (some j19))
  refine z_aload_n C 0 dX11_init_44 rfl ?_
  refine z_bipush C dX11_init_45 (by decide) ?_
  refine z_pF I0 C lpf_X11_35 (Or.inl hp10) (by decide) dX11_init_47 ?_
  refine z_aload_n C 0 dX11_init_50 rfl ?_
  refine z_iconst C dX11_init_51 ?_
  refine z_newarr (atype := .int) (t0 := 0) C ar_1208 rfl lac_int (fun _ => rfl) (by decide) rfl (by decide) (fun q => noT F q) (csOK_le hcs (by decide) (by decide)) dX11_init_52 (fun ad126 hA26 => ?_)
  rw [voA (K2 := 11) (r := some x0) hA26 (by decide)]
  have hGc : Grw σ0 ad0 (sI (sP σ119 6205 x0 0 (some j19)) 1207 x0 0 30) ad119 := hG19
  have hG26 := hGc.nwA hA26
  have hN26 : gN (sI (sP σ119 6205 x0 0 (some j19)) 1207 x0 0 30) 1208 < gN (nwA (sI (sP σ119 6205 x0 0 (some j19)) 1207 x0 0 30) 1208) 1208 := nwA_lt
  generalize e26 : nwA (sI (sP σ119 6205 x0 0 (some j19)) 1207 x0 0 30) 1208 = σ126 at hG26 hN26 ⊢
  have h := lt_elim h σ126 e26
  generalize e26j : gN (sI (sP σ119 6205 x0 0 (some j19)) 1207 x0 0 30) 1208 = j26 at hN26 ⊢
  have h := lt_elim h j26 e26j
  have hp11 : x0 < gN σ126 11 := (grN e26 hp10 (by decide))
  show Z κ (10, 113) Q0 54 [(0, vo ad126 11 (some x0))] [vo ad126 1208 (some j26), vo ad126 11 (some x0)] ad126 σ126
  refine z_dup C dX11_init_54 rfl ?_
  refine z_iconst C dX11_init_55 ?_
  refine z_iconst C dX11_init_56 ?_
  refine z_iastore C ar_1208 (Or.inl hN26) (by decide) (by decide) (by decide) dX11_init_57 ?_
  show Z κ (10, 113) Q0 58 _ _ _ (sI σ126 1208 j26 0 3)
  refine z_dup C dX11_init_58 rfl ?_
  refine z_iconst C dX11_init_59 ?_
  refine z_iconst C dX11_init_60 ?_
  refine z_iastore C ar_1208 (Or.inl hN26) (by decide) (by decide) (by decide) dX11_init_61 ?_
  show Z κ (10, 113) Q0 62 _ _ _ (sI (sI σ126 1208 j26 0 3) 1208 j26 1 1)
  refine z_dup C dX11_init_62 rfl ?_
  refine z_iconst C dX11_init_63 ?_
  refine z_iconst C dX11_init_64 ?_
  refine z_iastore C ar_1208 (Or.inl hN26) (by decide) (by decide) (by decide) dX11_init_65 ?_
  show Z κ (10, 113) Q0 66 _ _ _ (sI (sI (sI σ126 1208 j26 0 3) 1208 j26 1 1) 1208 j26 2 5)
  refine z_pR (K2 := 1208) I0 F C lpf_X11_39 (by decide) rfl (Or.inl hp11) hN26 dX11_init_66 ?_
  show Z κ (10, 113) Q0 69 _ _ _ (sP (sI (sI (sI σ126 1208 j26 0 3) 1208 j26 1 1) 1208 j26 2 5) 6208 x0 0 (some j26))
  refine z_aload_n C 0 dX11_init_69 rfl ?_
  refine z_bipush C dX11_init_70 (by decide) ?_
  refine z_newref (K := 6) (t0 := 6) C ar_1209 lk_X11_43 (by decide) (fun _ => rfl) rfl (by decide) (fun q => noT F q) (csOK_le hcs (by decide) (by decide)) dX11_init_72 (fun ad142 hA42 => ?_)
  rw [voA (K2 := 11) (r := some x0) hA42 (by decide)]
  have hGc : Grw σ0 ad0 (sP (sI (sI (sI σ126 1208 j26 0 3) 1208 j26 1 1) 1208 j26 2 5) 6208 x0 0 (some j26)) ad126 := hG26
  have hG42 := hGc.nwA hA42
  have hN42 : gN (sP (sI (sI (sI σ126 1208 j26 0 3) 1208 j26 1 1) 1208 j26 2 5) 6208 x0 0 (some j26)) 1209 < gN (nwA (sP (sI (sI (sI σ126 1208 j26 0 3) 1208 j26 1 1) 1208 j26 2 5) 6208 x0 0 (some j26)) 1209) 1209 := nwA_lt
  generalize e42 : nwA (sP (sI (sI (sI σ126 1208 j26 0 3) 1208 j26 1 1) 1208 j26 2 5) 6208 x0 0 (some j26)) 1209 = σ142 at hG42 hN42 ⊢
  have h := lt_elim h σ142 e42
  generalize e42j : gN (sP (sI (sI (sI σ126 1208 j26 0 3) 1208 j26 1 1) 1208 j26 2 5) 6208 x0 0 (some j26)) 1209 = j42 at hN42 ⊢
  have h := lt_elim h j42 e42j
  have hp12 : x0 < gN σ142 11 := (grN e42 hp11 (by decide))
  show Z κ (11, 119) Q0 75 [(0, vo ad142 11 (some x0))] [vo ad142 1209 (some j42), vo ad142 11 (some x0)] ad142 σ142
  refine z_pR (K2 := 1209) I0 F C lpf_X11_45 (by decide) rfl (Or.inl hp12) hN42 dX11_init_75 ?_
  show Z κ (11, 119) Q0 78 _ _ _ (sP σ142 6209 x0 0 (some j42))
  refine z_aload_n C 0 dX11_init_78 rfl ?_
  refine z_new C lkn_X11_49 (fun q => noT F q) (csOK_le hcs (by decide) (by decide)) dX11_init_79 (fun ad145 hA45 => ?_)
  rw [voA (K2 := 11) (r := some x0) hA45 (by decide)]
  have hGc : Grw σ0 ad0 (sP σ142 6209 x0 0 (some j42)) ad142 := hG42
  have hG45 := hGc.nwO hA45
  have hN45 : gN (sP σ142 6209 x0 0 (some j42)) 3 < gN (nwO (sP σ142 6209 x0 0 (some j42)) 3) 3 := nwO_lt
  generalize e45 : nwO (sP σ142 6209 x0 0 (some j42)) 3 = σ145 at hG45 hN45 ⊢
  have h := lt_elim h σ145 e45
  generalize e45j : gN (sP σ142 6209 x0 0 (some j42)) 3 = j45 at hN45 ⊢
  have h := lt_elim h j45 e45j
  have hp13 : x0 < gN σ145 11 := (grO e45 hp12)
  show Z κ (12, 129) Q0 82 [(0, vo ad145 11 (some x0))] [vo ad145 3 (some j45), vo ad145 11 (some x0)] ad145 σ145
  refine z_dup C dX11_init_82 rfl ?_
  refine z_cI (st := [vo ad145 3 (some j45), vo ad145 11 (some x0)]) F C (ct_X3_init j45) lm_X11_51 ln_X3_init rfl dX11_init_83 [] rfl rfl rfl hN45 (by decide) (Nat.le_of_ble_eq_true rfl) (csOK_le hcs (by decide) (by decide)) h (fun _ σ147 ad147 _ hg47 h => ?_)
  show Z κ (16, 380) Q0 86 [(0, vo ad145 11 (some x0))] [vo ad145 3 (some j45), vo ad145 11 (some x0)] ad147 σ147
  rw [voG hg47 hp13]
  have hp14 := (hg47 _ _ hp13).1
  rw [voG hg47 hN45]
  have hp15 := (hg47 _ _ hN45).1
  have hGc : Grw σ0 ad0 σ145 ad145 := hG45
  have hG47 := hGc.trans hg47
  show Z κ (16, 380) Q0 86 [(0, vo ad147 11 (some x0))] [vo ad147 3 (some j45), vo ad147 11 (some x0)] ad147 σ147
  refine z_pR (K2 := 3) I0 F C lpf_X11_52 (by decide) rfl (Or.inl hp14) hp15 dX11_init_86 ?_
  show Z κ (16, 380) Q0 89 _ _ _ (sP σ147 6211 x0 0 (some j45))
  refine z_aload_n C 0 dX11_init_89 rfl ?_
  refine z_bipush C dX11_init_90 (by decide) ?_
  refine z_newref (K := 5) (t0 := 7) C ar_1213 lk_X11_56 (by decide) (fun _ => rfl) rfl (by decide) (fun q => noT F q) (csOK_le hcs (by decide) (by decide)) dX11_init_92 (fun ad151 hA51 => ?_)
  rw [voA (K2 := 11) (r := some x0) hA51 (by decide)]
  have hGc : Grw σ0 ad0 (sP σ147 6211 x0 0 (some j45)) ad147 := hG47
  have hG51 := hGc.nwA hA51
  have hN51 : gN (sP σ147 6211 x0 0 (some j45)) 1213 < gN (nwA (sP σ147 6211 x0 0 (some j45)) 1213) 1213 := nwA_lt
  generalize e51 : nwA (sP σ147 6211 x0 0 (some j45)) 1213 = σ151 at hG51 hN51 ⊢
  have h := lt_elim h σ151 e51
  generalize e51j : gN (sP σ147 6211 x0 0 (some j45)) 1213 = j51 at hN51 ⊢
  have h := lt_elim h j51 e51j
  have hp16 : x0 < gN σ151 11 := (grN e51 hp14 (by decide))
  show Z κ (17, 388) Q0 95 [(0, vo ad151 11 (some x0))] [vo ad151 1213 (some j51), vo ad151 11 (some x0)] ad151 σ151
  refine z_pR (K2 := 1213) I0 F C lpf_X11_58 (by decide) rfl (Or.inl hp16) hN51 dX11_init_95 ?_
  show Z κ (17, 388) Q0 98 _ _ _ (sP σ151 6213 x0 0 (some j51))
  have hGc : Grw σ0 ad0 (sP σ151 6213 x0 0 (some j51)) ad151 := hG51
  exact tail ad151 (sP σ151 6213 x0 0 (some j51)) hp16 hGc h
set_option maxRecDepth 20000 in
set_option maxHeartbeats 8000000 in
theorem sgX11_init_1 (x0 : Nat) {κ : Cxt} {Q0 : State → Prop} {Xp : Unit × St → Prop} {ad0 : Nat → Nat → Nat} {σ0 : St} (C : Cx κ RX11 cX11_init 1 none 2) (F : isF κ) (I0 : isInit κ) (hcs : csOK κ (39, 3352)) (tail : ∀ (ad : Nat → Nat → Nat) (σ : St), x0 < gN σ 11 → Grw σ0 ad0 σ ad → wpO (fX11_init_t x0 σ) Xp → Z κ (39, 3352) Q0 131 [(0, vo ad 11 (some x0))] [] ad σ) : ∀ (ads : Nat → Nat → Nat) (σs : St), x0 < gN σs 11 → Grw σ0 ad0 σs ads → wpO (fX11_init_s1 x0 σs) Xp → Z κ (17, 388) Q0 98 [(0, vo ads 11 (some x0))] [] ads σs := by
  intro ads σs hx0 hGs h
  unfold fX11_init_s1 at h
  show Z κ (17, 388) Q0 98 [(0, vo ads 11 (some x0))] [] ads σs
  refine z_aload_n C 0 dX11_init_98 rfl ?_
  refine z_new C lkn_X11_62 (fun q => noT F q) (csOK_le hcs (by decide) (by decide)) dX11_init_99 (fun ad102 hA2 => ?_)
  rw [voA (K2 := 11) (r := some x0) hA2 (by decide)]
  have hGc : Grw σ0 ad0 σs ads := hGs
  have hG2 := hGc.nwO hA2
  have hN2 : gN σs 4 < gN (nwO σs 4) 4 := nwO_lt
  generalize e2 : nwO σs 4 = σ102 at hG2 hN2 ⊢
  have h := lt_elim h σ102 e2
  generalize e2j : gN σs 4 = j2 at hN2 ⊢
  have h := lt_elim h j2 e2j
  have hp17 : x0 < gN σ102 11 := (grO e2 hx0)
  show Z κ (18, 401) Q0 102 [(0, vo ad102 11 (some x0))] [vo ad102 4 (some j2), vo ad102 11 (some x0)] ad102 σ102
  refine z_dup C dX11_init_102 rfl ?_
  refine z_cI (st := [vo ad102 4 (some j2), vo ad102 11 (some x0)]) F C (ct_X4_init j2) lm_X11_64 ln_X4_init rfl dX11_init_103 [] rfl rfl rfl hN2 (by decide) (Nat.le_of_ble_eq_true rfl) (csOK_le hcs (by decide) (by decide)) h (fun _ σ104 ad104 _ hg4 h => ?_)
  show Z κ (22, 2473) Q0 106 [(0, vo ad102 11 (some x0))] [vo ad102 4 (some j2), vo ad102 11 (some x0)] ad104 σ104
  rw [voG hg4 hp17]
  have hp18 := (hg4 _ _ hp17).1
  rw [voG hg4 hN2]
  have hp19 := (hg4 _ _ hN2).1
  have hGc : Grw σ0 ad0 σ102 ad102 := hG2
  have hG4 := hGc.trans hg4
  show Z κ (22, 2473) Q0 106 [(0, vo ad104 11 (some x0))] [vo ad104 4 (some j2), vo ad104 11 (some x0)] ad104 σ104
  refine z_pR (K2 := 4) I0 F C lpf_X11_65 (by decide) rfl (Or.inl hp18) hp19 dX11_init_106 ?_
  show Z κ (22, 2473) Q0 109 _ _ _ (sP σ104 6215 x0 0 (some j2))
  refine z_aload_n C 0 dX11_init_109 rfl ?_
  refine z_new C lkn_X11_69 (fun q => noT F q) (csOK_le hcs (by decide) (by decide)) dX11_init_110 (fun ad107 hA7 => ?_)
  rw [voA (K2 := 11) (r := some x0) hA7 (by decide)]
  have hGc : Grw σ0 ad0 (sP σ104 6215 x0 0 (some j2)) ad104 := hG4
  have hG7 := hGc.nwO hA7
  have hN7 : gN (sP σ104 6215 x0 0 (some j2)) 0 < gN (nwO (sP σ104 6215 x0 0 (some j2)) 0) 0 := nwO_lt
  generalize e7 : nwO (sP σ104 6215 x0 0 (some j2)) 0 = σ107 at hG7 hN7 ⊢
  have h := lt_elim h σ107 e7
  generalize e7j : gN (sP σ104 6215 x0 0 (some j2)) 0 = j7 at hN7 ⊢
  have h := lt_elim h j7 e7j
  have hp20 : x0 < gN σ107 11 := (grO e7 hp18)
  show Z κ (23, 2486) Q0 113 [(0, vo ad107 11 (some x0))] [vo ad107 0 (some j7), vo ad107 11 (some x0)] ad107 σ107
  refine z_dup C dX11_init_113 rfl ?_
  refine z_cI (st := [vo ad107 0 (some j7), vo ad107 11 (some x0)]) F C (ct_X0_init j7) lm_X11_71 ln_X0_init rfl dX11_init_114 [] rfl rfl rfl hN7 (by decide) (Nat.le_of_ble_eq_true rfl) (csOK_le hcs (by decide) (by decide)) h (fun _ σ109 ad109 _ hg9 h => ?_)
  show Z κ (32, 3046) Q0 117 [(0, vo ad107 11 (some x0))] [vo ad107 0 (some j7), vo ad107 11 (some x0)] ad109 σ109
  rw [voG hg9 hp20]
  have hp21 := (hg9 _ _ hp20).1
  rw [voG hg9 hN7]
  have hp22 := (hg9 _ _ hN7).1
  have hGc : Grw σ0 ad0 σ107 ad107 := hG7
  have hG9 := hGc.trans hg9
  show Z κ (32, 3046) Q0 117 [(0, vo ad109 11 (some x0))] [vo ad109 0 (some j7), vo ad109 11 (some x0)] ad109 σ109
  refine z_pR (K2 := 0) I0 F C lpf_X11_72 (by decide) rfl (Or.inl hp21) hp22 dX11_init_117 ?_
  show Z κ (32, 3046) Q0 120 _ _ _ (sP σ109 6216 x0 0 (some j7))
  refine z_aload_n C 0 dX11_init_120 rfl ?_
  refine z_new C lkn_X11_76 (fun q => noT F q) (csOK_le hcs (by decide) (by decide)) dX11_init_121 (fun ad112 hA12 => ?_)
  rw [voA (K2 := 11) (r := some x0) hA12 (by decide)]
  have hGc : Grw σ0 ad0 (sP σ109 6216 x0 0 (some j7)) ad109 := hG9
  have hG12 := hGc.nwO hA12
  have hN12 : gN (sP σ109 6216 x0 0 (some j7)) 2 < gN (nwO (sP σ109 6216 x0 0 (some j7)) 2) 2 := nwO_lt
  generalize e12 : nwO (sP σ109 6216 x0 0 (some j7)) 2 = σ112 at hG12 hN12 ⊢
  have h := lt_elim h σ112 e12
  generalize e12j : gN (sP σ109 6216 x0 0 (some j7)) 2 = j12 at hN12 ⊢
  have h := lt_elim h j12 e12j
  have hp23 : x0 < gN σ112 11 := (grO e12 hp21)
  show Z κ (33, 3055) Q0 124 [(0, vo ad112 11 (some x0))] [vo ad112 2 (some j12), vo ad112 11 (some x0)] ad112 σ112
  refine z_dup C dX11_init_124 rfl ?_
  refine z_cI (st := [vo ad112 2 (some j12), vo ad112 11 (some x0)]) F C (ct_X2_init j12) lm_X11_78 ln_X2_init rfl dX11_init_125 [] rfl rfl rfl hN12 (by decide) (Nat.le_of_ble_eq_true rfl) (csOK_le hcs (by decide) (by decide)) h (fun _ σ114 ad114 _ hg14 h => ?_)
  show Z κ (39, 3352) Q0 128 [(0, vo ad112 11 (some x0))] [vo ad112 2 (some j12), vo ad112 11 (some x0)] ad114 σ114
  rw [voG hg14 hp23]
  have hp24 := (hg14 _ _ hp23).1
  rw [voG hg14 hN12]
  have hp25 := (hg14 _ _ hN12).1
  have hGc : Grw σ0 ad0 σ112 ad112 := hG12
  have hG14 := hGc.trans hg14
  show Z κ (39, 3352) Q0 128 [(0, vo ad114 11 (some x0))] [vo ad114 2 (some j12), vo ad114 11 (some x0)] ad114 σ114
  refine z_pR (K2 := 2) I0 F C lpf_X11_79 (by decide) rfl (Or.inl hp24) hp25 dX11_init_128 ?_
  show Z κ (39, 3352) Q0 131 _ _ _ (sP σ114 6217 x0 0 (some j12))
  have hGc : Grw σ0 ad0 (sP σ114 6217 x0 0 (some j12)) ad114 := hG14
  exact tail ad114 (sP σ114 6217 x0 0 (some j12)) hp24 hGc h
set_option maxRecDepth 20000 in
set_option maxHeartbeats 8000000 in
theorem ct_X11_init (x0 : Nat) : CtA false yX11_init cX11_init 1 none 2 39 3352 (fun ad => [vo ad 11 (some x0)]) (fX11_init x0) enV okV (fun σ => x0 < gN σ 11) := by
  refine CtA.of (by decide) (fun ad => Nat.le_of_ble_eq_true rfl) ?_
  intro κ ad0 σ0 X C _ F I0 hcs hx0 h
  have F : isF κ := F rfl
  have I0 : isInit κ := I0 rfl
  have C : Cx κ RX11 cX11_init 1 none 2 := C
  generalize hQ : QmA κ false 39 3352 ad0 σ0 enV okV X = Q0
  have tail : ∀ (ad : Nat → Nat → Nat) (σ : St), x0 < gN σ 11 → Grw σ0 ad0 σ ad → wpO (fX11_init_t x0 σ) (fun q => X q.1 q.2) → Z κ (39, 3352) Q0 131 [(0, vo ad 11 (some x0))] [] ad σ := by
    intro ad σ hx0 hG h
    unfold fX11_init_t at h
    refine z_rng (fun hI1 hJ2 => ?_)
    have h := wpO_some.mp h
    rw [← hQ]
    exact z_returnA C dX11_init_131 (hG.eN rfl) h (fun q => by cases q)
  unfold fX11_init at h
  show Z κ (0, 0) Q0 0 [(0, vo ad0 11 (some x0))] [] ad0 σ0
  exact (sgX11_init_0 x0 C F I0 hcs (sgX11_init_1 x0 C F I0 hcs tail)) ad0 σ0 hx0 Grw.rf h
