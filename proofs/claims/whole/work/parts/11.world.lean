def ftl : Nat → List Nat
  | 0 => [2, 2, 0, 2, 2, 2, 2, 2, 2, 2, 0, 0, 0]
  | 1 => [2, 2, 2]
  | 2 => [0, 2, 2, 2, 2, 0, 2, 2, 1]
  | 3 => [2, 2, 2, 2, 0, 0, 0, 0, 0, 0]
  | 4 => [0, 0, 2, 0, 0, 0, 0, 0, 2, 2, 2, 0, 0]
  | 5 => [0, 0, 0, 0, 0]
  | 6 => [0, 0, 2, 0]
  | 7 => [0, 0, 0, 0, 0, 0, 0, 0, 0, 0, 0, 0, 0]
  | 8 => [0, 0, 0, 0, 2, 0, 1, 1]
  | 9 => [2, 0, 2]
  | 10 => [0, 0, 0, 0, 0, 0, 1]
  | 11 => [0, 12, 4, 2, 0, 2, 0, 0, 2, 2, 0, 6, 0, 2, 0, 7, 3, 5]
  | 12 => [0, 0, 2, 2, 2, 2, 2, 2, 2, 2, 0, 2, 2, 2, 2, 2, 2, 2, 2, 2, 2, 2, 2, 2, 2, 2, 0, 2, 2, 2, 2, 2, 2, 2, 2, 0, 2, 0, 2, 2, 2, 2, 0, 0, 2, 0, 2, 2, 2, 0, 2, 2, 2, 2, 2, 0, 0, 2, 2, 2, 2, 2, 0, 2, 2, 0, 0, 2, 2, 0, 2, 2, 2, 2, 2, 2, 2, 2, 0, 2, 2, 2, 2, 0, 0, 2, 2, 2, 2, 2, 2, 2]
  | _ => []
def la : Nat → Option (Nat × Nat)
  | 100 => some (0, 4)
  | 101 => some (0, 4)
  | 103 => some (0, 8)
  | 104 => some (0, 8)
  | 105 => some (0, 8)
  | 106 => some (0, 8)
  | 107 => some (0, 8)
  | 108 => some (1, 256)
  | 109 => some (1, 256)
  | 200 => some (0, 8)
  | 201 => some (0, 8)
  | 202 => some (0, 8)
  | 301 => some (0, 8)
  | 302 => some (0, 8)
  | 303 => some (0, 8)
  | 304 => some (0, 9)
  | 306 => some (2, 8)
  | 307 => some (2, 256)
  | 400 => some (0, 8)
  | 401 => some (1, 81)
  | 402 => some (1, 81)
  | 403 => some (1, 81)
  | 502 => some (0, 8)
  | 508 => some (0, 8)
  | 509 => some (0, 8)
  | 510 => some (0, 2048)
  | 702 => some (0, 80)
  | 904 => some (10, 6)
  | 1000 => some (13, 24)
  | 1002 => some (0, 8)
  | 1203 => some (10, 40)
  | 1205 => some (11, 8)
  | 1208 => some (0, 3)
  | 1209 => some (9, 6)
  | 1213 => some (8, 8)
  | 1302 => some (0, 24)
  | 1303 => some (0, 24)
  | 1304 => some (0, 24)
  | 1305 => some (0, 24)
  | 1306 => some (0, 24)
  | 1307 => some (0, 24)
  | 1308 => some (1, 24)
  | 1309 => some (0, 8)
  | 1311 => some (0, 40)
  | 1312 => some (0, 40)
  | 1313 => some (0, 40)
  | 1314 => some (0, 40)
  | 1315 => some (0, 40)
  | 1316 => some (0, 40)
  | 1317 => some (0, 40)
  | 1318 => some (0, 40)
  | 1319 => some (0, 40)
  | 1320 => some (0, 40)
  | 1321 => some (0, 40)
  | 1322 => some (0, 40)
  | 1323 => some (0, 8)
  | 1324 => some (0, 8)
  | 1325 => some (0, 8)
  | 1327 => some (0, 8)
  | 1328 => some (0, 8)
  | 1329 => some (0, 8)
  | 1330 => some (0, 8)
  | 1331 => some (0, 8)
  | 1332 => some (0, 48)
  | 1333 => some (1, 8)
  | 1334 => some (1, 8)
  | 1336 => some (0, 3)
  | 1338 => some (0, 6)
  | 1339 => some (0, 6)
  | 1340 => some (0, 6)
  | 1341 => some (0, 480)
  | 1344 => some (0, 84)
  | 1346 => some (1, 84)
  | 1347 => some (0, 8)
  | 1348 => some (1, 16)
  | 1350 => some (0, 8)
  | 1351 => some (0, 8)
  | 1352 => some (0, 8)
  | 1353 => some (0, 8)
  | 1354 => some (0, 8)
  | 1357 => some (1, 64)
  | 1358 => some (1, 16)
  | 1359 => some (1, 8)
  | 1360 => some (0, 8)
  | 1361 => some (0, 8)
  | 1363 => some (0, 9)
  | 1364 => some (0, 8)
  | 1367 => some (0, 4)
  | 1368 => some (0, 4)
  | 1370 => some (0, 8)
  | 1371 => some (0, 8)
  | 1372 => some (0, 8)
  | 1373 => some (1, 1024)
  | 1374 => some (1, 256)
  | 1375 => some (1, 256)
  | 1376 => some (0, 8)
  | 1377 => some (1, 96)
  | 1379 => some (0, 8)
  | 1380 => some (0, 8)
  | 1381 => some (0, 8)
  | 1382 => some (0, 9)
  | 1385 => some (0, 200)
  | 1386 => some (0, 200)
  | 1387 => some (0, 200)
  | 1388 => some (0, 200)
  | 1389 => some (0, 19)
  | 1390 => some (0, 19)
  | 1391 => some (0, 8)
  | _ => none
def sgl : List Nat := [0, 1, 2, 3, 4, 9, 11, 12, 100, 101, 103, 104, 105, 106, 107, 108, 109, 200, 201, 202, 301, 302, 303, 304, 306, 307, 400, 401, 402, 403, 502, 508, 509, 510, 1000, 1002, 1203, 1205, 1208, 1209, 1213, 1302, 1303, 1304, 1305, 1306, 1307, 1308, 1309, 1311, 1312, 1313, 1314, 1315, 1316, 1317, 1318, 1319, 1320, 1321, 1322, 1323, 1324, 1325, 1327, 1328, 1329, 1330, 1331, 1332, 1333, 1334, 1336, 1338, 1339, 1340, 1341, 1344, 1346, 1347, 1348, 1350, 1351, 1352, 1353, 1354, 1357, 1358, 1359, 1360, 1361, 1363, 1364, 1367, 1368, 1370, 1371, 1372, 1373, 1374, 1375, 1376, 1377, 1379, 1380, 1381, 1382, 1385, 1386, 1387, 1388, 1389, 1390, 1391]
abbrev co (K k : Nat) : Nat := 100 * (K + 1) + k
abbrev pco (K k : Nat) : Nat := 5000 + co K k
abbrev St : Type := (Nat → Nat → Nat → Int) × (Nat → Nat → Nat → Int) × (Nat → Nat → Nat → Option Nat) × (Nat → Nat)
def gI (σ : St) (c j e : Nat) : Int := σ.1 c j e
def gJ (σ : St) (c j e : Nat) : Int := σ.2.1 c j e
def gP (σ : St) (c j e : Nat) : Option Nat := σ.2.2.1 c j e
def gN (σ : St) (K : Nat) : Nat := σ.2.2.2 K
def up3 {α : Type} (f : Nat → Nat → Nat → α) (c j e : Nat) (v : α) : Nat → Nat → Nat → α := fun c2 j2 e2 => if c2 = c ∧ j2 = j ∧ e2 = e then v else f c2 j2 e2
def sI (σ : St) (c j e : Nat) (v : Int) : St := (up3 σ.1 c j e v, σ.2)
def sJ (σ : St) (c j e : Nat) (v : Int) : St := (σ.1, up3 σ.2.1 c j e v, σ.2.2)
def sP (σ : St) (c j e : Nat) (v : Option Nat) : St := (σ.1, σ.2.1, up3 σ.2.2.1 c j e v, σ.2.2.2)
def sN (σ : St) (K n : Nat) : St := (σ.1, σ.2.1, σ.2.2.1, fun K2 => if K2 = K then n else σ.2.2.2 K2)
theorem gI_sI (σ : St) (c j e c2 j2 e2 : Nat) (v : Int) : gI (sI σ c j e v) c2 j2 e2 = if c2 = c ∧ j2 = j ∧ e2 = e then v else gI σ c2 j2 e2 := rfl
theorem gJ_sJ (σ : St) (c j e c2 j2 e2 : Nat) (v : Int) : gJ (sJ σ c j e v) c2 j2 e2 = if c2 = c ∧ j2 = j ∧ e2 = e then v else gJ σ c2 j2 e2 := rfl
theorem gP_sP (σ : St) (c j e c2 j2 e2 : Nat) (v : Option Nat) : gP (sP σ c j e v) c2 j2 e2 = if c2 = c ∧ j2 = j ∧ e2 = e then v else gP σ c2 j2 e2 := rfl
theorem gJ_sI (σ : St) (c j e c2 j2 e2 : Nat) (v : Int) : gJ (sI σ c j e v) c2 j2 e2 = gJ σ c2 j2 e2 := rfl
theorem gP_sI (σ : St) (c j e c2 j2 e2 : Nat) (v : Int) : gP (sI σ c j e v) c2 j2 e2 = gP σ c2 j2 e2 := rfl
theorem gN_sI (σ : St) (c j e K : Nat) (v : Int) : gN (sI σ c j e v) K = gN σ K := rfl
theorem gI_sJ (σ : St) (c j e c2 j2 e2 : Nat) (v : Int) : gI (sJ σ c j e v) c2 j2 e2 = gI σ c2 j2 e2 := rfl
theorem gP_sJ (σ : St) (c j e c2 j2 e2 : Nat) (v : Int) : gP (sJ σ c j e v) c2 j2 e2 = gP σ c2 j2 e2 := rfl
theorem gN_sJ (σ : St) (c j e K : Nat) (v : Int) : gN (sJ σ c j e v) K = gN σ K := rfl
theorem gI_sP (σ : St) (c j e c2 j2 e2 : Nat) (v : Option Nat) : gI (sP σ c j e v) c2 j2 e2 = gI σ c2 j2 e2 := rfl
theorem gJ_sP (σ : St) (c j e c2 j2 e2 : Nat) (v : Option Nat) : gJ (sP σ c j e v) c2 j2 e2 = gJ σ c2 j2 e2 := rfl
theorem gN_sP (σ : St) (c j e K : Nat) (v : Option Nat) : gN (sP σ c j e v) K = gN σ K := rfl
/-- one cell, as the machine has it -/
def encF (ad : Nat → Nat → Nat) (σ : St) (K j k t : Nat) : Value := if t ≤ 1 then vi (gI σ (co K k) j 0) else if t = 2 then vo ad (co K k) (gP σ (pco K k) j 0) else vo ad (t - 3) (gP σ (pco K k) j 0)
def encO (ad : Nat → Nat → Nat) (σ : St) (K j : Nat) : List Value := (ftl K).mapIdx (fun k t => encF ad σ K j k t)
def encA (cA : Nat → ClassId) (ad : Nat → Nat → Nat) (σ : St) (a et n j : Nat) : ClassId × vp_A :=
  if et ≤ 1 then (cA et, n, .inl (fun e => Int32.ofInt (gI σ a j e)))
  else if et = 2 then (cA 2, n, .inr (.inl (fun e => Int64.ofInt (gJ σ a j e))))
  else (cA et, n, .inr (.inr (.inr (.inr (fun e => (gP σ a j e).map (ad (et - 3)))))))
def enc (cA : Nat → ClassId) (ad : Nat → Nat → Nat) (σ : St) (K j : Nat) : va_E := match la K with
  | some q => .inl (encA cA ad σ K q.1 q.2 j)
  | none => .inr (K, encO ad σ K j)
/-- what never changes once both objects stand: where their fields point, how many there are -/
def SF (σ : St) : Prop := (∀ K k j, (ftl K)[k]? = some 2 → j < gN σ K → gP σ (pco K k) j 0 = some j) ∧ (∀ K k j K2, (ftl K)[k]? = some (K2 + 3) → j < gN σ K → gP σ (pco K k) j 0 = some 0) ∧
  (∀ K, K ∈ sgl → gN σ K = 1) ∧ gN σ 702 = gN σ 6 ∧ gN σ 904 = gN σ 8
/-- no pointer to what isn't there -/
def PW (σ : St) : Prop := (∀ a K n j e x, la a = some (K + 3, n) → j < gN σ a → gP σ a j e = some x → x < gN σ K) ∧
  (∀ K k t j x, (ftl K)[k]? = some t → ¬ t ≤ 1 → j < gN σ K → gP σ (pco K k) j 0 = some x → x < gN σ (if t = 2 then co K k else t - 3))
def WD (sb : Bool) (D : va_G) (cA : Nat → ClassId) (lo : Nat) (ad : Nat → Nat → Nat) (σ : St) (H : Heap) : Prop :=
  (∀ K j, j < gN σ K → va_at D vwCl (ad K j, enc cA ad σ K j) H) ∧ (∀ K j K2 j2, j < gN σ K → j2 < gN σ K2 → ad K j = ad K2 j2 → K = K2 ∧ j = j2) ∧ (∀ K j, j < gN σ K → lo ≤ ad K j) ∧
  (∀ c j e, inr (gI σ c j e)) ∧ (∀ c j e, inq (gJ σ c j e)) ∧ (sb = true → SF σ) ∧ PW σ
theorem la_lt {a : Nat} {q : Nat × Nat} (h : la a = some q) : a < 5000 := by
  unfold la at h
  split at h <;> first | omega | cases h
theorem tb_cols : ((List.range 13).all fun K => (List.range 100).all fun k => match (ftl K)[k]? with
    | some t => (!decide (t ≤ 1) || (la (co K k)).isNone) && (la K).isNone
    | none => true) = true := by decide +kernel
theorem tb_len : ((List.range 13).all fun K => decide ((ftl K).length ≤ 100)) = true := by decide +kernel
theorem tb_K {K k t : Nat} (h : (ftl K)[k]? = some t) : K < 13 ∧ k < 100 := by
  have hK : K < 13 := by
    rcases Nat.lt_or_ge K 13 with q | q
    · exact q
    · obtain ⟨n, rfl⟩ : ∃ n, K = n + 13 := ⟨K - 13, by omega⟩
      have : ftl (n + 13) = [] := rfl
      rw [this] at h; cases h
  have h1 := (List.getElem?_eq_some_iff.mp h).1
  have h2 := List.all_eq_true.mp tb_len K (List.mem_range.mpr hK)
  have h3 := of_decide_eq_true h2
  exact ⟨hK, by omega⟩
theorem tb_t {K k t : Nat} (h : (ftl K)[k]? = some t) : (t ≤ 1 → la (co K k) = none) ∧ la K = none := by
  obtain ⟨h1, h2⟩ := tb_K h
  have h3 := List.all_eq_true.mp (List.all_eq_true.mp tb_cols K (List.mem_range.mpr h1)) k (List.mem_range.mpr h2)
  rw [h] at h3
  simp only [Bool.and_eq_true, Bool.or_eq_true, Bool.not_eq_true', decide_eq_false_iff_not, Option.isNone_iff_eq_none] at h3
  exact ⟨fun q => h3.1.resolve_left (fun n => n q), h3.2⟩
theorem co_inj {K k K2 k2 : Nat} (h1 : k < 100) (h2 : k2 < 100) (h : co K k = co K2 k2) : K = K2 ∧ k = k2 := by
  unfold co at h; omega
theorem enc_obj {cA : Nat → ClassId} {ad : Nat → Nat → Nat} {σ : St} {K j : Nat} (h : la K = none) : enc cA ad σ K j = .inr (K, encO ad σ K j) := by
  unfold enc; rw [h]
theorem enc_arr {cA : Nat → ClassId} {ad : Nat → Nat → Nat} {σ : St} {K j et n : Nat} (h : la K = some (et, n)) : enc cA ad σ K j = .inl (encA cA ad σ K et n j) := by
  unfold enc; rw [h]
theorem encO_get {ad : Nat → Nat → Nat} {σ : St} {K j k t : Nat} (h : (ftl K)[k]? = some t) : (encO ad σ K j)[k]? = some (encF ad σ K j k t) := by
  unfold encO
  rw [List.getElem?_mapIdx, h]
  rfl
/-- what a cell holds depends on its own columns alone -/
theorem enc_congr {cA : Nat → ClassId} {ad : Nat → Nat → Nat} {σ σ2 : St} {K j : Nat} (hO : ∀ k t, (ftl K)[k]? = some t → t ≤ 1 → gI σ2 (co K k) j 0 = gI σ (co K k) j 0) (hR : ∀ k t, (ftl K)[k]? = some t → ¬ t ≤ 1 → gP σ2 (pco K k) j 0 = gP σ (pco K k) j 0)
    (hA : ∀ q, la K = some q → ∀ e, gI σ2 K j e = gI σ K j e ∧ gJ σ2 K j e = gJ σ K j e ∧ gP σ2 K j e = gP σ K j e) : enc cA ad σ2 K j = enc cA ad σ K j := by
  cases hl : la K with
  | none =>
    rw [enc_obj hl, enc_obj hl]
    congr 2
    unfold encO
    apply List.ext_getElem?
    intro k
    rw [List.getElem?_mapIdx, List.getElem?_mapIdx]
    cases ht : (ftl K)[k]? with
    | none => rfl
    | some t =>
      show some _ = some _
      congr 1
      show encF ad σ2 K j k t = encF ad σ K j k t
      unfold encF
      by_cases h1 : t ≤ 1
      · rw [if_pos h1, if_pos h1, hO k t ht h1]
      · rw [if_neg h1, if_neg h1, hR k t ht h1]
  | some q =>
    rw [enc_arr hl, enc_arr hl]
    have h := hA q hl
    unfold encA
    rw [show (fun e => Int32.ofInt (gI σ2 K j e)) = (fun e => Int32.ofInt (gI σ K j e)) from funext fun e => by rw [(h e).1],
      show (fun e => Int64.ofInt (gJ σ2 K j e)) = (fun e => Int64.ofInt (gJ σ K j e)) from funext fun e => by rw [(h e).2.1],
      show (fun e => (gP σ2 K j e).map (ad (q.1 - 3))) = (fun e => (gP σ K j e).map (ad (q.1 - 3))) from funext fun e => by rw [(h e).2.2]]
/-- a cell is written -/
theorem WD.wr {sb : Bool} {D : va_G} {cA : Nat → ClassId} {lo : Nat} {ad : Nat → Nat → Nat} {σ σ2 : St} {H H2 : Heap} {K j : Nat} (h : WD sb D cA lo ad σ H) (hN : σ2.2.2.2 = σ.2.2.2) (hSF : SF σ → SF σ2) (hPW : PW σ → PW σ2) (hr : ∀ c j e, inr (gI σ2 c j e)) (hq : ∀ c j e, inq (gJ σ2 c j e))
    (hj : j < gN σ K) (hat : va_at D vwCl (ad K j, enc cA ad σ2 K j) H2) (ho : ∀ K2 j2, ¬ (K2 = K ∧ j2 = j) → enc cA ad σ2 K2 j2 = enc cA ad σ K2 j2) (hH : ∀ q : Nat, q ≠ ad K j → H2[q]? = H[q]?) : WD sb D cA lo ad σ2 H2 := by
  have hg : ∀ K, gN σ2 K = gN σ K := fun K => congrFun hN K
  obtain ⟨h1, h2, h3, -, -, h6, h7⟩ := h
  refine ⟨fun K2 j2 hj2 => ?_, fun K2 j2 K3 j3 a b c => h2 K2 j2 K3 j3 (by rw [← hg]; exact a) (by rw [← hg]; exact b) c, fun K2 j2 a => h3 K2 j2 (by rw [← hg]; exact a), hr, hq, fun q => hSF (h6 q), hPW h7⟩
  rw [hg] at hj2
  by_cases hk : K2 = K ∧ j2 = j
  · rw [hk.1, hk.2]; exact hat
  · rw [ho K2 j2 hk]
    exact (h1 K2 j2 hj2).kept (hH _ (fun q => hk (h2 K2 j2 K j hj2 hj q)))
theorem WD.same {sb : Bool} {D : va_G} {cA : Nat → ClassId} {lo : Nat} {ad : Nat → Nat → Nat} {σ : St} {H H2 : Heap} (h : WD sb D cA lo ad σ H) (hH : ∀ q : Nat, q < H.size → H2[q]? = H[q]?) : WD sb D cA lo ad σ H2 :=
  ⟨fun K j hj => (h.1 K j hj).kept (hH _ (h.1 K j hj).lt), h.2⟩
