/-! STAGE B: the coupling invariant, and how it is carried -/
def b2i (P : Prop) [Decidable P] : Int := if P then 1 else 0
theorem b2i_pos {P : Prop} [Decidable P] (h : P) : b2i P = 1 := if_pos h
theorem b2i_neg {P : Prop} [Decidable P] (h : ¬ P) : b2i P = 0 := if_neg h
theorem b2i_0 {P : Prop} [Decidable P] : b2i P = 0 ↔ ¬ P := by
  unfold b2i
  by_cases h : P
  · rw [if_pos h]; exact ⟨fun q => by omega, fun q => absurd h q⟩
  · rw [if_neg h]; exact ⟨fun _ => h, fun _ => rfl⟩
theorem b2i_b {P : Prop} [Decidable P] : b2i P = 0 ∨ b2i P = 1 := by
  unfold b2i
  by_cases h : P
  · rw [if_pos h]; exact Or.inr rfl
  · rw [if_neg h]; exact Or.inl rfl
theorem b2i_c {P Q : Prop} [Decidable P] [Decidable Q] (h : P ↔ Q) : b2i P = b2i Q := by
  unfold b2i
  by_cases q : P
  · rw [if_pos q, if_pos (h.mp q)]
  · rw [if_neg q, if_neg (fun z => q (h.mpr z))]
theorem bnk_some {α β : Type} {a : α} {k : α → Option β} : bnk (some a) k = k a := rfl
theorem bnd_some {α β S : Type} {a : α} {s : S} {k : α → S → Option β} : bnd (some (a, s)) k = k a s := rfl
theorem lt_def {α β : Type} {v : α} {k : α → Option β} : lt v k = k v := rfl
theorem mop_s {α : Type} {j : Nat} {a : Nat → Option α} {b : Option α} : mop (some j) a b = a j := rfl
theorem mop_n {α : Type} {a : Nat → Option α} {b : Option α} : mop none a b = b := rfl
theorem ck_pos {α : Type} {c : Prop} [Decidable c] {k : Option α} (h : c) : ck c k = k := if_pos h
theorem ckp_pos {α : Type} {c : Prop} {k : Option α} (h : c) : ckp c k = k := by unfold ckp; rw [if_pos h]
theorem wpO_of {α : Type} {f : Option α} {r : α} {Q : α → Prop} (h : f = some r) (hq : Q r) : wpO f Q := ⟨r, h, hq⟩
/-- σ2 is σ but for the columns of S -/
def Ex (S : List Nat) (σ σ2 : St) : Prop := σ2.2.2.2 = σ.2.2.2 ∧ ∀ c, c ∉ S → ∀ j e, gI σ2 c j e = gI σ c j e ∧ gJ σ2 c j e = gJ σ c j e ∧ gP σ2 c j e = gP σ c j e
theorem Ex.rf {S : List Nat} {σ : St} : Ex S σ σ := ⟨rfl, fun _ _ _ _ => ⟨rfl, rfl, rfl⟩⟩
theorem Ex.trans {S : List Nat} {σ1 σ2 σ3 : St} (h1 : Ex S σ1 σ2) (h2 : Ex S σ2 σ3) : Ex S σ1 σ3 :=
  ⟨h2.1.trans h1.1, fun c hc j e => ⟨(h2.2 c hc j e).1.trans (h1.2 c hc j e).1, (h2.2 c hc j e).2.1.trans (h1.2 c hc j e).2.1, (h2.2 c hc j e).2.2.trans (h1.2 c hc j e).2.2⟩⟩
theorem Ex.mono {S S2 : List Nat} {σ1 σ2 : St} (h : Ex S σ1 σ2) (hs : ∀ c ∈ S, c ∈ S2) : Ex S2 σ1 σ2 := ⟨h.1, fun c hc => h.2 c (fun q => hc (hs c q))⟩
theorem Ex.sI {S : List Nat} {σ1 σ2 : St} {c j e : Nat} {v : Int} (h : Ex S σ1 σ2) (hc : c ∈ S) : Ex S σ1 (sI σ2 c j e v) :=
  ⟨h.1, fun c2 h2 j2 e2 => ⟨by rw [gI_sI, if_neg (fun q => h2 (by rw [q.1]; exact hc))]; exact (h.2 c2 h2 j2 e2).1, (h.2 c2 h2 j2 e2).2⟩⟩
theorem Ex.sJ {S : List Nat} {σ1 σ2 : St} {c j e : Nat} {v : Int} (h : Ex S σ1 σ2) (hc : c ∈ S) : Ex S σ1 (sJ σ2 c j e v) :=
  ⟨h.1, fun c2 h2 j2 e2 => ⟨(h.2 c2 h2 j2 e2).1, by rw [gJ_sJ, if_neg (fun q => h2 (by rw [q.1]; exact hc))]; exact (h.2 c2 h2 j2 e2).2.1, (h.2 c2 h2 j2 e2).2.2⟩⟩
theorem Ex.sP {S : List Nat} {σ1 σ2 : St} {c j e : Nat} {v : Option Nat} (h : Ex S σ1 σ2) (hc : c ∈ S) : Ex S σ1 (sP σ2 c j e v) :=
  ⟨h.1, fun c2 h2 j2 e2 => ⟨(h.2 c2 h2 j2 e2).1, (h.2 c2 h2 j2 e2).2.1, by rw [gP_sP, if_neg (fun q => h2 (by rw [q.1]; exact hc))]; exact (h.2 c2 h2 j2 e2).2.2⟩⟩
theorem Ex.i {S : List Nat} {σ1 σ2 : St} (h : Ex S σ1 σ2) {c : Nat} (hc : c ∉ S) (j e : Nat) : gI σ2 c j e = gI σ1 c j e := (h.2 c hc j e).1
theorem Ex.j {S : List Nat} {σ1 σ2 : St} (h : Ex S σ1 σ2) {c : Nat} (hc : c ∉ S) (j e : Nat) : gJ σ2 c j e = gJ σ1 c j e := (h.2 c hc j e).2.1
theorem Ex.p {S : List Nat} {σ1 σ2 : St} (h : Ex S σ1 σ2) {c : Nat} (hc : c ∉ S) (j e : Nat) : gP σ2 c j e = gP σ1 c j e := (h.2 c hc j e).2.2
theorem Ex.n {S : List Nat} {σ1 σ2 : St} (h : Ex S σ1 σ2) (K : Nat) : gN σ2 K = gN σ1 K := congrFun h.1 K
/-- the hour -/
def RT (σ : St) : Prop := gI σ 1300 0 0 = gI σ 1200 0 0 ∧ 0 ≤ gI σ 1200 0 0 ∧ gI σ 1200 0 0 ≤ 9999
/-- the ways -/
def RW1 (σ : St) (i : Nat) : Prop := gP σ 1000 0 i = some i ∧ gI σ 1302 0 i = gI σ 1100 i 0 ∧ gI σ 1303 0 i = gI σ 1101 i 0 ∧ gI σ 1304 0 i = gI σ 1102 i 0 ∧ gI σ 1305 0 i = gI σ 1103 i 0 ∧ gI σ 1306 0 i = gI σ 1104 i 0 ∧ gI σ 1307 0 i = gI σ 1105 i 0 ∧ gI σ 1308 0 i = gI σ 1106 i 0 ∧
  (0 ≤ gI σ 1100 i 0 ∧ gI σ 1100 i 0 ≤ 7) ∧ (0 ≤ gI σ 1101 i 0 ∧ gI σ 1101 i 0 ≤ 7) ∧ (0 ≤ gI σ 1102 i 0 ∧ gI σ 1102 i 0 ≤ 9999) ∧ (1 ≤ gI σ 1103 i 0 ∧ gI σ 1103 i 0 ≤ 500) ∧ (1 ≤ gI σ 1104 i 0 ∧ gI σ 1104 i 0 ≤ 500) ∧ (0 ≤ gI σ 1105 i 0 ∧ gI σ 1105 i 0 ≤ 200) ∧ (gI σ 1106 i 0 = 0 ∨ gI σ 1106 i 0 = 1)
def RW (σ : St) : Prop := gI σ 1301 0 0 = (gN σ 10 : Int) ∧ gI σ 1001 0 0 = (gN σ 10 : Int) ∧ gN σ 10 ≤ 24 ∧ (∀ i, i < gN σ 10 → RW1 σ i) ∧ (∀ i, gN σ 10 ≤ i → gI σ 1308 0 i = 0)
/-- an hour at which something became so: never is 1000000 here, none (-9) there -/
def RX (h c m lo : Int) : Prop := (c = 1000000 ∧ m = -9) ∨ (c = m ∧ lo ≤ m ∧ m ≤ h)
/-- the shots -/
def RS1 (σ : St) (i : Nat) : Prop := gP σ 1203 0 i = some i ∧ gI σ 800 i 0 = (i : Int) ∧ gI σ 1311 0 i = gI σ 801 i 0 ∧ gI σ 1312 0 i = gI σ 802 i 0 ∧ gI σ 1313 0 i = gI σ 803 i 0 ∧ gI σ 1314 0 i = gI σ 804 i 0 ∧ gI σ 1315 0 i = gI σ 805 i 0 ∧ gI σ 1316 0 i = gI σ 806 i 0 ∧ gI σ 1317 0 i = gI σ 807 i 0 ∧
  (0 ≤ gI σ 801 i 0 ∧ gI σ 801 i 0 ≤ 7) ∧ (0 ≤ gI σ 802 i 0 ∧ gI σ 802 i 0 ≤ 9999) ∧ (1 ≤ gI σ 803 i 0 ∧ gI σ 803 i 0 ≤ 900) ∧ (0 ≤ gI σ 804 i 0 ∧ gI σ 804 i 0 ≤ 15) ∧ (0 ≤ gI σ 805 i 0 ∧ gI σ 805 i 0 ≤ 255) ∧ (0 ≤ gI σ 806 i 0 ∧ gI σ 806 i 0 ≤ 2) ∧ (0 ≤ gI σ 807 i 0 ∧ gI σ 807 i 0 ≤ gI σ 1200 0 0) ∧
  RX (gI σ 1200 0 0) (gI σ 808 i 0) (gI σ 1318 0 i) (gI σ 807 i 0) ∧ RX (gI σ 1200 0 0) (gI σ 809 i 0) (gI σ 1319 0 i) (gI σ 807 i 0) ∧ RX (gI σ 1200 0 0) (gI σ 810 i 0) (gI σ 1320 0 i) (gI σ 807 i 0) ∧ gI σ 1321 0 i = gI σ 811 i 0 ∧ gI σ 1322 0 i = gI σ 812 i 0 ∧ (-9 ≤ gI σ 811 i 0 ∧ gI σ 811 i 0 ≤ 1000000)
def RS (σ : St) : Prop := gI σ 1310 0 0 = (gN σ 7 : Int) ∧ gI σ 1204 0 0 = (gN σ 7 : Int) ∧ gN σ 7 ≤ 40 ∧ ∀ i, i < gN σ 7 → RS1 σ i
/-- the facts -/
def RF (σ : St) : Prop := ∀ i, i < 8 → gI σ 1323 0 i = gI σ 200 0 i ∧ gI σ 1324 0 i = gI σ 201 0 i ∧ gI σ 1325 0 i = gI σ 202 0 i ∧ (0 ≤ gI σ 200 0 i ∧ gI σ 200 0 i ≤ 255) ∧ (0 ≤ gI σ 201 0 i ∧ gI σ 201 0 i ≤ 364) ∧ (0 ≤ gI σ 202 0 i ∧ gI σ 202 0 i ≤ 364)
/-- the stories -/
def RY1 (σ : St) (i : Nat) : Prop := gP σ 1205 0 i = some i ∧ gI σ 1327 0 i = gI σ 900 i 0 ∧ gI σ 1328 0 i = gI σ 901 i 0 ∧ gI σ 1329 0 i = gI σ 902 i 0 ∧ gI σ 1330 0 i = gI σ 903 i 0 ∧ gI σ 1331 0 i = gI σ 905 i 0 ∧ gI σ 1333 0 i = gI σ 906 i 0 ∧ gI σ 1334 0 i = gI σ 907 i 0 ∧
  (0 ≤ gI σ 900 i 0 ∧ gI σ 900 i 0 ≤ 15) ∧ (0 ≤ gI σ 901 i 0 ∧ gI σ 901 i 0 ≤ 7) ∧ (0 ≤ gI σ 902 i 0 ∧ gI σ 902 i 0 ≤ 9999) ∧ (0 ≤ gI σ 903 i 0 ∧ gI σ 903 i 0 ≤ 999) ∧ (0 ≤ gI σ 905 i 0 ∧ gI σ 905 i 0 ≤ 6) ∧ (gI σ 906 i 0 = 0 ∨ gI σ 906 i 0 = 1) ∧ (gI σ 907 i 0 = 0 ∨ gI σ 907 i 0 = 1) ∧
  (∀ e : Nat, (e : Int) < gI σ 905 i 0 → ∃ s : Nat, gP σ 904 i e = some s ∧ gI σ 1332 0 (6 * i + e) = (s : Int) ∧ s < gN σ 7)
def RY (σ : St) : Prop := gI σ 1326 0 0 = (gN σ 8 : Int) ∧ gI σ 1206 0 0 = (gN σ 8 : Int) ∧ gN σ 8 ≤ 8 ∧ (∀ i, i < gN σ 8 → RY1 σ i) ∧ (∀ i, gN σ 8 ≤ i → gI σ 1331 0 i = 0 ∧ gI σ 1333 0 i = 0 ∧ gI σ 1334 0 i = 0)
/-- an old shot's age, the rates -/
def RA (σ : St) : Prop := gI σ 1335 0 0 = gI σ 1207 0 0 ∧ (0 ≤ gI σ 1207 0 0 ∧ gI σ 1207 0 0 ≤ 400) ∧ ∀ i, i < 3 → gI σ 1336 0 i = gI σ 1208 0 i ∧ 0 ≤ gI σ 1208 0 i ∧ gI σ 1208 0 i ≤ 99
/-- the rules -/
def RL1 (σ : St) (i : Nat) : Prop := gP σ 1209 0 i = some i ∧ gI σ 1338 0 i = gI σ 700 i 0 ∧ (0 ≤ gI σ 700 i 0 ∧ gI σ 700 i 0 ≤ 416) ∧ RX 416 (gI σ 701 i 0) (gI σ 1339 0 i) 0 ∧ gI σ 1340 0 i = gI σ 703 i 0 ∧ (0 ≤ gI σ 703 i 0 ∧ gI σ 703 i 0 ≤ 80) ∧
  (∀ e : Nat, (e : Int) < gI σ 703 i 0 → gI σ 1341 0 (80 * i + e) = gI σ 702 i e ∧ 1 ≤ gI σ 702 i e ∧ gI σ 702 i e ≤ 255)
def RL_ (σ : St) : Prop := gI σ 1337 0 0 = (gN σ 6 : Int) ∧ gI σ 1210 0 0 = (gN σ 6 : Int) ∧ gN σ 6 ≤ 6 ∧ (∀ i, i < gN σ 6 → RL1 σ i) ∧ (∀ i, gN σ 6 ≤ i → gI σ 1340 0 i = 0)
/-- the rights, what is reserved, what the rival has -/
def RG1 (σ : St) (i : Nat) : Prop := gP σ 1213 0 i = some i ∧ gI σ 1350 0 i = gI σ 600 i 0 ∧ gI σ 1351 0 i = gI σ 601 i 0 ∧ gI σ 1352 0 i = gI σ 602 i 0 ∧ gI σ 1353 0 i = gI σ 603 i 0 ∧ gI σ 1354 0 i = gI σ 604 i 0 ∧
  (0 ≤ gI σ 600 i 0 ∧ gI σ 600 i 0 ≤ 15) ∧ (0 ≤ gI σ 601 i 0 ∧ gI σ 601 i 0 ≤ 31) ∧ (0 ≤ gI σ 602 i 0 ∧ gI σ 602 i 0 ≤ 416) ∧ (0 ≤ gI σ 603 i 0 ∧ gI σ 603 i 0 ≤ 416) ∧ (0 ≤ gI σ 604 i 0 ∧ gI σ 604 i 0 ≤ 99)
/-- a set as a number, and as a row of flags -/
def RB (m : Int) (n : Nat) (f : Nat → Int) : Prop := ∃ w : Nat, m = (w : Int) ∧ w < 2 ^ n ∧ ∀ k, k < n → f k = if w.testBit k then 1 else 0
def RG (σ : St) : Prop := gI σ 1349 0 0 = (gN σ 5 : Int) ∧ gI σ 1214 0 0 = (gN σ 5 : Int) ∧ gN σ 5 ≤ 8 ∧ (∀ i, i < gN σ 5 → RG1 σ i) ∧ RB (gI σ 1212 0 0) 16 (fun k => gI σ 1348 0 k) ∧ RB (gI σ 503 0 0) 16 (fun k => gI σ 1358 0 k)
/-- a reel's lengths, pairs apart -/
def RE (σ : St) : Prop := gI σ 1355 0 0 = gI σ 500 0 0 ∧ gI σ 1356 0 0 = gI σ 501 0 0 ∧ (1 ≤ gI σ 500 0 0 ∧ gI σ 500 0 0 ≤ 3000) ∧ (1 ≤ gI σ 501 0 0 ∧ gI σ 501 0 0 ≤ 3000) ∧ (∀ a, a < 8 → RB (gI σ 502 0 a) 8 (fun k => gI σ 1357 0 (8 * a + k))) ∧ ∀ a b, a < 8 → b < 8 → gI σ 1357 0 (8 * a + b) = gI σ 1357 0 (8 * b + a)
/-- the men, the events -/
def RC (σ : St) : Prop := (∀ i, i < 4 → gI σ 1367 0 i = gI σ 100 0 i ∧ gI σ 1368 0 i = gI σ 101 0 i ∧ (gI σ 100 0 i = -9 ∨ (0 ≤ gI σ 100 0 i ∧ gI σ 100 0 i ≤ 7)) ∧ (0 ≤ gI σ 101 0 i ∧ gI σ 101 0 i ≤ 9999)) ∧
  gI σ 1369 0 0 = gI σ 102 0 0 ∧ (0 ≤ gI σ 102 0 0 ∧ gI σ 102 0 0 ≤ 8) ∧ (∀ i : Nat, (i : Int) < gI σ 102 0 0 → gI σ 1370 0 i = gI σ 103 0 i ∧ gI σ 1371 0 i = gI σ 104 0 i ∧ gI σ 1372 0 i = gI σ 105 0 i ∧ (0 ≤ gI σ 103 0 i ∧ gI σ 103 0 i ≤ 7) ∧ (0 ≤ gI σ 104 0 i ∧ gI σ 104 0 i ≤ 9999) ∧ (1 ≤ gI σ 105 0 i ∧ gI σ 105 0 i ≤ 999)) ∧
  (∀ i : Nat, (i : Int) < gI σ 102 0 0 → ∃ x : Nat, gI σ 106 0 i = (x : Int) ∧ (x : Int) < gI σ 102 0 0) ∧
  (∀ i j : Nat, i < j → (j : Int) < gI σ 102 0 0 → gI σ 106 0 i ≠ gI σ 106 0 j ∧ (gI σ 104 0 (gI σ 106 0 i).toNat < gI σ 104 0 (gI σ 106 0 j).toNat ∨ (gI σ 104 0 (gI σ 106 0 i).toNat = gI σ 104 0 (gI σ 106 0 j).toNat ∧ gI σ 106 0 i < gI σ 106 0 j)))
/-- the halls, the weeks' parts, the prints -/
def RH (σ : St) : Prop := gI σ 1378 0 0 = gI σ 300 0 0 ∧ (0 ≤ gI σ 300 0 0 ∧ gI σ 300 0 0 ≤ 8) ∧ (∀ i : Nat, (i : Int) < gI σ 300 0 0 → gI σ 1379 0 i = gI σ 301 0 i ∧ gI σ 1380 0 i = gI σ 302 0 i ∧ gI σ 1381 0 i = gI σ 303 0 i ∧ 0 ≤ gI σ 301 0 i ∧ gI σ 301 0 i ≤ gI σ 302 0 i ∧ gI σ 302 0 i ≤ 8 ∧ (1 ≤ gI σ 303 0 i ∧ gI σ 303 0 i ≤ 9999)) ∧
  (∀ i, i < 9 → gI σ 1382 0 i = gI σ 304 0 i ∧ 0 ≤ gI σ 304 0 i ∧ gI σ 304 0 i ≤ 100) ∧ gI σ 1383 0 0 = gI σ 305 0 0 ∧ (0 ≤ gI σ 305 0 0 ∧ gI σ 305 0 0 ≤ 8) ∧ (gI σ 308 0 0 = 0 ∨ gI σ 308 0 0 = 1)
/-- the best run, by weeks, by prints, by sets of halls -/
def hG (tk pt : Nat → Int) (w h : Nat) : Int := (tk h * pt w / 100) * 100000000 + (9 - (w : Int)) * 10 ^ (7 - h)
def hO (fr to : Nat → Int) (w h : Nat) : Bool := decide (fr h ≤ (w : Int) ∧ (w : Int) ≤ to h)
def hcnt (op : Nat → Bool) : Nat → Nat
  | 0 => 0
  | n + 1 => hcnt op n + if op n then 1 else 0
def hp1 (op : Nat → Bool) (g : Nat → Int) (f : Nat → Int) (x : Nat) : Nat → Int
  | 0 => f x
  | k + 1 => if x.testBit k && op k then max (hp1 op g f x k) (f (x - 2 ^ k) + g k) else hp1 op g f x k
def hM (n : Nat) (op : Nat → Bool) (g : Nat → Int) : Nat → (Nat → Int) → Nat → Int
  | 0, f => f
  | m + 1, f => fun x => hp1 op g (hM n op g m f) x n
def hW (n : Nat) (fr to tk pt : Nat → Int) (pr : Nat) : Nat → Nat → Int
  | 0 => fun _ => 0
  | w + 1 => hM n (hO fr to w) (hG tk pt w) (min pr (hcnt (hO fr to w) n)) (hW n fr to tk pt pr w)
def BRv (σ : St) : Int := hW (gI σ 300 0 0).toNat (fun i => gI σ 301 0 i) (fun i => gI σ 302 0 i) (fun i => gI σ 303 0 i) (fun i => gI σ 304 0 i) (gI σ 305 0 0).toNat 9 (2 ^ (gI σ 300 0 0).toNat - 1)
def RQ (σ : St) : Prop := gI σ 308 0 0 = 1 → gJ σ 307 0 (2 ^ (gI σ 300 0 0).toNat - 1) = hW (gI σ 300 0 0).toNat (fun i => gI σ 301 0 i) (fun i => gI σ 302 0 i) (fun i => gI σ 303 0 i) (fun i => gI σ 304 0 i) (gI σ 305 0 0).toNat 9 (2 ^ (gI σ 300 0 0).toNat - 1)
