/-! what is made -/
theorem SF.nw {σ : St} {K : Nat} (h : SF σ) (h0 : ∀ t ∈ ftl K, t ≤ 1) (h1 : K ∉ sgl) (h2 : K ≠ 702 ∧ K ≠ 6 ∧ K ≠ 904 ∧ K ≠ 8) : SF (nwO σ K) := by
  obtain ⟨s1, s2, s3, s4, s5⟩ := h
  refine ⟨fun K2 k j hk hj => ?_, fun K2 k j K3 hk hj => ?_, fun K2 hK => ?_, ?_, ?_⟩
  · by_cases q : K2 = K
    · subst q
      have := h0 2 (List.mem_of_getElem? hk)
      omega
    · have h3 := tb_K hk
      rw [gN_nwO, if_neg q] at hj
      rw [gP_nwO, if_neg (by unfold pco co; omega)]
      exact s1 K2 k j hk hj
  · by_cases q : K2 = K
    · subst q
      have := h0 (K3 + 3) (List.mem_of_getElem? hk)
      omega
    · have h3 := tb_K hk
      rw [gN_nwO, if_neg q] at hj
      rw [gP_nwO, if_neg (by unfold pco co; omega)]
      exact s2 K2 k j K3 hk hj
  · rw [gN_nwO, if_neg (fun z => h1 (by rw [← z]; exact hK))]
    exact s3 K2 hK
  · rw [gN_nwO, gN_nwO, if_neg (by omega), if_neg (by omega)]; exact s4
  · rw [gN_nwO, gN_nwO, if_neg (by omega), if_neg (by omega)]; exact s5
theorem SF.nwa {σ : St} {K k0 : Nat} (h : SF σ) (hk0 : (ftl K)[k0]? = some 2) (h0 : ∀ k t, (ftl K)[k]? = some t → t ≤ 1 ∨ (t = 2 ∧ k = k0)) (h1 : K ∉ sgl) (h1b : co K k0 ∉ sgl) (hN : gN σ (co K k0) = gN σ K) (hp : (K = 6 ∧ k0 = 2) ∨ (K = 8 ∧ k0 = 4)) : SF (sP (nwA (nwO σ K) (co K k0)) (pco K k0) (gN σ K) 0 (some (gN (nwO σ K) (co K k0)))) := by
  obtain ⟨s1, s2, s3, s4, s5⟩ := h
  have e0 : gN (nwO σ K) (co K k0) = gN σ K := by rw [gN_nwO, if_neg (by unfold co; omega)]; exact hN
  rw [e0]
  refine ⟨fun K2 k j hk hj => ?_, fun K2 k j K3 hk hj => ?_, fun K2 hK => ?_, ?_, ?_⟩
  · have h3 := tb_K hk
    rw [gN_sP, gN_nwA, if_neg (by unfold co; omega), gN_nwO] at hj
    by_cases q : K2 = K
    · subst q
      rw [if_pos rfl] at hj
      have h4 := (h0 k 2 hk).resolve_left (by omega)
      rw [h4.2, gP_sP]
      by_cases c : j = gN σ K2
      · rw [if_pos ⟨rfl, c, rfl⟩, c]
      · rw [if_neg (fun z => c z.2.1), gP_nwA, if_neg (by unfold pco co; omega), gP_nwO, if_neg (fun z => c z.2)]
        exact s1 K2 k0 j hk0 (by omega)
    · rw [if_neg q] at hj
      rw [gP_sP, if_neg (by unfold pco co; omega), gP_nwA, if_neg (by unfold pco co; omega), gP_nwO, if_neg (by unfold pco co; omega)]
      exact s1 K2 k j hk hj
  · have h3 := tb_K hk
    rw [gN_sP, gN_nwA, if_neg (by unfold co; omega), gN_nwO] at hj
    by_cases q : K2 = K
    · subst q
      have h4 := h0 k (K3 + 3) hk
      omega
    · rw [if_neg q] at hj
      rw [gP_sP, if_neg (by unfold pco co; omega), gP_nwA, if_neg (by unfold pco co; omega), gP_nwO, if_neg (by unfold pco co; omega)]
      exact s2 K2 k j K3 hk hj
  · rw [gN_sP, gN_nwA, if_neg (fun z => h1b (by rw [← z]; exact hK)), gN_nwO, if_neg (fun z => h1 (by rw [← z]; exact hK))]
    exact s3 K2 hK
  · simp only [gN_sP, gN_nwA, gN_nwO]
    rcases hp with ⟨z1, z2⟩ | ⟨z1, z2⟩ <;> subst z1 <;> subst z2 <;> simp [co] at hN ⊢ <;> omega
  · simp only [gN_sP, gN_nwA, gN_nwO]
    rcases hp with ⟨z1, z2⟩ | ⟨z1, z2⟩ <;> subst z1 <;> subst z2 <;> simp [co] at hN ⊢ <;> omega
/-- the same but for how many there are -/
theorem RW.cn {a b : Nat → Nat → Nat → Int} {c : Nat → Nat → Nat → Option Nat} {n n2 : Nat → Nat} (h : RW (a, b, c, n)) (e : n2 10 = n 10) : RW (a, b, c, n2) := by
  have e2 : gN (a, b, c, n2) 10 = gN (a, b, c, n) 10 := e
  unfold RW at h ⊢
  rw [e2]; exact h
theorem RS.cn {a b : Nat → Nat → Nat → Int} {c : Nat → Nat → Nat → Option Nat} {n n2 : Nat → Nat} (h : RS (a, b, c, n)) (e : n2 7 = n 7) : RS (a, b, c, n2) := by
  have e2 : gN (a, b, c, n2) 7 = gN (a, b, c, n) 7 := e
  unfold RS at h ⊢
  rw [e2]; exact h
theorem RL_.cn {a b : Nat → Nat → Nat → Int} {c : Nat → Nat → Nat → Option Nat} {n n2 : Nat → Nat} (h : RL_ (a, b, c, n)) (e : n2 6 = n 6) : RL_ (a, b, c, n2) := by
  have e2 : gN (a, b, c, n2) 6 = gN (a, b, c, n) 6 := e
  unfold RL_ at h ⊢
  rw [e2]; exact h
theorem RG.cn {a b : Nat → Nat → Nat → Int} {c : Nat → Nat → Nat → Option Nat} {n n2 : Nat → Nat} (h : RG (a, b, c, n)) (e : n2 5 = n 5) : RG (a, b, c, n2) := by
  have e2 : gN (a, b, c, n2) 5 = gN (a, b, c, n) 5 := e
  unfold RG at h ⊢
  rw [e2]; exact h
theorem RY.cn {a b : Nat → Nat → Nat → Int} {c : Nat → Nat → Nat → Option Nat} {n n2 : Nat → Nat} (h : RY (a, b, c, n)) (e : n2 8 = n 8) (e7 : n 7 ≤ n2 7) : RY (a, b, c, n2) := by
  have e2 : gN (a, b, c, n2) 8 = gN (a, b, c, n) 8 := e
  obtain ⟨s1, s2, s3, s4, s5⟩ := h
  refine ⟨by rw [e2]; exact s1, by rw [e2]; exact s2, by rw [e2]; exact s3, fun i hi => ?_, by rw [e2]; exact s5⟩
  rw [e2] at hi
  obtain ⟨q1, q2, q3, q4, q5, q6, q7, q8, r1, r2, r3, r4, r5, r6, r7, r8⟩ := s4 i hi
  refine ⟨q1, q2, q3, q4, q5, q6, q7, q8, r1, r2, r3, r4, r5, r6, r7, fun e he => ?_⟩
  obtain ⟨s, z1, z2, z3⟩ := r8 e he
  exact ⟨s, z1, z2, Nat.lt_of_lt_of_le z3 e7⟩
/-- all but one module, over a growth -/
def ExC (S : List Nat) (σ σ2 : St) : Prop := ∀ c, c ∉ S → ∀ j e, gI σ2 c j e = gI σ c j e ∧ gJ σ2 c j e = gJ σ c j e ∧ gP σ2 c j e = gP σ c j e
theorem ExC.ex {S : List Nat} {σ σ2 : St} (h : ExC S σ σ2) : Ex S σ (σ2.1, σ2.2.1, σ2.2.2.1, σ.2.2.2) := ⟨rfl, h⟩
theorem ExC.sI {S : List Nat} {σ1 σ2 : St} {c j e : Nat} {v : Int} (h : ExC S σ1 σ2) (hc : c ∈ S) : ExC S σ1 (sI σ2 c j e v) :=
  fun c2 h2 j2 e2 => ⟨by rw [gI_sI, if_neg (fun q => h2 (by rw [q.1]; exact hc))]; exact (h c2 h2 j2 e2).1, (h c2 h2 j2 e2).2⟩
theorem ExC.sP {S : List Nat} {σ1 σ2 : St} {c j e : Nat} {v : Option Nat} (h : ExC S σ1 σ2) (hc : c ∈ S) : ExC S σ1 (sP σ2 c j e v) :=
  fun c2 h2 j2 e2 => ⟨(h c2 h2 j2 e2).1, (h c2 h2 j2 e2).2.1, by rw [gP_sP, if_neg (fun q => h2 (by rw [q.1]; exact hc))]; exact (h c2 h2 j2 e2).2.2⟩
theorem ExC.nwO {S : List Nat} {σ1 σ2 : St} {K : Nat} (h : ExC S σ1 σ2) (hc : ∀ c, (c / 100 = K + 1 ∧ la c = none) ∨ c / 100 = K + 51 → c ∈ S) : ExC S σ1 (nwO σ2 K) :=
  fun c2 h2 j2 e2 => ⟨by rw [gI_nwO, if_neg (fun q => h2 (hc c2 (Or.inl q.1)))]; exact (h c2 h2 j2 e2).1, (h c2 h2 j2 e2).2.1, by rw [gP_nwO, if_neg (fun q => h2 (hc c2 (Or.inr q.1)))]; exact (h c2 h2 j2 e2).2.2⟩
theorem ExC.nwA {S : List Nat} {σ1 σ2 : St} {a : Nat} (h : ExC S σ1 σ2) (hc : a ∈ S) : ExC S σ1 (nwA σ2 a) :=
  fun c2 h2 j2 e2 => ⟨by rw [gI_nwA, if_neg (fun q => h2 (by rw [q.1]; exact hc))]; exact (h c2 h2 j2 e2).1, by rw [gJ_nwA, if_neg (fun q => h2 (by rw [q.1]; exact hc))]; exact (h c2 h2 j2 e2).2.1, by rw [gP_nwA, if_neg (fun q => h2 (by rw [q.1]; exact hc))]; exact (h c2 h2 j2 e2).2.2⟩
/-- the columns of a kind of objects -/
def kc (K : Nat) : List Nat := (List.range 100).map (fun k => 100 * (K + 1) + k) ++ (List.range 100).map (fun k => 100 * (K + 51) + k)
theorem kc_mem {K c : Nat} (h : (c / 100 = K + 1 ∧ la c = none) ∨ c / 100 = K + 51) : c ∈ kc K := by
  unfold kc
  rw [List.mem_append, List.mem_map, List.mem_map]
  rcases h with h | h
  · exact Or.inl ⟨c % 100, List.mem_range.mpr (by omega), by omega⟩
  · exact Or.inr ⟨c % 100, List.mem_range.mpr (by omega), by omega⟩
