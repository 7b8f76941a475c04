/-! What was heard: both systems hold the same. -/
/-- P places; place p has c p words; the word i of p is w (4 p + i), at k (4 p + i) -/
def RH (M : MM) (P : Nat) (c w k : Nat → Nat) : Prop := P ≤ 8 ∧ M 2 3 = nI P ∧ M 19 16 = nI P ∧ ∀ p, p < P → c p ≤ 4 ∧ M 9 p = nI (c p) ∧ M 32 p = nI (c p) ∧ (∀ i, i < c p → w (4 * p + i) ≤ 59 ∧ k (4 * p + i) ≤ 99 ∧ M 7 (4 * p + i) = nI (w (4 * p + i)) ∧ M 33 (4 * p + i) = nI (w (4 * p + i)) ∧ M 8 (4 * p + i) = nI (k (4 * p + i)) ∧ M 34 (4 * p + i) = nI (k (4 * p + i))) ∧ ∀ i j, i < c p → j < c p → w (4 * p + i) = w (4 * p + j) → i = j
theorem p_place9 {M : MM} {P : Nat} {c w k : Nat → Nat} (h : RH M P c w k) : mX9_place [.inr (some 0)] M = if P < 8 then some (some (.inl (nI (P + 1))), st2 (st2 M 9 P (nI 0)) 2 3 (nI (P + 1))) else some (some (.inl (-nI 1)), M) := by
  obtain ⟨h1, h2, -, -⟩ := h
  have e : mX2_addPlace [.inr (some 2)] M = if P < 8 then some (some (.inl (nI (P + 1))), st2 (st2 M 9 P (nI 0)) 2 3 (nI (P + 1))) else some (some (.inl (-nI 1)), M) := by
    rw [iX2_addPlace, eX2_addPlace_0]
    simp (disch := omega) only [L0, L1, L8, h2, q_lt, q_cl, q_add, st2_nc, st2_at]
    by_cases hP : P < 8
    · have h3 : ¬ (P < 0 ∨ 8 ≤ P) := by omega
      simp only [hP, h3, if_true, if_false]
    · simp only [hP, if_false]
  rw [iX9_place, eX9_place_0, e]
  by_cases hP : P < 8
  · simp only [hP, if_true, Option.bind_some, Option.toList_some, List.cons_append, List.nil_append, eX9_place_7]
  · simp only [hP, if_false, Option.bind_some, Option.toList_some, List.cons_append, List.nil_append, eX9_place_7]
theorem p_place10 {M : MM} {P : Nat} {c w k : Nat → Nat} (h : RH M P c w k) : mX10_place [.inr (some 19)] M = if P < 8 then some (some (.inl (nI (P + 1))), st2 (st2 M 32 P (nI 0)) 19 16 (nI (P + 1))) else some (some (.inl (-nI 1)), M) := by
  obtain ⟨h1, -, h2, -⟩ := h
  rw [iX10_place, eX10_place_0]
  simp (disch := omega) only [L0, L1, L8, h2, q_eq, q_lt, q_cl, q_add, st2_nc, st2_at]
  by_cases hP : P < 8
  · have h3 : ¬ (P < 0 ∨ 8 ≤ P) := by omega
    have h4 : ¬ P = 8 := by omega
    simp only [hP, h3, h4, if_true, if_false]
  · have h4 : P = 8 := by omega
    simp only [h4, if_true, Nat.lt_irrefl, if_false]
