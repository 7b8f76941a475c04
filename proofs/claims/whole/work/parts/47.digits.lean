/-! DigitRows: what a digit adds to the sum, where a stand comes by a word. -/
/-- what the digit d at the place i of n adds to the sum; nothing without CHECK -/
def wgt (n ck i d : Nat) : Nat := if ck = 0 then 0 else if (n - 1 - i) % 2 = 0 then d else if d ≤ 4 then 2 * d else 2 * d - 9
def RDl (M : MM) (n ck : Nat) : Prop := M 13 1 = nI n ∧ M 13 2 = nI ck
theorem wgt_le (n ck i d : Nat) (hd : d ≤ 9) : wgt n ck i d ≤ 9 := by
  unfold wgt
  split
  · omega
  · split
    · exact hd
    · split <;> omega
theorem p_weight {M : MM} {n ck i d : Nat} (h : RDl M n ck) (hn : n ≤ 8) (hc : ck ≤ 1) (hi : i < n) (hd : d ≤ 9) : mX0_weight [.inr (some 13), .inl (nI i), .inl (nI d)] M = some (some (.inl (nI (wgt n ck i d))), M) := by
  rw [iX0_weight, eX0_weight_0, h.1, h.2, L0, L1, L2, L4, L9]
  unfold wgt
  by_cases h0 : ck = 0
  · rw [if_pos h0, h0, if_pos rfl]
  · rw [if_neg h0, if_neg (by rw [q_eq (by omega) (by omega)]; exact h0), q_sub (by omega), q_sub (by omega), q_rem (by omega) (by omega) (by omega)]
    by_cases h1 : (n - 1 - i) % 2 = 0
    · rw [if_pos h1, h1, if_pos rfl]
    · rw [if_neg h1, if_neg (by rw [q_eq (by omega) (by omega)]; exact h1)]
      by_cases h2 : d ≤ 4
      · rw [if_pos h2, if_pos (nI_le h2 (by omega)), q_mul]
      · rw [if_neg h2, if_neg (by rw [q_le (by omega) (by omega)]; exact h2), q_mul, q_sub (by omega)]
/-- where a stand comes by a word -/
def nxt (n q w : Nat) : Option Nat := if w = 10 ∧ q % 2 = 0 ∧ q + 4 ≤ 2 * n then some (q + 1) else if w ≤ 9 ∧ (if q % 2 = 1 then q + 3 else q + 2) ≤ 2 * n then some (if q % 2 = 1 then q + 3 else q + 2) else none
theorem p_standBehind {M : MM} {n ck q w : Nat} (h : RDl M n ck) (hn : n ≤ 8) (hq : q ≤ 16) (hw : w ≤ 59) : mX0_standBehind [.inr (some 13), .inl (nI q), .inl (nI w)] M = some (some (.inl (oI (nxt n q w))), M) := by
  have s52 : ∀ o z : Nat, z ≤ 20 → gX0_standBehind 52 [some (.inr (some 13)), some (.inl (nI q)), some (.inl (nI w)), some (.inl (nI o)), none] [.inl (nI z)] M = some (some (.inl (oI (if w ≤ 9 ∧ z ≤ 2 * n then some z else none))), M) := by
    intro o z hz
    rw [eX0_standBehind_52, L9]
    by_cases h9 : w ≤ 9
    · rw [p_isWithin_in h9 (by omega)]
      simp only [bnd1, Option.toList_some, List.cons_append, List.nil_append, eX0_standBehind_60]
      rw [h.1, L0, L2, q_mul, if_neg (by rw [q_eq (by omega) (by omega)]; omega)]
      by_cases hz2 : z ≤ 2 * n
      · rw [if_neg (by rw [q_lt (by omega) (by omega)]; omega), if_pos ⟨h9, hz2⟩]
        rfl
      · rw [if_pos (nI_lt (by omega) (by omega)), if_neg (fun e => hz2 e.2)]
        rfl
    · rw [p_isWithin_out (Or.inr (nI_lt (by omega) (by omega)))]
      simp only [bnd1, Option.toList_some, List.cons_append, List.nil_append, eX0_standBehind_60]
      rw [L0, if_pos rfl, if_neg (fun e => h9 e.1)]
      rfl
  have s12 : ∀ o : Nat, o = q % 2 → gX0_standBehind 12 [some (.inr (some 13)), some (.inl (nI q)), some (.inl (nI w)), none, none] [.inl (nI o)] M = some (some (.inl (oI (nxt n q w))), M) := by
    intro o ho
    have ho1 : o ≤ 1 := by omega
    rw [eX0_standBehind_12, h.1, L0, L1, L2, L3, L4, L10, q_mul, q_add, q_add, q_add, q_add, s52 o (q + 2) (by omega), s52 o (q + 3) (by omega)]
    simp (disch := omega) only [q_eq, q_lt]
    unfold nxt
    by_cases hw10 : w = 10
    · have hw9 : ¬ w ≤ 9 := by omega
      by_cases h0 : o = 0
      · have hm : q % 2 = 0 := by omega
        have hm1 : ¬ q % 2 = 1 := by omega
        by_cases h4 : q + 4 ≤ 2 * n
        · have h4' : ¬ 2 * n < q + 4 := by omega
          simp only [hw10, h0, h4', hm, h4, and_self, if_true, if_false]
          rfl
        · have h4' : 2 * n < q + 4 := by omega
          simp only [hw10, h0, h4', hm, h4, hw9, and_false, false_and, if_true, if_false, show ¬ (10 : Nat) ≤ 9 by decide]
      · have hm : ¬ q % 2 = 0 := by omega
        simp only [hw10, h0, hm, and_false, false_and, if_true, if_false, show ¬ (10 : Nat) ≤ 9 by decide]
    · simp only [hw10, false_and, if_false]
      by_cases h0 : o = 0
      · have hm1 : ¬ q % 2 = 1 := by omega
        simp only [h0, hm1, if_true, if_false]
      · have hm1 : q % 2 = 1 := by omega
        simp only [h0, hm1, if_true, if_false]
  rw [iX0_standBehind, eX0_standBehind_0, L2, L1, q_rem (by omega) (by omega) (by omega)]
  by_cases h1 : q % 2 = 1
  · rw [if_pos (by rw [h1]), s12 1 (by omega)]
  · rw [if_neg (by rw [q_eq (by omega) (by omega)]; exact h1), L0, s12 0 (by omega)]
