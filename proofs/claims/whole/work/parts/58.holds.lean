/-! The reference's CHECK. -/
/-- what the digit at the place k from the last adds -/
def chd (k d : Nat) : Nat := if (if k % 2 = 1 then 2 * d else d) ≤ 9 then (if k % 2 = 1 then 2 * d else d) else (if k % 2 = 1 then 2 * d else d) - 9
def chk2 : Nat → Nat → Nat → Nat
  | 0, _, _ => 0
  | m + 1, k, v => chd k (v % 10) + chk2 m (k + 1) (v / 10)
theorem chd_le (k d : Nat) (hd : d ≤ 9) : chd k d ≤ 9 := by
  unfold chd
  by_cases h : k % 2 = 1
  · rw [if_pos h]
    split <;> omega
  · rw [if_neg h, if_pos hd]
    exact hd
theorem p_holds {M : MM} {v n : Nat} (hv : v < 2000000000) (hn : n ≤ 9) : mX10_holds [.inr (some 19), .inl (nI v), .inl (nI n)] M = some (some (.inl (nI (if chk2 n 0 v % 10 = 0 then 1 else 0))), M) := by
  have key : ∀ m k u a (d6 d7 : Option AV), k + m = n → u < 2000000000 → a ≤ 9 * k → gX10_holds 8 [some (.inr (some 19)), some (.inl (nI v)), some (.inl (nI n)), some (.inl (nI a)), some (.inl (nI u)), some (.inl (nI k)), d6, d7] [] M = some (some (.inl (nI (if (a + chk2 m k u) % 10 = 0 then 1 else 0))), M) := by
    intro m
    induction m with
    | zero =>
      intro k u a d6 d7 hk hu ha
      rw [eX10_holds_8, if_pos (nI_le (show n ≤ k by omega) (by omega)), L10, q_rem (by omega) (by omega) (by omega), L0, L1]
      show (if nI (a % 10) = nI 0 then _ else _) = (some (some (.inl (nI (if (a + 0) % 10 = 0 then 1 else 0))), M) : Option AR)
      rw [Nat.add_zero]
      by_cases h : a % 10 = 0
      · rw [if_pos h, h, if_pos rfl]
      · rw [if_neg h, if_neg (by rw [q_eq (by omega) (by omega)]; exact h)]
    | succ m ih =>
      intro k u a d6 d7 hk hu ha
      have h45 : ∀ (e : Nat) (d7 : Option AV), e ≤ 18 → gX10_holds 45 [some (.inr (some 19)), some (.inl (nI v)), some (.inl (nI n)), some (.inl (nI a)), some (.inl (nI (u / 10))), some (.inl (nI k)), some (.inl (nI (u % 10))), d7] [.inl (nI e)] M = (if e ≤ 9 then gX10_holds 8 [some (.inr (some 19)), some (.inl (nI v)), some (.inl (nI n)), some (.inl (nI (a + e))), some (.inl (nI (u / 10))), some (.inl (nI (k + 1))), some (.inl (nI (u % 10))), some (.inl (nI e))] [] M else gX10_holds 8 [some (.inr (some 19)), some (.inl (nI v)), some (.inl (nI n)), some (.inl (nI (a + (e - 9)))), some (.inl (nI (u / 10))), some (.inl (nI (k + 1))), some (.inl (nI (u % 10))), some (.inl (nI e))] [] M) := by
        intro e d7 he
        rw [eX10_holds_45, L9, L1, q_add, q_add]
        by_cases h : e ≤ 9
        · rw [if_pos h, if_pos (nI_le h (by omega))]
        · rw [if_neg h, if_neg (by rw [q_le (by omega) (by omega)]; exact h), q_sub (by omega), q_add]
      have hd : u % 10 ≤ 9 := by omega
      have hc := chd_le k (u % 10) hd
      rw [eX10_holds_8, if_neg (by rw [q_le (by omega) (by omega)]; omega), L10, L2, L1, q_rem (show u < 2147483648 by omega) (by omega) (by omega), q_rem (show k < 2147483648 by omega) (by omega) (by omega), q_div (show u < 2147483648 by omega) (by omega) (by omega), q_mul]
      show _ = (some (some (.inl (nI (if (a + (chd k (u % 10) + chk2 m (k + 1) (u / 10))) % 10 = 0 then 1 else 0))), M) : Option AR)
      rw [← Nat.add_assoc]
      unfold chd at hc ⊢
      by_cases h1 : k % 2 = 1
      · rw [if_pos (by rw [h1]), if_pos h1, h45 _ _ (by omega)]
        by_cases h2 : 2 * (u % 10) ≤ 9
        · rw [if_pos h2, if_pos h2]
          exact ih (k + 1) (u / 10) _ _ _ (by omega) (by omega) (by omega)
        · rw [if_neg h2, if_neg h2]
          exact ih (k + 1) (u / 10) _ _ _ (by omega) (by omega) (by omega)
      · rw [if_neg (by rw [q_eq (by omega) (by omega)]; exact h1), if_neg h1, h45 _ _ (by omega), if_pos hd, if_pos hd]
        exact ih (k + 1) (u / 10) _ _ _ (by omega) (by omega) (by omega)
  rw [iX10_holds, eX10_holds_0, L0]
  have := key n 0 v 0 none none (by omega) hv (by omega)
  rw [Nat.zero_add] at this
  exact this
