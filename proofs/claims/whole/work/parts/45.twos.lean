/-! The class's rows of two (written by wip/whole/offer.py). -/
def RT (M : MM) (cc kk r : Nat) (t : T2) : Prop := M cc (2 * r) = iZ (eC t.1) ∧ M kk (2 * r) = iZ (eK t.1) ∧ M cc (2 * r + 1) = iZ (eC t.2) ∧ M kk (2 * r + 1) = iZ (eK t.2)
def okT (t : T2) : Prop := okp t.1 ∧ okp t.2 ∧ (t.1 = none → t.2 = none)
/-- offer, at the rows of the cell 10 -/
theorem p_offer_a {M : MM} {r : Nat} {t : T2} {c : Int} {k : Nat} (hr : 2 * r + 1 < 2) (hR : RT M 11 12 r t) (ho : okT t) (h1 : -1000000 ≤ c) (h2 : c < 1000000) (h3 : k < 2000000000) : ∃ M' : MM, mX7_offer [.inr (some 10), .inl (nI r), .inl (iZ c), .inl (iZ (k : Int))] M = some (none, M') ∧ RT M' 11 12 r (ins2 t c k) ∧ (∀ c' j, c' ≠ 11 → c' ≠ 12 → M' c' j = M c' j) ∧ ∀ j, j ≠ 2 * r → j ≠ 2 * r + 1 → M' 11 j = M 11 j ∧ M' 12 j = M 12 j := by
  obtain ⟨a, b⟩ := t
  obtain ⟨ha, hb, hab⟩ := ho
  obtain ⟨r1, r2, r3, r4⟩ := hR
  obtain ⟨ba1, ba2, ba3, ba4⟩ := okp_b ha
  obtain ⟨bb1, bb2, bb3, bb4⟩ := okp_b hb
  dsimp only at r1 r2 r3 r4 ba1 ba2 ba3 ba4 bb1 bb2 bb3 bb4 hab ha hb
  rw [ins2_by hab ha hb h1 h2 h3]
  have n1 : ¬ 2 * r < 0 := by omega
  have n2 : ¬ 2 ≤ 2 * r + 1 := by omega
  have n3 : ¬ 2 ≤ 2 * r := by omega
  have n4 : ¬ 2 * r + 1 < 0 := by omega
  have s102 : gX7_offer 102 [some (.inr (some 10)), some (.inl (nI r)), some (.inl (iZ c)), some (.inl (iZ (k : Int))), some (.inl (nI (2 * r))), some (.inl (nI (2 * r + 1)))] [] M = some (none, st2 (st2 (st2 (st2 M 11 (2 * r + 1) (iZ (eC a))) 12 (2 * r + 1) (iZ (eK a))) 11 (2 * r) (iZ c)) 12 (2 * r) (iZ (k : Int))) := by
    rw [eX7_offer_a_102]
    simp (disch := omega) only [L0, q_lt, q_cl, n1, n2, n3, n4, or_self, if_false, r1, r2, st2_nc]
  have s149 : gX7_offer 149 [some (.inr (some 10)), some (.inl (nI r)), some (.inl (iZ c)), some (.inl (iZ (k : Int))), some (.inl (nI (2 * r))), some (.inl (nI (2 * r + 1)))] [] M = if c < eC b ∨ (c = eC b ∧ (k : Int) < eK b) then some (none, st2 (st2 M 11 (2 * r + 1) (iZ c)) 12 (2 * r + 1) (iZ (k : Int))) else some (none, M) := by
    have s182 : gX7_offer 182 [some (.inr (some 10)), some (.inl (nI r)), some (.inl (iZ c)), some (.inl (iZ (k : Int))), some (.inl (nI (2 * r))), some (.inl (nI (2 * r + 1)))] [] M = some (none, st2 (st2 M 11 (2 * r + 1) (iZ c)) 12 (2 * r + 1) (iZ (k : Int))) := by
      rw [eX7_offer_a_182]
      simp (disch := omega) only [L0, q_lt, q_cl, n1, n2, n3, n4, or_self, if_false]
    rw [eX7_offer_a_149, s182]
    simp (disch := omega) only [L0, q_lt, q_cl, n1, n2, n3, n4, or_self, if_false, r3, r4, z_lt, z_eq, z_le]
    by_cases g1 : c < eC b
    · rw [if_pos g1, if_pos (Or.inl g1)]
    · rw [if_neg g1]
      by_cases g2 : c = eC b
      · rw [if_pos g2]
        by_cases g3 : eK b ≤ (k : Int)
        · rw [if_pos g3, if_neg (by omega)]
        · rw [if_neg g3, if_pos (by omega)]
      · rw [if_neg g2, if_neg (by omega)]
  rw [iX7_offer_a, eX7_offer_a_0]
  simp (disch := omega) only [L0, L1, L2, L2, q_mul, q_add, q_lt, q_le, q_cl, n1, n2, n3, n4, hr, or_self, if_false, if_true, r1, r2, z_lt, z_eq, z_le, s102, s149]
  by_cases g1 : (k : Int) = eK a
  · rw [if_pos g1, if_pos g1]
    refine ⟨_, rfl, ⟨?_, ?_, ?_, ?_⟩, fun c' j q1 q2 => ?_, fun j q1 q2 => ?_⟩
    · rw [st2_at]
      show (if eC a < c then iZ (eC a) else iZ c) = iZ (if eC a < c then eC a else c)
      split <;> rfl
    · rw [st2_nc M (by decide), r2]
      exact congrArg iZ g1.symm
    · rw [st2_nj M (by omega), r3]
    · rw [st2_nc M (by decide), r4]
    · rw [st2_nc M q1]
    · rw [st2_nj M q1, st2_nc M (by decide)]
      exact ⟨rfl, rfl⟩
  · rw [if_neg g1, if_neg g1]
    have x102 : ∃ M' : MM, (some (none, st2 (st2 (st2 (st2 M 11 (2 * r + 1) (iZ (eC a))) 12 (2 * r + 1) (iZ (eK a))) 11 (2 * r) (iZ c)) 12 (2 * r) (iZ (k : Int))) : Option AR) = some (none, M') ∧ RT M' 11 12 r (some (c, k), a) ∧ (∀ c' j, c' ≠ 11 → c' ≠ 12 → M' c' j = M c' j) ∧ ∀ j, j ≠ 2 * r → j ≠ 2 * r + 1 → M' 11 j = M 11 j ∧ M' 12 j = M 12 j := by
      refine ⟨_, rfl, ⟨?_, ?_, ?_, ?_⟩, fun c' j q1 q2 => ?_, fun j q1 q2 => ⟨?_, ?_⟩⟩
      · simp (disch := omega) only [st2_nc, st2_nj, st2_at]; rfl
      · simp (disch := omega) only [st2_nc, st2_nj, st2_at]; rfl
      · simp (disch := omega) only [st2_nc, st2_nj, st2_at]
      · simp (disch := omega) only [st2_nc, st2_nj, st2_at]
      · simp (disch := omega) only [st2_nc]
      · simp (disch := omega) only [st2_nc, st2_nj]
      · simp (disch := omega) only [st2_nc, st2_nj]
    have x149 : ¬ (c < eC a ∨ (c = eC a ∧ (k : Int) < eK a)) → ∃ M' : MM, (if c < eC b ∨ (c = eC b ∧ (k : Int) < eK b) then some (none, st2 (st2 M 11 (2 * r + 1) (iZ c)) 12 (2 * r + 1) (iZ (k : Int))) else some (none, M) : Option AR) = some (none, M') ∧ RT M' 11 12 r (if c < eC b ∨ (c = eC b ∧ (k : Int) < eK b) then (a, some (c, k)) else (a, b)) ∧ (∀ c' j, c' ≠ 11 → c' ≠ 12 → M' c' j = M c' j) ∧ ∀ j, j ≠ 2 * r → j ≠ 2 * r + 1 → M' 11 j = M 11 j ∧ M' 12 j = M 12 j := by
      intro _
      by_cases g4 : c < eC b ∨ (c = eC b ∧ (k : Int) < eK b)
      · rw [if_pos g4, if_pos g4]
        refine ⟨_, rfl, ⟨?_, ?_, ?_, ?_⟩, fun c' j q1 q2 => ?_, fun j q1 q2 => ⟨?_, ?_⟩⟩
        · simp (disch := omega) only [st2_nc, st2_nj, st2_at]; exact r1
        · simp (disch := omega) only [st2_nc, st2_nj, st2_at]; exact r2
        · simp (disch := omega) only [st2_nc, st2_nj, st2_at]; rfl
        · simp (disch := omega) only [st2_nc, st2_nj, st2_at]; rfl
        · simp (disch := omega) only [st2_nc]
        · simp (disch := omega) only [st2_nc, st2_nj]
        · simp (disch := omega) only [st2_nc, st2_nj]
      · rw [if_neg g4, if_neg g4]
        exact ⟨M, rfl, ⟨r1, r2, r3, r4⟩, fun _ _ _ _ => rfl, fun _ _ _ => ⟨rfl, rfl⟩⟩
    by_cases g2 : c < eC a
    · rw [if_pos g2, if_pos (Or.inl g2)]
      exact x102
    · rw [if_neg g2]
      by_cases g3 : c = eC a
      · rw [if_pos g3]
        by_cases g5 : eK a ≤ (k : Int)
        · have hn : ¬ (c < eC a ∨ (c = eC a ∧ (k : Int) < eK a)) := by omega
          rw [if_pos g5, if_neg hn]
          exact x149 hn
        · rw [if_neg g5, if_pos (by omega)]
          exact x102
      · have hn : ¬ (c < eC a ∨ (c = eC a ∧ (k : Int) < eK a)) := by omega
        rw [if_neg g3, if_neg hn]
        exact x149 hn
theorem p_tcost_a {M : MM} {r : Nat} {t : T2} (hr : 2 * r + 1 < 2) (hR : RT M 11 12 r t) : mX7_cost [.inr (some 10), .inl (nI r), .inl (nI 0)] M = some (some (.inl (iZ (eC t.1))), M) ∧ mX7_cost [.inr (some 10), .inl (nI r), .inl (nI 1)] M = some (some (.inl (iZ (eC t.2))), M) := by
  obtain ⟨r1, r2, r3, r4⟩ := hR
  have n1 : ¬ 2 * r < 0 := by omega
  have n2 : ¬ 2 ≤ 2 * r + 1 := by omega
  have n3 : ¬ 2 ≤ 2 * r := by omega
  have n4 : ¬ 2 * r + 1 < 0 := by omega
  constructor
  · rw [iX7_cost_a, eX7_cost_a_0]
    simp (disch := omega) only [L0, L2, L2, q_mul, q_add, q_lt, q_le, q_cl, Nat.add_zero, n1, n2, n3, n4, or_self, if_false, r1]
  · rw [iX7_cost_a, eX7_cost_a_0]
    simp (disch := omega) only [L0, L2, L2, q_mul, q_add, q_lt, q_le, q_cl, n1, n2, n3, n4, or_self, if_false, r3]
theorem p_tkey_a {M : MM} {r : Nat} {t : T2} (hr : 2 * r + 1 < 2) (hR : RT M 11 12 r t) : mX7_key [.inr (some 10), .inl (nI r), .inl (nI 0)] M = some (some (.inl (iZ (eK t.1))), M) ∧ mX7_key [.inr (some 10), .inl (nI r), .inl (nI 1)] M = some (some (.inl (iZ (eK t.2))), M) := by
  obtain ⟨r1, r2, r3, r4⟩ := hR
  have n1 : ¬ 2 * r < 0 := by omega
  have n2 : ¬ 2 ≤ 2 * r + 1 := by omega
  have n3 : ¬ 2 ≤ 2 * r := by omega
  have n4 : ¬ 2 * r + 1 < 0 := by omega
  constructor
  · rw [iX7_key_a, eX7_key_a_0]
    simp (disch := omega) only [L0, L2, L2, q_mul, q_add, q_lt, q_le, q_cl, Nat.add_zero, n1, n2, n3, n4, or_self, if_false, r2]
  · rw [iX7_key_a, eX7_key_a_0]
    simp (disch := omega) only [L0, L2, L2, q_mul, q_add, q_lt, q_le, q_cl, n1, n2, n3, n4, or_self, if_false, r4]
/-- offer, at the rows of the cell 15 -/
theorem p_offer_b {M : MM} {r : Nat} {t : T2} {c : Int} {k : Nat} (hr : 2 * r + 1 < 360) (hR : RT M 16 17 r t) (ho : okT t) (h1 : -1000000 ≤ c) (h2 : c < 1000000) (h3 : k < 2000000000) : ∃ M' : MM, mX7_offer [.inr (some 15), .inl (nI r), .inl (iZ c), .inl (iZ (k : Int))] M = some (none, M') ∧ RT M' 16 17 r (ins2 t c k) ∧ (∀ c' j, c' ≠ 16 → c' ≠ 17 → M' c' j = M c' j) ∧ ∀ j, j ≠ 2 * r → j ≠ 2 * r + 1 → M' 16 j = M 16 j ∧ M' 17 j = M 17 j := by
  obtain ⟨a, b⟩ := t
  obtain ⟨ha, hb, hab⟩ := ho
  obtain ⟨r1, r2, r3, r4⟩ := hR
  obtain ⟨ba1, ba2, ba3, ba4⟩ := okp_b ha
  obtain ⟨bb1, bb2, bb3, bb4⟩ := okp_b hb
  dsimp only at r1 r2 r3 r4 ba1 ba2 ba3 ba4 bb1 bb2 bb3 bb4 hab ha hb
  rw [ins2_by hab ha hb h1 h2 h3]
  have n1 : ¬ 2 * r < 0 := by omega
  have n2 : ¬ 360 ≤ 2 * r + 1 := by omega
  have n3 : ¬ 360 ≤ 2 * r := by omega
  have n4 : ¬ 2 * r + 1 < 0 := by omega
  have s102 : gX7_offer 102 [some (.inr (some 15)), some (.inl (nI r)), some (.inl (iZ c)), some (.inl (iZ (k : Int))), some (.inl (nI (2 * r))), some (.inl (nI (2 * r + 1)))] [] M = some (none, st2 (st2 (st2 (st2 M 16 (2 * r + 1) (iZ (eC a))) 17 (2 * r + 1) (iZ (eK a))) 16 (2 * r) (iZ c)) 17 (2 * r) (iZ (k : Int))) := by
    rw [eX7_offer_b_102]
    simp (disch := omega) only [L0, q_lt, q_cl, n1, n2, n3, n4, or_self, if_false, r1, r2, st2_nc]
  have s149 : gX7_offer 149 [some (.inr (some 15)), some (.inl (nI r)), some (.inl (iZ c)), some (.inl (iZ (k : Int))), some (.inl (nI (2 * r))), some (.inl (nI (2 * r + 1)))] [] M = if c < eC b ∨ (c = eC b ∧ (k : Int) < eK b) then some (none, st2 (st2 M 16 (2 * r + 1) (iZ c)) 17 (2 * r + 1) (iZ (k : Int))) else some (none, M) := by
    have s182 : gX7_offer 182 [some (.inr (some 15)), some (.inl (nI r)), some (.inl (iZ c)), some (.inl (iZ (k : Int))), some (.inl (nI (2 * r))), some (.inl (nI (2 * r + 1)))] [] M = some (none, st2 (st2 M 16 (2 * r + 1) (iZ c)) 17 (2 * r + 1) (iZ (k : Int))) := by
      rw [eX7_offer_b_182]
      simp (disch := omega) only [L0, q_lt, q_cl, n1, n2, n3, n4, or_self, if_false]
    rw [eX7_offer_b_149, s182]
    simp (disch := omega) only [L0, q_lt, q_cl, n1, n2, n3, n4, or_self, if_false, r3, r4, z_lt, z_eq, z_le]
    by_cases g1 : c < eC b
    · rw [if_pos g1, if_pos (Or.inl g1)]
    · rw [if_neg g1]
      by_cases g2 : c = eC b
      · rw [if_pos g2]
        by_cases g3 : eK b ≤ (k : Int)
        · rw [if_pos g3, if_neg (by omega)]
        · rw [if_neg g3, if_pos (by omega)]
      · rw [if_neg g2, if_neg (by omega)]
  rw [iX7_offer_b, eX7_offer_b_0]
  simp (disch := omega) only [L0, L1, L2, L360, q_mul, q_add, q_lt, q_le, q_cl, n1, n2, n3, n4, hr, or_self, if_false, if_true, r1, r2, z_lt, z_eq, z_le, s102, s149]
  by_cases g1 : (k : Int) = eK a
  · rw [if_pos g1, if_pos g1]
    refine ⟨_, rfl, ⟨?_, ?_, ?_, ?_⟩, fun c' j q1 q2 => ?_, fun j q1 q2 => ?_⟩
    · rw [st2_at]
      show (if eC a < c then iZ (eC a) else iZ c) = iZ (if eC a < c then eC a else c)
      split <;> rfl
    · rw [st2_nc M (by decide), r2]
      exact congrArg iZ g1.symm
    · rw [st2_nj M (by omega), r3]
    · rw [st2_nc M (by decide), r4]
    · rw [st2_nc M q1]
    · rw [st2_nj M q1, st2_nc M (by decide)]
      exact ⟨rfl, rfl⟩
  · rw [if_neg g1, if_neg g1]
    have x102 : ∃ M' : MM, (some (none, st2 (st2 (st2 (st2 M 16 (2 * r + 1) (iZ (eC a))) 17 (2 * r + 1) (iZ (eK a))) 16 (2 * r) (iZ c)) 17 (2 * r) (iZ (k : Int))) : Option AR) = some (none, M') ∧ RT M' 16 17 r (some (c, k), a) ∧ (∀ c' j, c' ≠ 16 → c' ≠ 17 → M' c' j = M c' j) ∧ ∀ j, j ≠ 2 * r → j ≠ 2 * r + 1 → M' 16 j = M 16 j ∧ M' 17 j = M 17 j := by
      refine ⟨_, rfl, ⟨?_, ?_, ?_, ?_⟩, fun c' j q1 q2 => ?_, fun j q1 q2 => ⟨?_, ?_⟩⟩
      · simp (disch := omega) only [st2_nc, st2_nj, st2_at]; rfl
      · simp (disch := omega) only [st2_nc, st2_nj, st2_at]; rfl
      · simp (disch := omega) only [st2_nc, st2_nj, st2_at]
      · simp (disch := omega) only [st2_nc, st2_nj, st2_at]
      · simp (disch := omega) only [st2_nc]
      · simp (disch := omega) only [st2_nc, st2_nj]
      · simp (disch := omega) only [st2_nc, st2_nj]
    have x149 : ¬ (c < eC a ∨ (c = eC a ∧ (k : Int) < eK a)) → ∃ M' : MM, (if c < eC b ∨ (c = eC b ∧ (k : Int) < eK b) then some (none, st2 (st2 M 16 (2 * r + 1) (iZ c)) 17 (2 * r + 1) (iZ (k : Int))) else some (none, M) : Option AR) = some (none, M') ∧ RT M' 16 17 r (if c < eC b ∨ (c = eC b ∧ (k : Int) < eK b) then (a, some (c, k)) else (a, b)) ∧ (∀ c' j, c' ≠ 16 → c' ≠ 17 → M' c' j = M c' j) ∧ ∀ j, j ≠ 2 * r → j ≠ 2 * r + 1 → M' 16 j = M 16 j ∧ M' 17 j = M 17 j := by
      intro _
      by_cases g4 : c < eC b ∨ (c = eC b ∧ (k : Int) < eK b)
      · rw [if_pos g4, if_pos g4]
        refine ⟨_, rfl, ⟨?_, ?_, ?_, ?_⟩, fun c' j q1 q2 => ?_, fun j q1 q2 => ⟨?_, ?_⟩⟩
        · simp (disch := omega) only [st2_nc, st2_nj, st2_at]; exact r1
        · simp (disch := omega) only [st2_nc, st2_nj, st2_at]; exact r2
        · simp (disch := omega) only [st2_nc, st2_nj, st2_at]; rfl
        · simp (disch := omega) only [st2_nc, st2_nj, st2_at]; rfl
        · simp (disch := omega) only [st2_nc]
        · simp (disch := omega) only [st2_nc, st2_nj]
        · simp (disch := omega) only [st2_nc, st2_nj]
      · rw [if_neg g4, if_neg g4]
        exact ⟨M, rfl, ⟨r1, r2, r3, r4⟩, fun _ _ _ _ => rfl, fun _ _ _ => ⟨rfl, rfl⟩⟩
    by_cases g2 : c < eC a
    · rw [if_pos g2, if_pos (Or.inl g2)]
      exact x102
    · rw [if_neg g2]
      by_cases g3 : c = eC a
      · rw [if_pos g3]
        by_cases g5 : eK a ≤ (k : Int)
        · have hn : ¬ (c < eC a ∨ (c = eC a ∧ (k : Int) < eK a)) := by omega
          rw [if_pos g5, if_neg hn]
          exact x149 hn
        · rw [if_neg g5, if_pos (by omega)]
          exact x102
      · have hn : ¬ (c < eC a ∨ (c = eC a ∧ (k : Int) < eK a)) := by omega
        rw [if_neg g3, if_neg hn]
        exact x149 hn
theorem p_tcost_b {M : MM} {r : Nat} {t : T2} (hr : 2 * r + 1 < 360) (hR : RT M 16 17 r t) : mX7_cost [.inr (some 15), .inl (nI r), .inl (nI 0)] M = some (some (.inl (iZ (eC t.1))), M) ∧ mX7_cost [.inr (some 15), .inl (nI r), .inl (nI 1)] M = some (some (.inl (iZ (eC t.2))), M) := by
  obtain ⟨r1, r2, r3, r4⟩ := hR
  have n1 : ¬ 2 * r < 0 := by omega
  have n2 : ¬ 360 ≤ 2 * r + 1 := by omega
  have n3 : ¬ 360 ≤ 2 * r := by omega
  have n4 : ¬ 2 * r + 1 < 0 := by omega
  constructor
  · rw [iX7_cost_b, eX7_cost_b_0]
    simp (disch := omega) only [L0, L2, L360, q_mul, q_add, q_lt, q_le, q_cl, Nat.add_zero, n1, n2, n3, n4, or_self, if_false, r1]
  · rw [iX7_cost_b, eX7_cost_b_0]
    simp (disch := omega) only [L0, L2, L360, q_mul, q_add, q_lt, q_le, q_cl, n1, n2, n3, n4, or_self, if_false, r3]
theorem p_tkey_b {M : MM} {r : Nat} {t : T2} (hr : 2 * r + 1 < 360) (hR : RT M 16 17 r t) : mX7_key [.inr (some 15), .inl (nI r), .inl (nI 0)] M = some (some (.inl (iZ (eK t.1))), M) ∧ mX7_key [.inr (some 15), .inl (nI r), .inl (nI 1)] M = some (some (.inl (iZ (eK t.2))), M) := by
  obtain ⟨r1, r2, r3, r4⟩ := hR
  have n1 : ¬ 2 * r < 0 := by omega
  have n2 : ¬ 360 ≤ 2 * r + 1 := by omega
  have n3 : ¬ 360 ≤ 2 * r := by omega
  have n4 : ¬ 2 * r + 1 < 0 := by omega
  constructor
  · rw [iX7_key_b, eX7_key_b_0]
    simp (disch := omega) only [L0, L2, L360, q_mul, q_add, q_lt, q_le, q_cl, Nat.add_zero, n1, n2, n3, n4, or_self, if_false, r2]
  · rw [iX7_key_b, eX7_key_b_0]
    simp (disch := omega) only [L0, L2, L360, q_mul, q_add, q_lt, q_le, q_cl, n1, n2, n3, n4, or_self, if_false, r4]
