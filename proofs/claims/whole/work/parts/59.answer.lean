/-! The reference's answer of DIGITS: the row of words read from its front. -/
def prs (rw : Nat → Nat) (R len : Nat) : Nat → Nat → Nat → Nat → Option (Nat × Nat × Nat)
  | 0, v, n, k => some (v, n, k)
  | f + 1, v, n, k => if k < R ∧ n < len then (if rw k = 10 then (if k + 1 = R ∨ 9 < rw (k + 1) then none else prs rw R len f (10 * (10 * v + rw (k + 1)) + rw (k + 1)) (n + 2) (k + 2)) else (if 9 < rw k then none else prs rw R len f (10 * v + rw k) (n + 1) (k + 1))) else some (v, n, k)
/-- the row that is read: R words -/
def RW (M : MM) (R : Nat) (rw : Nat → Nat) : Prop := R ≤ 8 ∧ M 19 24 = nI R ∧ ∀ k, k < R → rw k ≤ 59 ∧ M 38 k = nI (rw k)
theorem p_ans_loop {M : MM} {R len fld fr : Nat} {rw : Nat → Nat} (hR : RW M R rw) (hf : fld < 12) (hl : M 21 fld = nI len) (hlen : len ≤ 8) : ∀ f v n k (d6 : Option AV), R ≤ k + f → k ≤ R → n ≤ 100 → (prs rw R len f v n k = none → gX10_answer 71 [some (.inr (some 19)), some (.inl (nI fld)), some (.inl (nI fr)), some (.inl (nI v)), some (.inl (nI n)), some (.inl (nI k)), d6] [] M = some (some (.inl (-nI 1)), M)) ∧ ∀ v' n' k', prs rw R len f v n k = some (v', n', k') → ∃ e6 : Option AV, gX10_answer 71 [some (.inr (some 19)), some (.inl (nI fld)), some (.inl (nI fr)), some (.inl (nI v)), some (.inl (nI n)), some (.inl (nI k)), d6] [] M = gX10_answer 193 [some (.inr (some 19)), some (.inl (nI fld)), some (.inl (nI fr)), some (.inl (nI v')), some (.inl (nI n')), some (.inl (nI k')), e6] [] M := by
  obtain ⟨h8, h24, hrw⟩ := hR
  have gf : ¬ (nI fld < 0 ∨ 12 ≤ (nI fld).toNatClampNeg) := nI_in (by omega) (by omega)
  intro f
  induction f with
  | zero =>
    intro v n k d6 h1 h2 h3
    refine ⟨fun e => by cases e, fun v' n' k' e => ?_⟩
    cases e
    refine ⟨d6, ?_⟩
    rw [eX10_answer_71, h24, if_pos (nI_le (show R ≤ k by omega) (by omega))]
  | succ f ih =>
    intro v n k d6 h1 h2 h3
    unfold prs
    by_cases hk : k < R
    · have gk : ¬ (nI k < 0 ∨ 8 ≤ (nI k).toNatClampNeg) := nI_in (by omega) (by omega)
      obtain ⟨w1, w2⟩ := hrw k hk
      rw [eX10_answer_71, h24, if_neg (by rw [q_le (by omega) (by omega)]; omega), if_neg gf, q_cl (show fld < 2147483648 by omega), hl]
      by_cases hn : n < len
      · rw [if_pos ⟨hk, hn⟩, if_neg (by rw [q_le (by omega) (by omega)]; omega), if_neg gk, q_cl (show k < 2147483648 by omega), w2, L10, L0, L1]
        by_cases h10 : rw k = 10
        · rw [if_pos h10, if_pos (by rw [h10]), eX10_answer_108, L0, L1, if_neg (by rw [q_eq (by omega) (by omega)]; omega), q_add, eX10_answer_118, h24]
          by_cases hk1 : k + 1 = R
          · rw [if_pos (Or.inl hk1), if_pos (by rw [hk1]), L1]
            exact ⟨fun _ => rfl, fun v' n' k' e => by cases e⟩
          · have gk1 : ¬ (nI (k + 1) < 0 ∨ 8 ≤ (nI (k + 1)).toNatClampNeg) := nI_in (by omega) (by omega)
            obtain ⟨y1, y2⟩ := hrw (k + 1) (by omega)
            rw [if_neg (by rw [q_eq (by omega) (by omega)]; exact hk1), if_neg gk1, q_cl (show k + 1 < 2147483648 by omega), y2, L9]
            by_cases h9 : 9 < rw (k + 1)
            · rw [if_pos (Or.inr h9), if_neg (by rw [q_le (by omega) (by omega)]; omega), L1]
              exact ⟨fun _ => rfl, fun v' n' k' e => by cases e⟩
            · have gk2 : ¬ (nI (k + 1) < 0 ∨ 8 ≤ k + 1) := by rw [q_cl (by omega)] at gk1; exact gk1
              rw [if_neg (by omega), if_pos (nI_le (by omega) (by omega)), if_neg gk2, L0, L1, L2, L10, if_neg (by rw [q_eq (by omega) (by omega)]; omega), if_neg gk2, if_neg (by rw [q_eq (by omega) (by omega)]; omega), q_mul, q_add, q_mul, q_add, q_add, q_add]
              exact ih _ _ _ _ (by omega) (by omega) (by omega)
        · rw [if_neg h10, if_neg (by rw [q_eq (by omega) (by omega)]; exact h10), eX10_answer_108, L0, if_pos rfl, eX10_answer_118, h24, if_neg (by rw [q_eq (by omega) (by omega)]; omega), if_neg gk, q_cl (show k < 2147483648 by omega), w2, L9]
          by_cases h9 : 9 < rw k
          · rw [if_pos h9, if_neg (by rw [q_le (by omega) (by omega)]; omega), L1]
            exact ⟨fun _ => rfl, fun v' n' k' e => by cases e⟩
          · have gk2 : ¬ (nI k < 0 ∨ 8 ≤ k) := by rw [q_cl (by omega)] at gk; exact gk
            rw [if_neg h9, if_pos (nI_le (by omega) (by omega)), if_neg gk2, L0, L1, L10, if_pos rfl, if_pos rfl, q_mul, q_add, q_add, q_add]
            exact ih _ _ _ _ (by omega) (by omega) (by omega)
      · rw [if_neg (fun e => hn e.2), if_pos (nI_le (show len ≤ n by omega) (by omega))]
        refine ⟨fun e => by cases e, fun v' n' k' e => ?_⟩
        cases e
        exact ⟨d6, rfl⟩
    · rw [if_neg (fun e => hk e.1), eX10_answer_71, h24, if_pos (nI_le (show R ≤ k by omega) (by omega))]
      refine ⟨fun e => by cases e, fun v' n' k' e => ?_⟩
      cases e
      exact ⟨d6, rfl⟩
