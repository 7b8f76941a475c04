/-! The reference's answer of DIGITS: the row of words read from its front. -/
def prs (rw : Nat → Nat) (R len : Nat) : Nat → Nat → Nat → Nat → Option (Nat × Nat × Nat)
  | 0, v, n, k => some (v, n, k)
  | f + 1, v, n, k => if k < R ∧ n < len then (if rw k = 10 then (if k + 1 = R ∨ 9 < rw (k + 1) then none else prs rw R len f (10 * (10 * v + rw (k + 1)) + rw (k + 1)) (n + 2) (k + 2)) else (if 9 < rw k then none else prs rw R len f (10 * v + rw k) (n + 1) (k + 1))) else some (v, n, k)
/-- the row that is read: R words -/
def RW (M : MM) (R : Nat) (rw : Nat → Nat) : Prop := R ≤ 8 ∧ M 19 24 = nI R ∧ ∀ k, k < R → rw k ≤ 59 ∧ M 38 k = nI (rw k)
theorem gI {c N : Nat} (h : c < N) (hN : N < 2147483648) : ¬ (nI c < 0 ∨ N ≤ c) := by
  have := nI_in (c := c) (N := N) h (by omega)
  rw [q_cl (by omega)] at this
  exact this
theorem p_ans_loop {M : MM} {R len fld fr : Nat} {rw : Nat → Nat} (hR : RW M R rw) (hf : fld < 12) (hl : M 21 fld = nI len) (hlen : len ≤ 8) : ∀ f v n k (d6 : Option AV), R ≤ k + f → k ≤ R → n ≤ 100 → (prs rw R len f v n k = none → gX10_answer 71 [some (.inr (some 19)), some (.inl (nI fld)), some (.inl (nI fr)), some (.inl (nI v)), some (.inl (nI n)), some (.inl (nI k)), d6] [] M = some (some (.inl (-nI 1)), M)) ∧ ∀ v' n' k', prs rw R len f v n k = some (v', n', k') → ∃ e6 : Option AV, gX10_answer 71 [some (.inr (some 19)), some (.inl (nI fld)), some (.inl (nI fr)), some (.inl (nI v)), some (.inl (nI n)), some (.inl (nI k)), d6] [] M = gX10_answer 193 [some (.inr (some 19)), some (.inl (nI fld)), some (.inl (nI fr)), some (.inl (nI v')), some (.inl (nI n')), some (.inl (nI k')), e6] [] M := by
  obtain ⟨h8, h24, hrw⟩ := hR
  have gf := gI (c := fld) (N := 12) hf (by omega)
  intro f
  induction f with
  | zero =>
    intro v n k d6 h1 h2 h3
    refine ⟨fun e => (by cases e), fun v' n' k' e => ?_⟩
    cases e
    refine ⟨d6, ?_⟩
    rw [eX10_answer_71, h24, if_pos (nI_le (show R ≤ k by omega) (by omega))]
  | succ f ih =>
    intro v n k d6 h1 h2 h3
    by_cases hc : k < R ∧ n < len
    · obtain ⟨hk, hn⟩ := id hc
      have gk := gI (c := k) (N := 8) (by omega) (by omega)
      obtain ⟨w1, w2⟩ := hrw k hk
      by_cases h10 : rw k = 10
      · have m1 : gX10_answer 71 [some (.inr (some 19)), some (.inl (nI fld)), some (.inl (nI fr)), some (.inl (nI v)), some (.inl (nI n)), some (.inl (nI k)), d6] [] M = gX10_answer 118 [some (.inr (some 19)), some (.inl (nI fld)), some (.inl (nI fr)), some (.inl (nI v)), some (.inl (nI n)), some (.inl (nI (k + 1))), some (.inl (nI 1))] [] M := by
          rw [eX10_answer_71, h24, if_neg (by rw [q_le (by omega) (by omega)]; omega), q_cl (show fld < 2147483648 by omega), if_neg gf, hl, if_neg (by rw [q_le (by omega) (by omega)]; omega), q_cl (show k < 2147483648 by omega), if_neg gk, w2, L10, if_pos (by rw [h10]), L1, eX10_answer_108, if_neg (show ¬ nI 1 = 0 by decide), L1, q_add]
        by_cases hbad : k + 1 = R ∨ 9 < rw (k + 1)
        · have e : prs rw R len (f + 1) v n k = none := by
            unfold prs
            rw [if_pos hc, if_pos h10, if_pos hbad]
          rw [e, m1]
          refine ⟨fun _ => ?_, fun v' n' k' e => (by cases e)⟩
          rw [eX10_answer_118, h24]
          by_cases hk1 : k + 1 = R
          · rw [if_pos (by rw [hk1])]
            rfl
          · have gk1 := gI (c := k + 1) (N := 8) (by omega) (by omega)
            obtain ⟨y1, y2⟩ := hrw (k + 1) (by omega)
            rw [if_neg (by rw [q_eq (by omega) (by omega)]; exact hk1), q_cl (show k + 1 < 2147483648 by omega), if_neg gk1, y2, L9, if_neg (by rw [q_le (by omega) (by omega)]; omega)]
            rfl
        · have e : prs rw R len (f + 1) v n k = prs rw R len f (10 * (10 * v + rw (k + 1)) + rw (k + 1)) (n + 2) (k + 2) := by
            show (if k < R ∧ n < len then _ else _) = _
            rw [if_pos hc, if_pos h10, if_neg hbad]
          have gk1 := gI (c := k + 1) (N := 8) (by omega) (by omega)
          obtain ⟨y1, y2⟩ := hrw (k + 1) (by omega)
          have m2 : gX10_answer 118 [some (.inr (some 19)), some (.inl (nI fld)), some (.inl (nI fr)), some (.inl (nI v)), some (.inl (nI n)), some (.inl (nI (k + 1))), some (.inl (nI 1))] [] M = gX10_answer 71 [some (.inr (some 19)), some (.inl (nI fld)), some (.inl (nI fr)), some (.inl (nI (10 * (10 * v + rw (k + 1)) + rw (k + 1)))), some (.inl (nI (n + 2))), some (.inl (nI (k + 2))), some (.inl (nI 1))] [] M := by
            rw [eX10_answer_118, h24, if_neg (by rw [q_eq (by omega) (by omega)]; omega), q_cl (show k + 1 < 2147483648 by omega), if_neg gk1, y2, if_pos (by rw [L9, q_le (by omega) (by omega)]; omega), if_neg gk1, if_neg (show ¬ nI 1 = 0 by decide), if_neg gk1, if_neg (show ¬ nI 1 = 0 by decide), L1, L2, L10, q_mul, q_add, q_mul, q_add, q_add, q_add]
          rw [e, m1, m2]
          exact ih _ _ _ _ (by omega) (by omega) (by omega)
      · have m1 : gX10_answer 71 [some (.inr (some 19)), some (.inl (nI fld)), some (.inl (nI fr)), some (.inl (nI v)), some (.inl (nI n)), some (.inl (nI k)), d6] [] M = gX10_answer 118 [some (.inr (some 19)), some (.inl (nI fld)), some (.inl (nI fr)), some (.inl (nI v)), some (.inl (nI n)), some (.inl (nI k)), some (.inl (nI 0))] [] M := by
          rw [eX10_answer_71, h24, if_neg (by rw [q_le (by omega) (by omega)]; omega), q_cl (show fld < 2147483648 by omega), if_neg gf, hl, if_neg (by rw [q_le (by omega) (by omega)]; omega), q_cl (show k < 2147483648 by omega), if_neg gk, w2, L10, if_neg (by rw [q_eq (by omega) (by omega)]; exact h10), eX10_answer_108, if_pos (show (0 : Int32) = 0 from rfl), L0]
        by_cases h9 : 9 < rw k
        · have e : prs rw R len (f + 1) v n k = none := by
            unfold prs
            rw [if_pos hc, if_neg h10, if_pos h9]
          rw [e, m1]
          refine ⟨fun _ => ?_, fun v' n' k' e => (by cases e)⟩
          rw [eX10_answer_118, h24, if_neg (by rw [q_eq (by omega) (by omega)]; omega), q_cl (show k < 2147483648 by omega), if_neg gk, w2, L9, if_neg (by rw [q_le (by omega) (by omega)]; omega)]
          rfl
        · have e : prs rw R len (f + 1) v n k = prs rw R len f (10 * v + rw k) (n + 1) (k + 1) := by
            show (if k < R ∧ n < len then _ else _) = _
            rw [if_pos hc, if_neg h10, if_neg h9]
          have m2 : gX10_answer 118 [some (.inr (some 19)), some (.inl (nI fld)), some (.inl (nI fr)), some (.inl (nI v)), some (.inl (nI n)), some (.inl (nI k)), some (.inl (nI 0))] [] M = gX10_answer 71 [some (.inr (some 19)), some (.inl (nI fld)), some (.inl (nI fr)), some (.inl (nI (10 * v + rw k))), some (.inl (nI (n + 1))), some (.inl (nI (k + 1))), some (.inl (nI 0))] [] M := by
            rw [eX10_answer_118, h24, if_neg (by rw [q_eq (by omega) (by omega)]; omega), q_cl (show k < 2147483648 by omega), if_neg gk, w2, if_pos (by rw [L9, q_le (by omega) (by omega)]; omega), if_neg gk, if_pos (show nI 0 = 0 from rfl), if_pos (show nI 0 = 0 from rfl), L1, L10, q_mul, q_add, q_add, q_add]
          rw [e, m1, m2]
          exact ih _ _ _ _ (by omega) (by omega) (by omega)
    · have e : prs rw R len (f + 1) v n k = some (v, n, k) := by
        unfold prs
        rw [if_neg hc]
      rw [e]
      refine ⟨fun e => (by cases e), fun v' n' k' e => ?_⟩
      cases e
      refine ⟨d6, ?_⟩
      rw [eX10_answer_71, h24, q_cl (show fld < 2147483648 by omega), if_neg gf, hl]
      by_cases hk : k < R
      · rw [if_neg (by rw [q_le (by omega) (by omega)]; omega), if_pos (nI_le (show len ≤ n by omega) (by omega))]
      · rw [if_pos (nI_le (show R ≤ k by omega) (by omega))]
