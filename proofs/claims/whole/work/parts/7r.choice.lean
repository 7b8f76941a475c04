/-! choice: what is given. -/
/-- how many ahead of the first NONE -/
def cntN (y : Nat → Int32) : Nat → Nat → Nat
  | 0, i => i
  | m + 1, i => if y i = -nI 1 then i else cntN y m (i + 1)
theorem cntN_b (y : Nat → Int32) : ∀ m i, i ≤ cntN y m i ∧ cntN y m i ≤ i + m := by
  intro m
  induction m with
  | zero => intro i; exact ⟨Nat.le_refl _, Nat.le_refl _⟩
  | succ m ih =>
    intro i
    have := ih (i + 1)
    unfold cntN
    split <;> omega
def gdW (y : Nat → Int32) (k : Nat) : Prop := (∃ a, y k = nI a ∧ 20 ≤ a ∧ a ≤ 59) ∧ ∀ i, i < k → y i ≠ y k
def R5 (M : MM) (y : Nat → Int32) : Prop := ∀ i, i < 6 → M 5 i = y i
def R31 (M : MM) (y : Nat → Int32) : Prop := ∀ i, i < 6 → M 31 i = y i
theorem p_cnt {M : MM} {y : Nat → Int32} (h : R5 M y) : ((∀ k, k < cntN y 6 0 → gdW y k) ∧ mX9_countOffered [.inr (some 0)] M = some (some (.inl (nI (cntN y 6 0))), M)) ∨ (¬ (∀ k, k < cntN y 6 0 → gdW y k) ∧ mX9_countOffered [.inr (some 0)] M = some (some (.inl (nI 0)), M)) := by
  have inn : ∀ i, i < 6 → ∀ m j, j + m = i → (∀ j', j' < j → y j' ≠ y i) → ((∀ j', j' < i → y j' ≠ y i) ∧ gX9_countOffered 34 [some (.inr (some 0)), some (.inl (nI i)), some (.inl (nI j))] [] M = gX9_countOffered 2 [some (.inr (some 0)), some (.inl (nI (i + 1))), some (.inl (nI i))] [] M) ∨ (¬ (∀ j', j' < i → y j' ≠ y i) ∧ gX9_countOffered 34 [some (.inr (some 0)), some (.inl (nI i)), some (.inl (nI j))] [] M = some (some (.inl (nI 0)), M)) := by
    intro i hi m
    induction m with
    | zero =>
      intro j hj hn
      obtain rfl : j = i := by omega
      refine Or.inl ⟨hn, ?_⟩
      rw [eX9_countOffered_34, if_pos (nI_le (Nat.le_refl _) (by omega)), L1, q_add]
    | succ m ih =>
      intro j hj hn
      have hstep : gX9_countOffered 34 [some (.inr (some 0)), some (.inl (nI i)), some (.inl (nI j))] [] M = if y j = y i then some (some (.inl (nI 0)), M) else gX9_countOffered 34 [some (.inr (some 0)), some (.inl (nI i)), some (.inl (nI (j + 1)))] [] M := by
        rw [eX9_countOffered_34, if_neg (by rw [q_le (by omega) (by omega)]; omega), q_cl (show j < 2147483648 by omega), if_neg (gI (by omega) (by omega)), q_cl (show i < 2147483648 by omega), if_neg (gI (by omega) (by omega)), h j (by omega), h i hi, L0, L1, q_add]
      rw [hstep]
      by_cases he : y j = y i
      · rw [if_pos he]
        exact Or.inr ⟨fun q => q j (by omega) he, rfl⟩
      · rw [if_neg he]
        exact ih (j + 1) (by omega) (fun j' hj' => by
          by_cases e : j' = j
          · rw [e]; exact he
          · exact hn j' (by omega))
  have out : ∀ m i (d2 : Option AV), i + m = 6 → (∀ k, k < i → gdW y k) → ((∀ k, k < cntN y m i → gdW y k) ∧ gX9_countOffered 2 [some (.inr (some 0)), some (.inl (nI i)), d2] [] M = some (some (.inl (nI (cntN y m i))), M)) ∨ (¬ (∀ k, k < cntN y m i → gdW y k) ∧ gX9_countOffered 2 [some (.inr (some 0)), some (.inl (nI i)), d2] [] M = some (some (.inl (nI 0)), M)) := by
    intro m
    induction m with
    | zero =>
      intro i d2 hi hg
      refine Or.inl ⟨hg, ?_⟩
      rw [eX9_countOffered_2, if_pos (by rw [L6]; exact nI_le (by omega) (by omega))]
      rfl
    | succ m ih =>
      intro i d2 hi hg
      have gi := gI (c := i) (N := 6) (by omega) (by omega)
      have hstep : gX9_countOffered 2 [some (.inr (some 0)), some (.inl (nI i)), d2] [] M = if y i = -nI 1 then some (some (.inl (nI i)), M) else (mX9_isName [.inl (y i)] M).bind (fun r => gX9_countOffered 27 [some (.inr (some 0)), some (.inl (nI i)), d2] (r.1.toList ++ []) r.2) := by
        rw [eX9_countOffered_2, if_neg (by rw [L6, q_le (by omega) (by omega)]; omega), q_cl (show i < 2147483648 by omega), if_neg gi, if_neg gi, h i (by omega)]
        rfl
      have hc : cntN y (m + 1) i = if y i = -nI 1 then i else cntN y m (i + 1) := rfl
      rw [hstep, hc]
      by_cases he : y i = -nI 1
      · rw [if_pos he, if_pos he]
        exact Or.inl ⟨hg, rfl⟩
      · rw [if_neg he, if_neg he]
        have hb := (cntN_b y m (i + 1)).1
        rcases name_cases (y i) with ⟨a, ea, a1, a2⟩ | ⟨e, e2⟩
        · rw [ea, isName_in a1 a2]
          simp only [bnd1, Option.toList_some, List.cons_append, List.nil_append, eX9_countOffered_27]
          rw [if_neg (show ¬ nI 1 = 0 by decide), L0]
          rcases inn i (by omega) i 0 (by omega) (fun j' hj' => absurd hj' (Nat.not_lt_zero _)) with ⟨q1, q2⟩ | ⟨q1, q2⟩
          · rw [q2]
            exact ih (i + 1) _ (by omega) (fun k hk => by
              by_cases e : k = i
              · rw [e]; exact ⟨⟨a, ea, a1, a2⟩, q1⟩
              · exact hg k (by omega))
          · rw [q2]
            exact Or.inr ⟨fun q => q1 (q i (by omega)).2, rfl⟩
        · rw [e M]
          simp only [bnd1, Option.toList_some, List.cons_append, List.nil_append, eX9_countOffered_27]
          rw [if_pos (show nI 0 = 0 from rfl)]
          refine Or.inr ⟨fun q => ?_, rfl⟩
          obtain ⟨a, ea, a1, a2⟩ := (q i (by omega)).1
          have := e M
          rw [ea, isName_in a1 a2] at this
          exact absurd this (by
            intro h
            have h1 : nI 1 = nI 0 := Sum.inl.inj (Option.some.inj (Prod.mk.inj (Option.some.inj h)).1)
            revert h1
            decide)
  rw [iX9_countOffered, eX9_countOffered_0, L0]
  exact out 6 0 none (by omega) (fun k hk => absurd hk (Nat.not_lt_zero _))
/-- the reference: how many were given -/
theorem p_cnt10 {M : MM} {y : Nat → Int32} {x1 x2 : Int32} (h : R31 M y) : ∀ m i, i + m = 6 → gX10_choice 50 [some (.inr (some 19)), some (.inl x1), some (.inl x2), some (.inl (y 0)), some (.inl (y 1)), some (.inl (y 2)), some (.inl (y 3)), some (.inl (y 4)), some (.inl (y 5)), some (.inl (nI i)), none, none, none] [] M = gX10_choice 74 [some (.inr (some 19)), some (.inl x1), some (.inl x2), some (.inl (y 0)), some (.inl (y 1)), some (.inl (y 2)), some (.inl (y 3)), some (.inl (y 4)), some (.inl (y 5)), some (.inl (nI (cntN y m i))), none, none, none] [] M := by
  intro m
  induction m with
  | zero =>
    intro i hi
    rw [eX10_choice_50, if_pos (by rw [L6]; exact nI_le (by omega) (by omega))]
    rfl
  | succ m ih =>
    intro i hi
    have gi := gI (c := i) (N := 6) (by omega) (by omega)
    have hc : cntN y (m + 1) i = if y i = -nI 1 then i else cntN y m (i + 1) := rfl
    rw [eX10_choice_50, if_neg (by rw [L6, q_le (by omega) (by omega)]; omega), q_cl (show i < 2147483648 by omega), if_neg gi, h i (by omega), hc, L1, q_add]
    by_cases he : y i = -nI 1
    · rw [if_pos he, if_pos he]
    · rw [if_neg he, if_neg he]
      exact ih (i + 1) (by omega)
/-- a bad one stays bad -/
theorem p_in0 {M : MM} {y : Nat → Int32} {x1 x2 : Int32} {nn k : Nat} (hk : k < 6) : ∀ m i, i + m = k → gX10_choice 136 [some (.inr (some 19)), some (.inl x1), some (.inl x2), some (.inl (y 0)), some (.inl (y 1)), some (.inl (y 2)), some (.inl (y 3)), some (.inl (y 4)), some (.inl (y 5)), some (.inl (nI nn)), some (.inl (nI 0)), some (.inl (nI k)), some (.inl (nI i))] [] M = gX10_choice 97 [some (.inr (some 19)), some (.inl x1), some (.inl x2), some (.inl (y 0)), some (.inl (y 1)), some (.inl (y 2)), some (.inl (y 3)), some (.inl (y 4)), some (.inl (y 5)), some (.inl (nI nn)), some (.inl (nI 0)), some (.inl (nI (k + 1))), some (.inl (nI k))] [] M := by
  intro m
  induction m with
  | zero =>
    intro i hi
    obtain rfl : i = k := by omega
    rw [eX10_choice_136, if_pos (nI_le (Nat.le_refl _) (by omega)), L1, q_add]
  | succ m ih =>
    intro i hi
    rw [eX10_choice_136, if_neg (by rw [q_le (by omega) (by omega)]; omega), if_pos (show nI 0 = 0 from rfl), L0, L1, q_add]
    exact ih (i + 1) (by omega)
theorem p_in1 {M : MM} {y : Nat → Int32} {x1 x2 : Int32} {nn k : Nat} (h : R31 M y) (hk : k < 6) : ∀ m i, i + m = k → (∀ j, j < i → y j ≠ y k) → ((∀ j, j < k → y j ≠ y k) ∧ gX10_choice 136 [some (.inr (some 19)), some (.inl x1), some (.inl x2), some (.inl (y 0)), some (.inl (y 1)), some (.inl (y 2)), some (.inl (y 3)), some (.inl (y 4)), some (.inl (y 5)), some (.inl (nI nn)), some (.inl (nI 1)), some (.inl (nI k)), some (.inl (nI i))] [] M = gX10_choice 97 [some (.inr (some 19)), some (.inl x1), some (.inl x2), some (.inl (y 0)), some (.inl (y 1)), some (.inl (y 2)), some (.inl (y 3)), some (.inl (y 4)), some (.inl (y 5)), some (.inl (nI nn)), some (.inl (nI 1)), some (.inl (nI (k + 1))), some (.inl (nI k))] [] M) ∨ (¬ (∀ j, j < k → y j ≠ y k) ∧ gX10_choice 136 [some (.inr (some 19)), some (.inl x1), some (.inl x2), some (.inl (y 0)), some (.inl (y 1)), some (.inl (y 2)), some (.inl (y 3)), some (.inl (y 4)), some (.inl (y 5)), some (.inl (nI nn)), some (.inl (nI 1)), some (.inl (nI k)), some (.inl (nI i))] [] M = gX10_choice 97 [some (.inr (some 19)), some (.inl x1), some (.inl x2), some (.inl (y 0)), some (.inl (y 1)), some (.inl (y 2)), some (.inl (y 3)), some (.inl (y 4)), some (.inl (y 5)), some (.inl (nI nn)), some (.inl (nI 0)), some (.inl (nI (k + 1))), some (.inl (nI k))] [] M) := by
  intro m
  induction m with
  | zero =>
    intro i hi hn
    obtain rfl : i = k := by omega
    refine Or.inl ⟨hn, ?_⟩
    rw [eX10_choice_136, if_pos (nI_le (Nat.le_refl _) (by omega)), L1, q_add]
  | succ m ih =>
    intro i hi hn
    have hstep : gX10_choice 136 [some (.inr (some 19)), some (.inl x1), some (.inl x2), some (.inl (y 0)), some (.inl (y 1)), some (.inl (y 2)), some (.inl (y 3)), some (.inl (y 4)), some (.inl (y 5)), some (.inl (nI nn)), some (.inl (nI 1)), some (.inl (nI k)), some (.inl (nI i))] [] M = if y i = y k then gX10_choice 136 [some (.inr (some 19)), some (.inl x1), some (.inl x2), some (.inl (y 0)), some (.inl (y 1)), some (.inl (y 2)), some (.inl (y 3)), some (.inl (y 4)), some (.inl (y 5)), some (.inl (nI nn)), some (.inl (nI 0)), some (.inl (nI k)), some (.inl (nI (i + 1)))] [] M else gX10_choice 136 [some (.inr (some 19)), some (.inl x1), some (.inl x2), some (.inl (y 0)), some (.inl (y 1)), some (.inl (y 2)), some (.inl (y 3)), some (.inl (y 4)), some (.inl (y 5)), some (.inl (nI nn)), some (.inl (nI 1)), some (.inl (nI k)), some (.inl (nI (i + 1)))] [] M := by
      rw [eX10_choice_136, if_neg (by rw [q_le (by omega) (by omega)]; omega), if_neg (show ¬ nI 1 = 0 by decide), q_cl (show i < 2147483648 by omega), if_neg (gI (by omega) (by omega)), q_cl (show k < 2147483648 by omega), if_neg (gI (by omega) (by omega)), h i (by omega), h k hk, L0, L1, q_add]
    rw [hstep]
    by_cases he : y i = y k
    · rw [if_pos he]
      exact Or.inr ⟨fun q => q i (by omega) he, p_in0 hk m (i + 1) (by omega)⟩
    · rw [if_neg he]
      exact ih (i + 1) (by omega) (fun j hj => by
        by_cases e : j = i
        · rw [e]; exact he
        · exact hn j (by omega))
theorem p_out0 {M : MM} {y : Nat → Int32} {x1 x2 : Int32} {nn : Nat} (hnn : nn ≤ 6) : ∀ m k (d12 : Option AV), k + m = nn → gX10_choice 97 [some (.inr (some 19)), some (.inl x1), some (.inl x2), some (.inl (y 0)), some (.inl (y 1)), some (.inl (y 2)), some (.inl (y 3)), some (.inl (y 4)), some (.inl (y 5)), some (.inl (nI nn)), some (.inl (nI 0)), some (.inl (nI k)), d12] [] M = some (some (.inl (-nI 1)), M) := by
  intro m
  induction m with
  | zero =>
    intro k d12 hk
    rw [eX10_choice_97, if_pos (nI_le (show nn ≤ k by omega) (by omega)), if_pos (show nI 0 = 0 from rfl)]
    rfl
  | succ m ih =>
    intro k d12 hk
    rw [eX10_choice_97, if_neg (by rw [q_le (by omega) (by omega)]; omega), if_pos (show nI 0 = 0 from rfl), eX10_choice_130, eX10_choice_131, L0, p_in0 (by omega) k 0 (by omega)]
    exact ih (k + 1) _ (by omega)
theorem p_out1 {M : MM} {y : Nat → Int32} {x1 x2 : Int32} {nn : Nat} (h : R31 M y) (hnn : nn ≤ 6) : ∀ m k (d12 : Option AV), k + m = nn → (∀ k', k' < k → gdW y k') → ((∀ k', k' < nn → gdW y k') ∧ ∃ e12 : Option AV, gX10_choice 97 [some (.inr (some 19)), some (.inl x1), some (.inl x2), some (.inl (y 0)), some (.inl (y 1)), some (.inl (y 2)), some (.inl (y 3)), some (.inl (y 4)), some (.inl (y 5)), some (.inl (nI nn)), some (.inl (nI 1)), some (.inl (nI k)), d12] [] M = gX10_choice 194 [some (.inr (some 19)), some (.inl x1), some (.inl x2), some (.inl (y 0)), some (.inl (y 1)), some (.inl (y 2)), some (.inl (y 3)), some (.inl (y 4)), some (.inl (y 5)), some (.inl (nI nn)), some (.inl (nI 1)), some (.inl (nI 0)), e12] [] M) ∨ (¬ (∀ k', k' < nn → gdW y k') ∧ gX10_choice 97 [some (.inr (some 19)), some (.inl x1), some (.inl x2), some (.inl (y 0)), some (.inl (y 1)), some (.inl (y 2)), some (.inl (y 3)), some (.inl (y 4)), some (.inl (y 5)), some (.inl (nI nn)), some (.inl (nI 1)), some (.inl (nI k)), d12] [] M = some (some (.inl (-nI 1)), M)) := by
  intro m
  induction m with
  | zero =>
    intro k d12 hk hg
    obtain rfl : k = nn := by omega
    refine Or.inl ⟨hg, d12, ?_⟩
    rw [eX10_choice_97, if_pos (nI_le (Nat.le_refl _) (by omega)), if_neg (show ¬ nI 1 = 0 by decide), L0]
  | succ m ih =>
    intro k d12 hk hg
    have hstep : gX10_choice 97 [some (.inr (some 19)), some (.inl x1), some (.inl x2), some (.inl (y 0)), some (.inl (y 1)), some (.inl (y 2)), some (.inl (y 3)), some (.inl (y 4)), some (.inl (y 5)), some (.inl (nI nn)), some (.inl (nI 1)), some (.inl (nI k)), d12] [] M = (mX10_isIn [.inl (y k), .inl (nI 20), .inl (nI 59)] M).bind (fun r => gX10_choice 123 [some (.inr (some 19)), some (.inl x1), some (.inl x2), some (.inl (y 0)), some (.inl (y 1)), some (.inl (y 2)), some (.inl (y 3)), some (.inl (y 4)), some (.inl (y 5)), some (.inl (nI nn)), some (.inl (nI 1)), some (.inl (nI k)), d12] (r.1.toList ++ []) r.2) := by
      rw [eX10_choice_97, if_neg (by rw [q_le (by omega) (by omega)]; omega), if_neg (show ¬ nI 1 = 0 by decide), q_cl (show k < 2147483648 by omega), if_neg (gI (by omega) (by omega)), h k (by omega), L20, L59]
    rw [hstep]
    rcases name_cases (y k) with ⟨a, ea, a1, a2⟩ | ⟨e, e2⟩
    · rw [ea, p_isIn_in a1 a2 (by omega)]
      simp only [bnd1, Option.toList_some, List.cons_append, List.nil_append, eX10_choice_123]
      rw [if_neg (show ¬ nI 1 = 0 by decide), eX10_choice_131, L0, L1]
      rcases p_in1 (x1 := x1) (x2 := x2) (nn := nn) h (show k < 6 by omega) k 0 (by omega) (fun j hj => absurd hj (Nat.not_lt_zero _)) with ⟨q1, q2⟩ | ⟨q1, q2⟩
      · rw [q2]
        exact ih (k + 1) _ (by omega) (fun k' hk' => by
          by_cases e : k' = k
          · rw [e]; exact ⟨⟨a, ea, a1, a2⟩, q1⟩
          · exact hg k' (by omega))
      · rw [q2, p_out0 hnn m (k + 1) _ (by omega)]
        exact Or.inr ⟨fun q => q1 (q k (by omega)).2, rfl⟩
    · rw [e2 M]
      simp only [bnd1, Option.toList_some, List.cons_append, List.nil_append, eX10_choice_123]
      rw [if_pos (show nI 0 = 0 from rfl), eX10_choice_130, eX10_choice_131, L0, p_in0 (by omega) k 0 (by omega), p_out0 hnn m (k + 1) _ (by omega)]
      refine Or.inr ⟨fun q => ?_, rfl⟩
      obtain ⟨a, ea, a1, a2⟩ := (q k (by omega)).1
      have := e M
      rw [ea, isName_in a1 a2] at this
      exact absurd this (by
        intro h
        have h1 : nI 1 = nI 0 := Sum.inl.inj (Option.some.inj (Prod.mk.inj (Option.some.inj h)).1)
        revert h1
        decide)
