/-! word: both systems. -/
theorem p_isWithin_in {M : MM} {a n : Nat} (h : a ≤ n) (hn : n < 2147483648) : mX9_isWithin [.inl (nI a), .inl (nI n)] M = some (some (.inl (nI 1)), M) := by
  rw [iX9_isWithin, eX9_isWithin_0]
  simp (disch := omega) only [L0, L1, q_lt]
  have a1 : ¬ a < 0 := by omega
  have a2 : ¬ n < a := by omega
  simp only [a1, a2, if_false]
theorem p_isWithin_out {M : MM} {x : Int32} {n : Nat} (h : x < nI 0 ∨ nI n < x) : mX9_isWithin [.inl x, .inl (nI n)] M = some (some (.inl (nI 0)), M) := by
  rw [iX9_isWithin, eX9_isWithin_0]
  simp only [L0, L1]
  by_cases h1 : x < nI 0
  · simp only [h1, if_true]
  · have h2 : nI n < x := h.resolve_left h1
    simp only [h1, h2, if_true, if_false]
theorem p_isIn_in {M : MM} {a n : Nat} {lo : Nat} (h0 : lo ≤ a) (h : a ≤ n) (hn : n < 2147483648) : mX10_isIn [.inl (nI a), .inl (nI lo), .inl (nI n)] M = some (some (.inl (nI 1)), M) := by
  rw [iX10_isIn, eX10_isIn_0]
  simp (disch := omega) only [L0, L1, q_lt]
  have a1 : ¬ a < lo := by omega
  have a2 : ¬ n < a := by omega
  simp only [a1, a2, if_false]
theorem p_isIn_out {M : MM} {x lo hi : Int32} (h : x < lo ∨ hi < x) : mX10_isIn [.inl x, .inl lo, .inl hi] M = some (some (.inl (nI 0)), M) := by
  rw [iX10_isIn, eX10_isIn_0]
  simp only [L0, L1]
  by_cases h1 : x < lo
  · simp only [h1, if_true]
  · have h2 : hi < x := h.resolve_left h1
    simp only [h1, h2, if_true, if_false]
/-- the word a can be put into the latest place -/
def okW (P : Nat) (c w : Nat → Nat) (a : Nat) : Prop := 0 < P ∧ c (P - 1) < 4 ∧ fnd (fun i => w (4 * (P - 1) + i)) a 0 (c (P - 1)) = none
def Mw9 (M : MM) (p n a b : Nat) : MM := st2 (st2 (st2 M 7 (4 * p + n) (nI a)) 8 (4 * p + n) (nI b)) 9 p (nI (n + 1))
def Mw10 (M : MM) (p n a b : Nat) : MM := st2 (st2 (st2 M 33 (4 * p + n) (nI a)) 34 (4 * p + n) (nI b)) 32 p (nI (n + 1))
theorem p_addWord_ok {M : MM} {P : Nat} {c w k : Nat → Nat} (hW : WH P c w k) (h : RHx M P c w k) {a b : Nat} (ha : a ≤ 59) (hb : b ≤ 99) (ho : okW P c w a) : mX2_addWord [.inr (some 2), .inl (nI a), .inl (nI b)] M = some (some (.inl (nI (c (P - 1) + 1))), Mw9 M (P - 1) (c (P - 1)) a b) := by
  obtain ⟨h0, h1, h2⟩ := ho
  obtain ⟨p, rfl⟩ : ∃ p, P = p + 1 := ⟨P - 1, by omega⟩
  rw [show p + 1 - 1 = p by omega] at h1 h2 ⊢
  have h8 := hW.1
  have h9 := (h.2 p (by omega)).1
  rw [iX2_addWord, eX2_addWord_0]
  simp (disch := omega) only [L0, L1, L4, L8, h.1, h9, q_sub, q_lt, q_le, q_cl, show p + 1 - 1 = p by omega]
  have a1 : ¬ p < 0 := by omega
  have a2 : ¬ 8 ≤ p := by omega
  have a3 : ¬ 4 ≤ c p := by omega
  simp only [a1, a2, a3, or_self, if_false]
  rw [p_costOf hW h (by omega) (by omega), h2]
  simp only [Option.map_none, oI, bnd1, Option.toList_some, List.cons_append, List.nil_append, eX2_addWord_36]
  simp (disch := omega) only [L0, L1, L4, L8, L32, h9, q_mul, q_add, q_lt, q_le, q_cl, if_true, st2_nc, st2_at]
  have a4 : ¬ p * 4 + c p < 0 := by omega
  have a5 : ¬ 32 ≤ p * 4 + c p := by omega
  have a6 : p * 4 + c p < 32 := by omega
  simp only [a1, a2, a4, a5, a6, or_self, if_false, if_true]
  unfold Mw9
  rw [show p * 4 + c p = 4 * p + c p by omega]
theorem p_addWord_no {M : MM} {P : Nat} {c w k : Nat → Nat} (hW : WH P c w k) (h : RHx M P c w k) {a b : Nat} (ha : a ≤ 59) (hb : b ≤ 99) (ho : ¬ okW P c w a) : mX2_addWord [.inr (some 2), .inl (nI a), .inl (nI b)] M = some (some (.inl (-nI 1)), M) := by
  have h8 := hW.1
  rw [iX2_addWord, eX2_addWord_0]
  by_cases h0 : P = 0
  · subst h0
    simp (disch := omega) only [L0, L1, h.1, q_z1, q_m1lt, if_true]
  · obtain ⟨p, rfl⟩ : ∃ p, P = p + 1 := ⟨P - 1, by omega⟩
    have h9 := (h.2 p (by omega)).1
    have h10 := (hW.2 p (by omega)).1
    simp (disch := omega) only [L0, L1, L4, L8, h.1, h9, q_sub, q_lt, q_le, q_cl, show p + 1 - 1 = p by omega]
    have a1 : ¬ p < 0 := by omega
    have a2 : ¬ 8 ≤ p := by omega
    simp only [a1, a2, or_self, if_false]
    by_cases h4 : 4 ≤ c p
    · simp only [h4, if_true]
    · simp only [h4, if_false]
      rw [p_costOf hW h (by omega) (by omega)]
      cases hf : fnd (fun i => w (4 * p + i)) a 0 (c p) with
      | none => exact absurd ⟨by omega, by rw [show p + 1 - 1 = p by omega]; omega, by rw [show p + 1 - 1 = p by omega]; exact hf⟩ ho
      | some j =>
        have hj := fnd_some hf
        have hk := ((hW.2 p (by omega)).2.1 j (by omega)).2
        simp only [Option.map_some, oI, bnd1, Option.toList_some, List.cons_append, List.nil_append, eX2_addWord_36]
        simp (disch := omega) only [L0, L1, q_m1e, if_false]
theorem p_word9_ok {M : MM} {P : Nat} {c w k : Nat → Nat} (hW : WH P c w k) (h : RHx M P c w k) {a b : Nat} (ha : a ≤ 59) (hb : b ≤ 99) (ho : okW P c w a) : mX9_word [.inr (some 0), .inl (nI a), .inl (nI b)] M = some (some (.inl (nI (c (P - 1) + 1))), Mw9 M (P - 1) (c (P - 1)) a b) := by
  rw [iX9_word, eX9_word_0, L59, p_isWithin_in ha (by omega)]
  simp only [bnd1, Option.toList_some, List.cons_append, List.nil_append, eX9_word_6]
  rw [L99, p_isWithin_in hb (by omega), L0]
  simp (disch := omega) only [q_eq, bnd1, Option.toList_some, List.cons_append, List.nil_append, eX9_word_15, L0, Nat.one_ne_zero, if_false]
  rw [p_addWord_ok hW h ha hb ho]
  simp only [bnd1, Option.toList_some, List.cons_append, List.nil_append, eX9_word_29]
theorem p_word9_no {M : MM} {P : Nat} {c w k : Nat → Nat} (hW : WH P c w k) (h : RHx M P c w k) (x1 x2 : Int32) (ho : ∀ a b, a ≤ 59 → b ≤ 99 → x1 = nI a → x2 = nI b → ¬ okW P c w a) : mX9_word [.inr (some 0), .inl x1, .inl x2] M = some (some (.inl (-nI 1)), M) := by
  rw [iX9_word, eX9_word_0, L59]
  rcases rng x1 59 (by omega) with ⟨a, ha, rfl⟩ | hx
  · rw [p_isWithin_in ha (by omega)]
    simp only [bnd1, Option.toList_some, List.cons_append, List.nil_append, eX9_word_6]
    rw [L99, L0]
    rcases rng x2 99 (by omega) with ⟨b, hb, rfl⟩ | hx
    · rw [p_isWithin_in hb (by omega)]
      simp (disch := omega) only [q_eq, bnd1, Option.toList_some, List.cons_append, List.nil_append, eX9_word_15, L0, Nat.one_ne_zero, if_false]
      rw [p_addWord_no hW h ha hb (ho a b ha hb rfl rfl)]
      simp only [bnd1, Option.toList_some, List.cons_append, List.nil_append, eX9_word_29]
    · rw [p_isWithin_out hx]
      simp (disch := omega) only [q_eq, bnd1, Option.toList_some, List.cons_append, List.nil_append, eX9_word_15, L0, L1, Nat.one_ne_zero, if_false, if_true]
  · rw [p_isWithin_out hx]
    simp only [bnd1, Option.toList_some, List.cons_append, List.nil_append, eX9_word_6, L0, L1, if_true]
/-- the reference's loop over the words of the place -/
theorem p_word10_loop {M : MM} {P : Nat} {c w k : Nat → Nat} (hW : WH P c w k) (h : RHm M P c w k) {p a b : Nat} (hp : p < P) (ha : a ≤ 59) (hb : b ≤ 99) : ∀ n i, i + n = c p → gX10_word 39 [some (.inr (some 19)), some (.inl (nI a)), some (.inl (nI b)), some (.inl (nI p)), some (.inl (nI i))] [] M = if c p < 4 ∧ fnd (fun i => w (4 * p + i)) a i n = none then some (some (.inl (nI (c p + 1))), Mw10 M p (c p) a b) else some (some (.inl (-nI 1)), M) := by
  have h8 := hW.1
  have h4 := (hW.2 p hp).1
  have h9 := (h.2 p hp).1
  have a1 : ¬ p < 0 := by omega
  have a2 : ¬ 8 ≤ p := by omega
  intro n
  induction n with
  | zero =>
    intro i hi
    have b1 : M 32 (nI p).toNatClampNeg ≤ nI i := by rw [q_cl (by omega), h9]; exact nI_le (by omega) (by omega)
    have g1 : ¬ (nI p < 0 ∨ 8 ≤ (nI p).toNatClampNeg) := nI_in (by omega) (by omega)
    have g2 : ¬ (nI p < 0 ∨ 8 ≤ p) := by rw [q_cl (by omega)] at g1; exact g1
    rw [eX10_word_39, if_neg g1, if_pos b1, if_neg g1, q_cl (show p < 2147483648 by omega), h9]
    by_cases h5 : c p = 4
    · rw [if_pos (by rw [h5, L4]), if_neg (by omega)]
      rfl
    · have e1 : (4 : Int32) * nI p + nI (c p) = nI (4 * p + c p) := by rw [L4, q_mul, q_add]
      rw [if_neg (by rw [L4, q_eq (by omega) (by omega)]; exact h5), if_neg g2, e1, if_neg (nI_in (by omega) (by omega)), if_neg g2, q_cl (show 4 * p + c p < 2147483648 by omega), st2_nc M (show (32 : Nat) ≠ 33 by decide), h9, e1, if_neg (nI_in (by omega) (by omega)), if_neg g2, if_neg g2, if_neg g2, q_cl (show 4 * p + c p < 2147483648 by omega), st2_nc _ (show (32 : Nat) ≠ 34 by decide), st2_nc M (show (32 : Nat) ≠ 33 by decide), h9, st2_at, L1, q_add, if_pos ⟨by omega, rfl⟩]
      rfl
  | succ n ih =>
    intro i hi
    have hic : i < c p := by omega
    have hw := ((hW.2 p hp).2.1 i hic).1
    have hm := ((h.2 p hp).2 i hic).1
    have g1 : ¬ (nI p < 0 ∨ 8 ≤ (nI p).toNatClampNeg) := nI_in (by omega) (by omega)
    have b1 : ¬ M 32 (nI p).toNatClampNeg ≤ nI i := by rw [q_cl (by omega), h9, q_le (by omega) (by omega)]; omega
    have e1 : (4 : Int32) * nI p + nI i = nI (4 * p + i) := by rw [L4, q_mul, q_add]
    rw [eX10_word_39, if_neg g1, if_neg b1, e1, if_neg (nI_in (by omega) (by omega)), q_cl (show 4 * p + i < 2147483648 by omega), hm, L1, q_add]
    simp (disch := omega) only [q_eq]
    unfold fnd
    by_cases hwx : w (4 * p + i) = a
    · simp only [hwx, if_true, reduceCtorEq, and_false, if_false]
    · simp only [hwx, if_false]
      exact ih (i + 1) (by omega)
theorem p_word10_ok {M : MM} {P : Nat} {c w k : Nat → Nat} (hW : WH P c w k) (h : RHm M P c w k) {a b : Nat} (ha : a ≤ 59) (hb : b ≤ 99) (ho : okW P c w a) : mX10_word [.inr (some 19), .inl (nI a), .inl (nI b)] M = some (some (.inl (nI (c (P - 1) + 1))), Mw10 M (P - 1) (c (P - 1)) a b) := by
  have h8 := hW.1
  obtain ⟨h0, h1, h2⟩ := ho
  rw [iX10_word, eX10_word_0, L0, L59, p_isIn_in (by omega) ha (by omega)]
  simp (disch := omega) only [h.1, q_eq, show ¬ P = 0 by omega, if_false, bnd1, Option.toList_some, List.cons_append, List.nil_append, eX10_word_14]
  rw [L0, L99, p_isIn_in (by omega) hb (by omega)]
  simp (disch := omega) only [L1, q_eq, Nat.one_ne_zero, if_false, bnd1, Option.toList_some, List.cons_append, List.nil_append, eX10_word_24, L0, h.1, q_sub]
  rw [p_word10_loop hW h (by omega) ha hb (c (P - 1)) 0 (by omega), if_pos ⟨h1, h2⟩]
theorem p_word10_no {M : MM} {P : Nat} {c w k : Nat → Nat} (hW : WH P c w k) (h : RHm M P c w k) (x1 x2 : Int32) (ho : ∀ a b, a ≤ 59 → b ≤ 99 → x1 = nI a → x2 = nI b → ¬ okW P c w a) : mX10_word [.inr (some 19), .inl x1, .inl x2] M = some (some (.inl (-nI 1)), M) := by
  have h8 := hW.1
  rw [iX10_word, eX10_word_0, L0, L59]
  by_cases hP : P = 0
  · simp (disch := omega) only [h.1, q_eq, hP, if_true, L1]
  · simp (disch := omega) only [h.1, q_eq, hP, if_false]
    rcases rng x1 59 (by omega) with ⟨a, ha, rfl⟩ | hx
    · rw [p_isIn_in (by omega) ha (by omega)]
      simp (disch := omega) only [L1, L0, q_eq, Nat.one_ne_zero, if_false, bnd1, Option.toList_some, List.cons_append, List.nil_append, eX10_word_14]
      rw [L99]
      rcases rng x2 99 (by omega) with ⟨b, hb, rfl⟩ | hx
      · rw [p_isIn_in (by omega) hb (by omega)]
        simp (disch := omega) only [L1, q_eq, Nat.one_ne_zero, if_false, bnd1, Option.toList_some, List.cons_append, List.nil_append, eX10_word_24, L0, h.1, q_sub]
        rw [p_word10_loop hW h (by omega) ha hb (c (P - 1)) 0 (by omega), if_neg (fun h9 => ho a b ha hb rfl rfl ⟨by omega, h9.1, h9.2⟩)]
      · rw [p_isIn_out hx]
        simp (disch := omega) only [L1, q_eq, if_true, bnd1, Option.toList_some, List.cons_append, List.nil_append, eX10_word_24, L0]
    · rw [p_isIn_out hx]
      simp (disch := omega) only [L1, L0, q_eq, if_true, bnd1, Option.toList_some, List.cons_append, List.nil_append, eX10_word_14]
