/-! What was heard: both systems hold the same. -/
/-- P places; place p has c p words; the word i of p is w (4 p + i), at k (4 p + i) -/
def WH (P : Nat) (c w k : Nat → Nat) : Prop := P ≤ 8 ∧ ∀ p, p < P → c p ≤ 4 ∧ (∀ i, i < c p → w (4 * p + i) ≤ 59 ∧ k (4 * p + i) ≤ 99) ∧ ∀ i j, i < c p → j < c p → w (4 * p + i) = w (4 * p + j) → i = j
def RHx (M : MM) (P : Nat) (c w k : Nat → Nat) : Prop := M 2 3 = nI P ∧ ∀ p, p < P → M 9 p = nI (c p) ∧ ∀ i, i < c p → M 7 (4 * p + i) = nI (w (4 * p + i)) ∧ M 8 (4 * p + i) = nI (k (4 * p + i))
def RHm (M : MM) (P : Nat) (c w k : Nat → Nat) : Prop := M 19 16 = nI P ∧ ∀ p, p < P → M 32 p = nI (c p) ∧ ∀ i, i < c p → M 33 (4 * p + i) = nI (w (4 * p + i)) ∧ M 34 (4 * p + i) = nI (k (4 * p + i))
theorem RHx.congr {M M' : MM} {P : Nat} {c w k : Nat → Nat} (h : RHx M P c w k) (h2 : M' 2 3 = M 2 3) (h7 : M' 7 = M 7) (h8 : M' 8 = M 8) (h9 : M' 9 = M 9) : RHx M' P c w k := by
  unfold RHx
  rw [h2, h7, h8, h9]
  exact h
theorem RHm.congr {M M' : MM} {P : Nat} {c w k : Nat → Nat} (h : RHm M P c w k) (h2 : M' 19 16 = M 19 16) (h7 : M' 32 = M 32) (h8 : M' 33 = M 33) (h9 : M' 34 = M 34) : RHm M' P c w k := by
  unfold RHm
  rw [h2, h7, h8, h9]
  exact h
theorem p_place9 {M : MM} {P : Nat} (h1 : P ≤ 8) (h2 : M 2 3 = nI P) : mX9_place [.inr (some 0)] M = if P < 8 then some (some (.inl (nI (P + 1))), st2 (st2 M 9 P (nI 0)) 2 3 (nI (P + 1))) else some (some (.inl (-nI 1)), M) := by
  have e : mX2_addPlace [.inr (some 2)] M = if P < 8 then some (some (.inl (nI (P + 1))), st2 (st2 M 9 P (nI 0)) 2 3 (nI (P + 1))) else some (some (.inl (-nI 1)), M) := by
    rw [iX2_addPlace, eX2_addPlace_0]
    simp (disch := omega) only [L0, L1, L8, h2, q_lt, q_cl, q_add, st2_nc, st2_at]
    by_cases hP : P < 8
    · have h3 : ¬ (P < 0 ∨ 8 ≤ P) := by omega
      simp only [hP, h3, if_true, if_false]
    · simp only [hP, if_false]
  rw [iX9_place, eX9_place_0, e]
  by_cases hP : P < 8
  · simp only [hP, if_true, Option.bind_some, Option.toList_some, List.cons_append, List.nil_append, eX9_place_7]
  · simp only [hP, if_false, Option.bind_some, Option.toList_some, List.cons_append, List.nil_append, eX9_place_7]
theorem p_place10 {M : MM} {P : Nat} (h1 : P ≤ 8) (h2 : M 19 16 = nI P) : mX10_place [.inr (some 19)] M = if P < 8 then some (some (.inl (nI (P + 1))), st2 (st2 M 32 P (nI 0)) 19 16 (nI (P + 1))) else some (some (.inl (-nI 1)), M) := by
  rw [iX10_place, eX10_place_0]
  simp (disch := omega) only [L0, L1, L8, h2, q_eq, q_lt, q_cl, q_add, st2_nc, st2_at]
  by_cases hP : P < 8
  · have h3 : ¬ (P < 0 ∨ 8 ≤ P) := by omega
    have h4 : ¬ P = 8 := by omega
    simp only [hP, h3, h4, if_true, if_false]
  · have h4 : P = 8 := by omega
    simp only [h4, if_true, Nat.lt_irrefl, if_false]
theorem p_wordsIn {M : MM} {P : Nat} {c w k : Nat → Nat} (hW : WH P c w k) (h : RHx M P c w k) {p : Nat} (hp : p < P) : mX2_wordsIn [.inr (some 2), .inl (nI p)] M = some (some (.inl (nI (c p))), M) := by
  have h8 := hW.1
  rw [iX2_wordsIn, eX2_wordsIn_0]
  simp (disch := omega) only [L0, L8, h.1, (h.2 p hp).1, q_lt, q_le, q_cl]
  have a1 : ¬ p < 0 := by omega
  have a2 : ¬ P ≤ p := by omega
  have a3 : ¬ 8 ≤ p := by omega
  simp only [a1, a2, a3, or_self, if_false]
theorem p_wordAt {M : MM} {P : Nat} {c w k : Nat → Nat} (hW : WH P c w k) (h : RHx M P c w k) {p i : Nat} (hp : p < P) (hi : i < c p) : mX2_wordAt [.inr (some 2), .inl (nI p), .inl (nI i)] M = some (some (.inl (nI (w (4 * p + i)))), M) := by
  have h8 := hW.1
  have h4 := (hW.2 p hp).1
  rw [iX2_wordAt, eX2_wordAt_0, p_wordsIn hW h hp]
  simp only [Option.bind_some, Option.toList_some, List.cons_append, List.nil_append, eX2_wordAt_16]
  simp (disch := omega) only [L0, L4, L32, q_mul, q_add, q_lt, q_le, q_cl]
  have a1 : ¬ i < 0 := by omega
  have a2 : ¬ c p ≤ i := by omega
  have a3 : ¬ 32 ≤ p * 4 + i := by omega
  have a4 : ¬ p * 4 + i < 0 := by omega
  simp only [a1, a2, a3, a4, or_self, if_false]
  rw [show p * 4 + i = 4 * p + i by omega, ((h.2 p hp).2 i hi).1]
theorem p_costAt {M : MM} {P : Nat} {c w k : Nat → Nat} (hW : WH P c w k) (h : RHx M P c w k) {p i : Nat} (hp : p < P) (hi : i < c p) : mX2_costAt [.inr (some 2), .inl (nI p), .inl (nI i)] M = some (some (.inl (nI (k (4 * p + i)))), M) := by
  have h8 := hW.1
  have h4 := (hW.2 p hp).1
  rw [iX2_costAt, eX2_costAt_0, p_wordsIn hW h hp]
  simp only [Option.bind_some, Option.toList_some, List.cons_append, List.nil_append, eX2_costAt_16]
  simp (disch := omega) only [L0, L4, L32, q_mul, q_add, q_lt, q_le, q_cl]
  have a1 : ¬ i < 0 := by omega
  have a2 : ¬ c p ≤ i := by omega
  have a3 : ¬ 32 ≤ p * 4 + i := by omega
  have a4 : ¬ p * 4 + i < 0 := by omega
  simp only [a1, a2, a3, a4, or_self, if_false]
  rw [show p * 4 + i = 4 * p + i by omega, ((h.2 p hp).2 i hi).2]
/-- the first place from i on, n at most, where f has x -/
def fnd (f : Nat → Nat) (x : Nat) : Nat → Nat → Option Nat
  | _, 0 => none
  | i, n + 1 => if f i = x then some i else fnd f x (i + 1) n
theorem fnd_some {f : Nat → Nat} {x : Nat} : ∀ {n i j : Nat}, fnd f x i n = some j → i ≤ j ∧ j < i + n ∧ f j = x := by
  intro n
  induction n with
  | zero => intro i j h; cases h
  | succ n ih =>
    intro i j h
    unfold fnd at h
    split at h
    · rename_i h1
      have := Option.some.inj h
      subst this
      exact ⟨Nat.le_refl _, by omega, h1⟩
    · obtain ⟨a, b, c⟩ := ih h
      exact ⟨by omega, by omega, c⟩
theorem fnd_none {f : Nat → Nat} {x : Nat} : ∀ {n i : Nat}, fnd f x i n = none → ∀ j, i ≤ j → j < i + n → f j ≠ x := by
  intro n
  induction n with
  | zero => intro i h j h1 h2; omega
  | succ n ih =>
    intro i h j h1 h2
    unfold fnd at h
    split at h
    · cases h
    · rename_i h3
      by_cases hj : j = i
      · subst hj; exact h3
      · exact ih h j (by omega) (by omega)
/-- a number, or none (-1) -/
def oI : Option Nat → Int32
  | some j => nI j
  | none => -nI 1
theorem p_costOf {M : MM} {P : Nat} {c w k : Nat → Nat} (hW : WH P c w k) (h : RHx M P c w k) {p x : Nat} (hp : p < P) (hx : x < 100) : mX2_costOf [.inr (some 2), .inl (nI p), .inl (nI x)] M = some (some (.inl (oI ((fnd (fun i => w (4 * p + i)) x 0 (c p)).map (fun i => k (4 * p + i))))), M) := by
  have h8 := hW.1
  have h4 := (hW.2 p hp).1
  have key : ∀ n i, i + n = c p → gX2_costOf 2 [some (.inr (some 2)), some (.inl (nI p)), some (.inl (nI x)), some (.inl (nI i))] [] M = some (some (.inl (oI ((fnd (fun i => w (4 * p + i)) x i n).map (fun i => k (4 * p + i))))), M) := by
    intro n
    induction n with
    | zero =>
      intro i hi
      rw [eX2_costOf_2, p_wordsIn hW h hp]
      simp only [Option.bind_some, Option.toList_some, List.cons_append, List.nil_append, eX2_costOf_8]
      simp (disch := omega) only [L1, q_le]
      have a1 : c p ≤ i := by omega
      simp only [a1, if_true]
      rfl
    | succ n ih =>
      intro i hi
      have hic : i < c p := by omega
      have hw := ((hW.2 p hp).2.1 i hic).1
      rw [eX2_costOf_2, p_wordsIn hW h hp]
      simp only [Option.bind_some, Option.toList_some, List.cons_append, List.nil_append, eX2_costOf_8]
      simp (disch := omega) only [L1, q_le]
      have a1 : ¬ c p ≤ i := by omega
      simp only [a1, if_false]
      rw [p_wordAt hW h hp hic]
      simp only [Option.bind_some, Option.toList_some, List.cons_append, List.nil_append, eX2_costOf_17]
      simp (disch := omega) only [L1, q_eq, q_add]
      unfold fnd
      by_cases hwx : w (4 * p + i) = x
      · simp only [hwx, if_true]
        rw [p_costAt hW h hp hic]
        simp only [Option.bind_some, Option.toList_some, List.cons_append, List.nil_append, eX2_costOf_27]
        rfl
      · simp only [hwx, if_false]
        exact ih (i + 1) (by omega)
  rw [iX2_costOf, eX2_costOf_0, L0]
  exact key (c p) 0 (by omega)
