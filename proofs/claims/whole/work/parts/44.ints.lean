/-! Costs: an Int32 by its integer. -/
def iZ (z : Int) : Int32 := Int32.ofInt z
theorem iZ_toInt {z : Int} (h1 : -2147483648 ≤ z) (h2 : z < 2147483648) : (iZ z).toInt = z := Int32.toInt_ofInt_of_le h1 h2
theorem iZ_nat (n : Nat) : nI n = iZ (n : Int) := (Int32.ofInt_eq_ofNat).symm
theorem z_add (a b : Int) : iZ a + iZ b = iZ (a + b) := (Int32.ofInt_add a b).symm
theorem z_sub (a b : Int) : iZ a - iZ b = iZ (a - b) := (Int32.ofInt_sub a b).symm
theorem z_lt {a b : Int} (a1 : -2147483648 ≤ a) (a2 : a < 2147483648) (b1 : -2147483648 ≤ b) (b2 : b < 2147483648) : (iZ a < iZ b) = (a < b) := by
  apply propext
  rw [Int32.lt_iff_toInt_lt, iZ_toInt a1 a2, iZ_toInt b1 b2]
theorem z_le {a b : Int} (a1 : -2147483648 ≤ a) (a2 : a < 2147483648) (b1 : -2147483648 ≤ b) (b2 : b < 2147483648) : (iZ a ≤ iZ b) = (a ≤ b) := by
  apply propext
  rw [Int32.le_iff_toInt_le, iZ_toInt a1 a2, iZ_toInt b1 b2]
theorem z_eq {a b : Int} (a1 : -2147483648 ≤ a) (a2 : a < 2147483648) (b1 : -2147483648 ≤ b) (b2 : b < 2147483648) : (iZ a = iZ b) = (a = b) := by
  apply propext
  constructor
  · intro h
    have h1 := congrArg Int32.toInt h
    rw [iZ_toInt a1 a2, iZ_toInt b1 b2] at h1
    exact h1
  · intro h; rw [h]
theorem z_m1 : (-nI 1 : Int32) = iZ (-1) := rfl
/-- a pair of a row of two: its cost and its key; none: above all costs, and no key -/
def eC : Option (Int × Nat) → Int
  | some (c, _) => c
  | none => 1000000
def eK : Option (Int × Nat) → Int
  | some (_, k) => (k : Int)
  | none => -1
/-- costs and keys within bounds -/
def okp : Option (Int × Nat) → Prop
  | some (c, k) => -1000000 ≤ c ∧ c < 1000000 ∧ k < 2000000000
  | none => True
theorem okp_b {o : Option (Int × Nat)} (h : okp o) : -1000000 ≤ eC o ∧ eC o ≤ 1000000 ∧ -1 ≤ eK o ∧ eK o < 2000000000 := by
  rcases o with _ | ⟨c, k⟩
  · exact ⟨by decide, by decide, by decide, by decide⟩
  · obtain ⟨h1, h2, h3⟩ := h
    exact ⟨h1, Int.le_of_lt h2, by show (-1 : Int) ≤ (k : Int); omega, by show (k : Int) < 2000000000; omega⟩
/-- ins2 by costs and keys alone, as the class reckons it -/
theorem ins2_by {a b : Option (Int × Nat)} (hab : a = none → b = none) (ha : okp a) (hb : okp b) {c : Int} {k : Nat} (h1 : -1000000 ≤ c) (h2 : c < 1000000) (h3 : k < 2000000000) :
    ins2 (a, b) c k = if (k : Int) = eK a then (some (if eC a < c then eC a else c, k), b) else if c < eC a ∨ (c = eC a ∧ (k : Int) < eK a) then (some (c, k), a) else if c < eC b ∨ (c = eC b ∧ (k : Int) < eK b) then (a, some (c, k)) else (a, b) := by
  rcases a with _ | ⟨c0, k0⟩
  · obtain rfl := hab rfl
    have e1 : ¬ (k : Int) = eK none := by show ¬ (k : Int) = -1; omega
    have e2 : c < eC none ∨ (c = eC none ∧ (k : Int) < eK none) := Or.inl h2
    rw [if_neg e1, if_pos e2]
    rfl
  · have g1 : ((k : Int) = eK (some (c0, k0))) ↔ k = k0 := by show (k : Int) = (k0 : Int) ↔ _; omega
    have g2 : (c < eC (some (c0, k0)) ∨ (c = eC (some (c0, k0)) ∧ (k : Int) < eK (some (c0, k0)))) ↔ (c < c0 ∨ (c = c0 ∧ k < k0)) := by show (c < c0 ∨ (c = c0 ∧ (k : Int) < (k0 : Int))) ↔ _; omega
    have g3 : (if eC (some (c0, k0)) < c then eC (some (c0, k0)) else c) = (if c < c0 then c else c0) := by show (if c0 < c then c0 else c) = _; split <;> split <;> omega
    rw [g3]
    simp only [g1, g2]
    rcases b with _ | ⟨c1, k1⟩
    · have e3 : c < eC none ∨ (c = eC none ∧ (k : Int) < eK none) := Or.inl h2
      simp only [e3, if_true]
      unfold ins2
      dsimp only
      split
      · rename_i hk; rw [hk]
      · rfl
    · have g4 : (c < eC (some (c1, k1)) ∨ (c = eC (some (c1, k1)) ∧ (k : Int) < eK (some (c1, k1)))) ↔ (c < c1 ∨ (c = c1 ∧ k < k1)) := by show (c < c1 ∨ (c = c1 ∧ (k : Int) < (k1 : Int))) ↔ _; omega
      simp only [g4]
      unfold ins2
      dsimp only
      split
      · rename_i hk; rw [hk]
      · rfl
