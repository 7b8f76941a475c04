/-! Numbers: an Int32 that is a small natural number is written nI n; the tests of the runs become tests of naturals. -/
theorem L0 : (0 : Int32) = nI 0 := rfl
theorem L1 : (1 : Int32) = nI 1 := rfl
theorem L2 : (2 : Int32) = nI 2 := rfl
theorem L3 : (3 : Int32) = nI 3 := rfl
theorem L4 : (4 : Int32) = nI 4 := rfl
theorem L5 : (5 : Int32) = nI 5 := rfl
theorem L6 : (6 : Int32) = nI 6 := rfl
theorem L7 : (7 : Int32) = nI 7 := rfl
theorem L8 : (8 : Int32) = nI 8 := rfl
theorem L9 : (9 : Int32) = nI 9 := rfl
theorem L10 : (10 : Int32) = nI 10 := rfl
theorem L11 : (11 : Int32) = nI 11 := rfl
theorem L12 : (12 : Int32) = nI 12 := rfl
theorem L13 : (13 : Int32) = nI 13 := rfl
theorem L14 : (14 : Int32) = nI 14 := rfl
theorem L15 : (15 : Int32) = nI 15 := rfl
theorem L16 : (16 : Int32) = nI 16 := rfl
theorem L17 : (17 : Int32) = nI 17 := rfl
theorem L18 : (18 : Int32) = nI 18 := rfl
theorem L19 : (19 : Int32) = nI 19 := rfl
theorem L20 : (20 : Int32) = nI 20 := rfl
theorem L21 : (21 : Int32) = nI 21 := rfl
theorem L22 : (22 : Int32) = nI 22 := rfl
theorem L23 : (23 : Int32) = nI 23 := rfl
theorem L24 : (24 : Int32) = nI 24 := rfl
theorem L25 : (25 : Int32) = nI 25 := rfl
theorem L26 : (26 : Int32) = nI 26 := rfl
theorem L27 : (27 : Int32) = nI 27 := rfl
theorem L28 : (28 : Int32) = nI 28 := rfl
theorem L29 : (29 : Int32) = nI 29 := rfl
theorem L30 : (30 : Int32) = nI 30 := rfl
theorem L31 : (31 : Int32) = nI 31 := rfl
theorem L32 : (32 : Int32) = nI 32 := rfl
theorem L33 : (33 : Int32) = nI 33 := rfl
theorem L34 : (34 : Int32) = nI 34 := rfl
theorem L35 : (35 : Int32) = nI 35 := rfl
theorem L36 : (36 : Int32) = nI 36 := rfl
theorem L37 : (37 : Int32) = nI 37 := rfl
theorem L38 : (38 : Int32) = nI 38 := rfl
theorem L39 : (39 : Int32) = nI 39 := rfl
theorem L40 : (40 : Int32) = nI 40 := rfl
theorem L41 : (41 : Int32) = nI 41 := rfl
theorem L42 : (42 : Int32) = nI 42 := rfl
theorem L43 : (43 : Int32) = nI 43 := rfl
theorem L44 : (44 : Int32) = nI 44 := rfl
theorem L45 : (45 : Int32) = nI 45 := rfl
theorem L46 : (46 : Int32) = nI 46 := rfl
theorem L47 : (47 : Int32) = nI 47 := rfl
theorem L48 : (48 : Int32) = nI 48 := rfl
theorem L49 : (49 : Int32) = nI 49 := rfl
theorem L50 : (50 : Int32) = nI 50 := rfl
theorem L51 : (51 : Int32) = nI 51 := rfl
theorem L52 : (52 : Int32) = nI 52 := rfl
theorem L53 : (53 : Int32) = nI 53 := rfl
theorem L54 : (54 : Int32) = nI 54 := rfl
theorem L55 : (55 : Int32) = nI 55 := rfl
theorem L56 : (56 : Int32) = nI 56 := rfl
theorem L57 : (57 : Int32) = nI 57 := rfl
theorem L58 : (58 : Int32) = nI 58 := rfl
theorem L59 : (59 : Int32) = nI 59 := rfl
theorem L60 : (60 : Int32) = nI 60 := rfl
theorem L72 : (72 : Int32) = nI 72 := rfl
theorem L97 : (97 : Int32) = nI 97 := rfl
theorem L99 : (99 : Int32) = nI 99 := rfl
theorem L100 : (100 : Int32) = nI 100 := rfl
theorem L200 : (200 : Int32) = nI 200 := rfl
theorem L360 : (360 : Int32) = nI 360 := rfl
theorem L1000 : (1000 : Int32) = nI 1000 := rfl
theorem L1000000 : (1000000 : Int32) = nI 1000000 := rfl
theorem L100000000 : (100000000 : Int32) = nI 100000000 := rfl
theorem q_lt {a b : Nat} (ha : a < 2147483648) (hb : b < 2147483648) : (nI a < nI b) = (a < b) := propext (nI_ltI ha hb)
theorem q_le {a b : Nat} (ha : a < 2147483648) (hb : b < 2147483648) : (nI a ≤ nI b) = (a ≤ b) := propext (nI_leI ha hb)
theorem q_eq {a b : Nat} (ha : a < 2147483648) (hb : b < 2147483648) : (nI a = nI b) = (a = b) := propext (nI_eq ha hb)
theorem q_cl {a : Nat} (ha : a < 2147483648) : (nI a).toNatClampNeg = a := nI_clamp ha
theorem q_add (a b : Nat) : nI a + nI b = nI (a + b) := nI_add a b
theorem q_mul (a b : Nat) : nI a * nI b = nI (a * b) := pk_mul a b
theorem q_sub {a b : Nat} (h : b ≤ a) : nI a - nI b = nI (a - b) := pk_sub h
theorem q_div {a b : Nat} (ha : a < 2147483648) (h0 : 0 < b) (hb : b < 2147483648) : nI a / nI b = nI (a / b) := pk_div ha h0 hb
theorem q_rem {a b : Nat} (ha : a < 2147483648) (h0 : 0 < b) (hb : b < 2147483648) : nI a - nI a / nI b * nI b = nI (a % b) := pk_rem ha h0 hb
theorem m1I : (-nI 1 : Int32).toInt = -1 := by decide
theorem q_m1e {a : Nat} (ha : a < 2147483648) : (nI a = -nI 1) = False := by
  apply eq_false
  intro h
  have h1 := congrArg Int32.toInt h
  rw [nI_toInt ha, m1I] at h1
  omega
theorem q_em1 {a : Nat} (ha : a < 2147483648) : (-nI 1 = nI a) = False := by
  apply eq_false
  intro h
  have h1 := congrArg Int32.toInt h
  rw [nI_toInt ha, m1I] at h1
  omega
theorem q_m1lt {a : Nat} (ha : a < 2147483648) : (-nI 1 < nI a) = True := by
  apply eq_true
  rw [Int32.lt_iff_toInt_lt, nI_toInt ha, m1I]
  omega
theorem q_ltm1 {a : Nat} (ha : a < 2147483648) : (nI a < -nI 1) = False := by
  apply eq_false
  rw [Int32.lt_iff_toInt_lt, nI_toInt ha, m1I]
  omega
theorem q_m1le {a : Nat} (ha : a < 2147483648) : (-nI 1 ≤ nI a) = True := by
  apply eq_true
  rw [Int32.le_iff_toInt_le, nI_toInt ha, m1I]
  omega
theorem q_lem1 {a : Nat} (ha : a < 2147483648) : (nI a ≤ -nI 1) = False := by
  apply eq_false
  rw [Int32.le_iff_toInt_le, nI_toInt ha, m1I]
  omega
theorem q_addm1 {a : Nat} (h : 1 ≤ a) : nI a + -nI 1 = nI (a - 1) := by
  obtain ⟨b, rfl⟩ : ∃ b, a = b + 1 := ⟨a - 1, by omega⟩
  have := pk_m1 b
  rw [show b + 1 - 1 = b by omega]
  exact this
theorem st2_at (M : MM) (c j : Nat) (x : Int32) : st2 M c j x c j = x := by simp [st2]
theorem st2_nc (M : MM) {c j c' j' : Nat} {x : Int32} (h : c' ≠ c) : st2 M c j x c' j' = M c' j' := by simp [st2, h]
theorem st2_nj (M : MM) {c j j' : Nat} {x : Int32} (h : j' ≠ j) : st2 M c j x c j' = M c j' := by simp [st2, h]
theorem st2_if (M : MM) (c j : Nat) (x : Int32) (j' : Nat) : st2 M c j x c j' = if j' = j then x else M c j' := by simp [st2]
theorem q_z1 : nI 0 - nI 1 = -nI 1 := rfl
theorem rng (x : Int32) (n : Nat) (hn : n < 2147483647) : (∃ a, a ≤ n ∧ x = nI a) ∨ x < nI 0 ∨ nI n < x := by
  by_cases h : x < nI 0
  · exact Or.inr (Or.inl h)
  · obtain ⟨j, hj, rfl⟩ := nI_of (x := x) h
    by_cases h2 : j ≤ n
    · exact Or.inl ⟨j, h2, rfl⟩
    · exact Or.inr (Or.inr (nI_lt (by omega) hj))
theorem bnd1 {v : AV} {M : MM} {k : AR → Option AR} : (some (some v, M) : Option AR).bind k = k (some v, M) := rfl
theorem bnd0 {M : MM} {k : AR → Option AR} : (some (none, M) : Option AR).bind k = k (none, M) := rfl
