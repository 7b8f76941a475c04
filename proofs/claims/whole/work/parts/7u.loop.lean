/-! The law's loop: it ends with 1. -/
theorem law_cmp {L a : Nat} {xs : Nat → Int32} {M : MM} (hL : L ≤ 4608) (ha : a < 5000) : gL L xs 18 (lsL a) [] M = if L < a + 9 then some (some (.inl 1), M) else gL L xs 27 (lsL a) [] M := by
  rw [gl_il (zk_18 L xs), gl_al0 (zk_19 L xs), gl_by (zk_20 L xs)]
  show (if 100 = 100 then gL L xs 21 (lsL a) (.inl (nI L) :: [.inl (nI a)]) M else none) = _
  rw [if_pos rfl, gl_by (zk_21 L xs)]
  show gL L xs 23 (lsL a) (.inl (nI 9) :: .inl (nI L) :: [.inl (nI a)]) M = _
  rw [gl_by (zk_23 L xs)]
  show gL L xs 24 (lsL a) (.inl (nI L - nI 9) :: [.inl (nI a)]) M = _
  rw [gl_by (zk_24 L xs)]
  show (if nI L - nI 9 < nI a then gL L xs 569 (lsL a) [] M else gL L xs 27 (lsL a) [] M) = _
  have e : (nI L - nI 9 < nI a) = (L < a + 9) := by
    rw [iZ_nat L, iZ_nat 9, iZ_nat a, z_sub, z_lt (by omega) (by omega) (by omega) (by omega)]
    exact propext ⟨fun h => by omega, fun h => by omega⟩
  by_cases h : L < a + 9
  · rw [if_pos h, if_pos (e.mpr h), gl_by (zk_569 L xs)]
    show gL L xs 570 (lsL a) [.inl 1] M = _
    rw [gl_by (zk_570 L xs)]
    show (if (1 : Int32) = 1 then some (some (.inl 1), M) else none) = (some (some (.inl 1), M) : Option AR)
    rw [if_pos rfl]
  · rw [if_neg h, if_neg (fun q => h (e.mp q))]
theorem law_inc {L a : Nat} {xs : Nat → Int32} {M : MM} : gL L xs 563 (lsL a) [] M = gL L xs 18 (lsL (a + 9)) [] M := by
  rw [gl_by (zk_563 L xs)]
  show gL L xs 566 [some (.inr (some 100)), some (.inr (some 0)), some (.inr (some 19)), some (.inl (nI a + nI 9))] [] M = _
  rw [q_add, gl_by (zk_566 L xs)]
  rfl
theorem b01 (x : Int32) : (if x = 0 then (0 : Int32) else 1) = 0 ∨ (if x = 0 then (0 : Int32) else 1) = 1 := by
  by_cases h : x = 0
  · rw [if_pos h]; exact Or.inl rfl
  · rw [if_neg h]; exact Or.inr rfl
theorem law_one {L a : Nat} {xs : Nat → Int32} {M : MM} (hL : L ≤ 4608) (ha : a + 9 ≤ L) (h : RR M) : ∃ M2, RR M2 ∧ gL L xs 27 (lsL a) [] M = gL L xs 563 (lsL a) [] M2 := by
  have e : gL L xs 27 (lsL a) [] M = (if xs a &&& 15 = 0 then gL L xs 100 (lsL a) [] M else if xs a &&& 15 = 1 then gL L xs 185 (lsL a) [] M else if xs a &&& 15 = 2 then gL L xs 300 (lsL a) [] M else if xs a &&& 15 = 3 then gL L xs 343 (lsL a) [] M else if xs a &&& 15 = 4 then gL L xs 386 (lsL a) [] M else if xs a &&& 15 = 5 then gL L xs 399 (lsL a) [] M else if xs a &&& 15 = 6 then gL L xs 432 (lsL a) [] M else if xs a &&& 15 = 7 then gL L xs 445 (lsL a) [] M else if xs a &&& 15 = 8 then gL L xs 458 (lsL a) [] M else if xs a &&& 15 = 9 then gL L xs 481 (lsL a) [] M else if xs a &&& 15 = 10 then gL L xs 504 (lsL a) [] M else if xs a &&& 15 = 11 then gL L xs 537 (lsL a) [] M else if xs a &&& 15 = 12 then gL L xs 550 (lsL a) [] M else gL L xs 563 (lsL a) [] M) := by
    rw [gl_al0 (zk_27 L xs), gl_il (zk_28 L xs), gl_sa (zk_29 L xs) (show a < L by omega) hL, gl_by (zk_30 L xs)]
    show gL L xs 32 (lsL a) (.inl 15 :: [.inl (xs a)]) M = _
    rw [gl_by (zk_32 L xs)]
    show gL L xs 33 (lsL a) [.inl (xs a &&& 15)] M = _
    rw [gl_by (zk_33 L xs)]
    rfl
  rw [e]
  generalize xs a &&& 15 = z
  by_cases q0 : z = 0
  · rw [if_pos q0]
    obtain ⟨v, M1, M2, h9, h10, hR⟩ := c_digits h (xs (a + 1)) (xs (a + 2)) (b01 (xs (a + 3))) (b01 (xs (a + 4)))
    exact ⟨M2, hR, law_digits hL ha h9 h10⟩
  rw [if_neg q0]
  by_cases q1 : z = 1
  · rw [if_pos q1]
    obtain ⟨v, M1, M2, h9, h10, hR⟩ := c_choice h (xs (a + 1)) (b01 (xs (a + 2))) (fun i => xs (a + 3 + i))
    exact ⟨M2, hR, law_choice hL ha h9 h10⟩
  rw [if_neg q1]
  by_cases q2 : z = 2
  · rw [if_pos q2]
    obtain ⟨v, M1, M2, h9, h10, hR⟩ := c_needs h (xs (a + 1)) (xs (a + 2)) (xs (a + 3))
    exact ⟨M2, hR, law_needs hL ha h9 h10⟩
  rw [if_neg q2]
  by_cases q3 : z = 3
  · rw [if_pos q3]
    obtain ⟨v, M1, M2, h9, h10, hR⟩ := c_costs h (xs (a + 1)) (xs (a + 2)) (xs (a + 3))
    exact ⟨M2, hR, law_costs hL ha h9 h10⟩
  rw [if_neg q3]
  by_cases q4 : z = 4
  · rw [if_pos q4]
    obtain ⟨v, M1, M2, h9, h10, hR⟩ := c_place h
    exact ⟨M2, hR, law_place hL ha h9 h10⟩
  rw [if_neg q4]
  by_cases q5 : z = 5
  · rw [if_pos q5]
    obtain ⟨v, M1, M2, h9, h10, hR⟩ := c_word h (xs (a + 1)) (xs (a + 2))
    exact ⟨M2, hR, law_word hL ha h9 h10⟩
  rw [if_neg q5]
  by_cases q6 : z = 6
  · rw [if_pos q6]
    obtain ⟨v, M1, M2, h9, h10, hR⟩ := c_say h
    exact ⟨M2, hR, law_say hL ha h9 h10⟩
  rw [if_neg q6]
  by_cases q7 : z = 7
  · rw [if_pos q7]
    obtain ⟨v, M1, M2, h9, h10, hR⟩ := c_goOn h
    exact ⟨M2, hR, law_goOn hL ha h9 h10⟩
  rw [if_neg q7]
  by_cases q8 : z = 8
  · rw [if_pos q8]
    obtain ⟨v, M1, M2, h9, h10, hR⟩ := c_told h (xs (a + 1))
    exact ⟨M2, hR, law_told hL ha h9 h10⟩
  rw [if_neg q8]
  by_cases q9 : z = 9
  · rw [if_pos q9]
    obtain ⟨v, M1, M2, h9, h10, hR⟩ := c_about h (xs (a + 1))
    exact ⟨M2, hR, law_about hL ha h9 h10⟩
  rw [if_neg q9]
  by_cases q10 : z = 10
  · rw [if_pos q10]
    obtain ⟨v, M1, M2, h9, h10, hR⟩ := c_field h (xs (a + 1)) (xs (a + 2))
    exact ⟨M2, hR, law_field hL ha h9 h10⟩
  rw [if_neg q10]
  by_cases q11 : z = 11
  · rw [if_pos q11]
    obtain ⟨v, M1, M2, h9, h10, hR⟩ := c_hearBack h
    exact ⟨M2, hR, law_hearBack hL ha h9 h10⟩
  rw [if_neg q11]
  by_cases q12 : z = 12
  · rw [if_pos q12]
    obtain ⟨v, M1, M2, h9, h10, hR⟩ := c_send h
    exact ⟨M2, hR, law_send hL ha h9 h10⟩
  rw [if_neg q12]
  exact ⟨M, h, rfl⟩
theorem law_loop {L : Nat} (hL : L ≤ 4608) (xs : Nat → Int32) : ∀ (n a : Nat) (M : MM), RR M → L ≤ a + n → a < 4700 → ∃ M', gL L xs 18 (lsL a) [] M = some (some (.inl 1), M') := by
  intro n
  induction n with
  | zero => exact fun a M _ hn h5 => ⟨M, by rw [law_cmp hL (by omega), if_pos (by omega)]⟩
  | succ n ih =>
    intro a M hR hn h5
    by_cases h : L < a + 9
    · exact ⟨M, by rw [law_cmp hL (by omega), if_pos h]⟩
    · obtain ⟨M2, hR2, e⟩ := law_one (xs := xs) hL (show a + 9 ≤ L by omega) hR
      obtain ⟨M', e'⟩ := ih (a + 9) M2 hR2 (by omega) (by omega)
      exact ⟨M', by rw [law_cmp hL (by omega), if_neg h, e, law_inc]; exact e'⟩
