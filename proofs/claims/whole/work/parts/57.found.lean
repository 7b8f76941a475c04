/-! The reference's found: the same insertion. -/
def RM1 (M : MM) (j : Nat) (o : Option (Int × Nat)) : Prop := match o with
  | none => M 37 j = iZ 1000000
  | some (c, k) => ∃ s v, k = key2 s v ∧ s ≤ 8 ∧ v < 100000000 ∧ M 37 j = iZ c ∧ M 35 j = nI s ∧ M 36 j = nI v
def RM (M : MM) (t : T2) : Prop := RM1 M 0 t.1 ∧ RM1 M 1 t.2
theorem key2_inj {s v s' v' : Nat} (hv : v < 100000000) (hv' : v' < 100000000) : key2 s v = key2 s' v' ↔ s = s' ∧ v = v' := by
  unfold key2; omega
theorem key2_lt {s v s' v' : Nat} (hv : v < 100000000) (hv' : v' < 100000000) : key2 s v < key2 s' v' ↔ s < s' ∨ (s = s' ∧ v < v') := by
  unfold key2; omega
/-- isAhead against a pair that stands at j, or none -/
theorem p_isAhead {M : MM} {j : Nat} {o : Option (Int × Nat)} {c : Int} {s v : Nat} (h : RM1 M j o) (ho : okp o) (h1 : -1000000 ≤ c) (h2 : c < 1000000) (hs : s ≤ 8) (hv : v < 100000000) : mX10_isAhead [.inl (iZ c), .inl (nI s), .inl (nI v), .inl (M 37 j), .inl (M 35 j), .inl (M 36 j)] M = some (some (.inl (nI (if c < eC o ∨ (c = eC o ∧ (key2 s v : Int) < eK o) then 1 else 0))), M) := by
  obtain ⟨b1, b2, b3, b4⟩ := okp_b ho
  rw [iX10_isAhead, eX10_isAhead_0, L0, L1]
  cases o with
  | none =>
    have h : M 37 j = iZ 1000000 := h
    rw [h, if_neg (by rw [z_eq (by omega) (by omega) (by omega) (by omega)]; omega), if_neg (by rw [z_le (by omega) (by omega) (by omega) (by omega)]; omega)]
    have hE : c < eC none ∨ (c = eC none ∧ (key2 s v : Int) < eK none) := Or.inl h2
    rw [if_pos hE]
  | some q =>
    obtain ⟨c0, k0⟩ := q
    obtain ⟨s0, v0, rfl, hs0, hv0, e1, e2, e3⟩ := h
    obtain ⟨a1, a2, a3⟩ := ho
    rw [e1, e2, e3]
    have hk := key2_lt (s := s) (s' := s0) hv hv0
    have hE : (c < eC (some (c0, key2 s0 v0)) ∨ (c = eC (some (c0, key2 s0 v0)) ∧ (key2 s v : Int) < eK (some (c0, key2 s0 v0)))) ↔ (c < c0 ∨ (c = c0 ∧ (s < s0 ∨ (s = s0 ∧ v < v0)))) := by
      show (c < c0 ∨ (c = c0 ∧ ((key2 s v : Nat) : Int) < ((key2 s0 v0 : Nat) : Int))) ↔ _
      rw [← hk]
      omega
    simp only [hE]
    by_cases g1 : c = c0
    · subst g1
      rw [if_pos rfl]
      by_cases g2 : s = s0
      · subst g2
        rw [if_pos rfl]
        by_cases g3 : v0 ≤ v
        · rw [if_pos (nI_le g3 (by omega)), if_neg (by omega)]
        · rw [if_neg (by rw [q_le (by omega) (by omega)]; exact g3), if_pos (by omega)]
      · rw [if_neg (by rw [q_eq (by omega) (by omega)]; exact g2)]
        by_cases g3 : s0 ≤ s
        · rw [if_pos (nI_le g3 (by omega)), if_neg (by omega)]
        · rw [if_neg (by rw [q_le (by omega) (by omega)]; exact g3), if_pos (by omega)]
    · rw [if_neg (by rw [z_eq (by omega) (by omega) (by omega) (by omega)]; exact g1)]
      by_cases g3 : c0 ≤ c
      · rw [if_pos (by rw [z_le (by omega) (by omega) (by omega) (by omega)]; exact g3), if_neg (by omega)]
      · rw [if_neg (by rw [z_le (by omega) (by omega) (by omega) (by omega)]; exact g3), if_pos (by omega)]
theorem p_set {M : MM} {j : Nat} {a b c : Int32} (hj : j < 2) : mX10_set [.inr (some 19), .inl (nI j), .inl a, .inl b, .inl c] M = some (none, st2 (st2 (st2 M 37 j a) 35 j b) 36 j c) := by
  have g : ¬ (nI j < 0 ∨ 2 ≤ (nI j).toNatClampNeg) := nI_in (by omega) (by omega)
  rw [iX10_set, eX10_set_0, if_neg g, if_neg g, if_neg g, q_cl (by omega)]
theorem RM1_some {M : MM} {j : Nat} {c : Int} {s v : Nat} (hs : s ≤ 8) (hv : v < 100000000) (h1 : M 37 j = iZ c) (h2 : M 35 j = nI s) (h3 : M 36 j = nI v) : RM1 M j (some (c, key2 s v)) := ⟨s, v, rfl, hs, hv, h1, h2, h3⟩
theorem RM1_copy {M M' : MM} {j j' : Nat} {o : Option (Int × Nat)} (h : RM1 M j o) (h1 : M' 37 j' = M 37 j) (h2 : M' 35 j' = M 35 j) (h3 : M' 36 j' = M 36 j) : RM1 M' j' o := by
  cases o with
  | none => exact h1.trans h
  | some q =>
    obtain ⟨s, v, e, a, b, e1, e2, e3⟩ := h
    exact ⟨s, v, e, a, b, h1.trans e1, h2.trans e2, h3.trans e3⟩
theorem p_found {M : MM} {t : T2} {c : Int} {s v : Nat} (hR : RM M t) (hok : okT t) (h1 : -1000000 ≤ c) (h2 : c < 1000000) (hs : s ≤ 8) (hv : v < 100000000) : ∃ M' : MM, mX10_found [.inr (some 19), .inl (iZ c), .inl (nI s), .inl (nI v)] M = some (none, M') ∧ RM M' (ins2 t c (key2 s v)) ∧ ∀ c' j, c' ≠ 35 → c' ≠ 36 → c' ≠ 37 → M' c' j = M c' j := by
  obtain ⟨a, b⟩ := t
  obtain ⟨ra, rb⟩ := hR
  obtain ⟨ha, hb, hab⟩ := hok
  dsimp only at ra rb ha hb hab
  have hk : key2 s v < 2000000000 := by unfold key2; omega
  rw [ins2_by hab ha hb h1 h2 hk]
  -- from the second test on
  have h49 : ¬ (key2 s v : Int) = eK a → ∃ M' : MM, gX10_found 49 [some (.inr (some 19)), some (.inl (iZ c)), some (.inl (nI s)), some (.inl (nI v))] [] M = some (none, M') ∧ RM M' (if c < eC a ∨ (c = eC a ∧ (key2 s v : Int) < eK a) then (some (c, key2 s v), a) else if c < eC b ∨ (c = eC b ∧ (key2 s v : Int) < eK b) then (a, some (c, key2 s v)) else (a, b)) ∧ ∀ c' j, c' ≠ 35 → c' ≠ 36 → c' ≠ 37 → M' c' j = M c' j := by
    intro _
    rw [eX10_found_49, p_isAhead ra ha h1 h2 hs hv]
    simp only [bnd1, Option.toList_some, List.cons_append, List.nil_append, eX10_found_73]
    by_cases g1 : c < eC a ∨ (c = eC a ∧ (key2 s v : Int) < eK a)
    · rw [if_pos g1, if_pos g1, L0, if_neg (by rw [q_eq (by omega) (by omega)]; omega), L1, p_set (by omega)]
      simp only [bnd0, Option.toList_none, List.nil_append, eX10_found_99]
      rw [L0, p_set (by omega)]
      simp only [bnd0, Option.toList_none, List.nil_append, eX10_found_107, eX10_found_145]
      refine ⟨_, rfl, ⟨RM1_some hs hv ?_ ?_ ?_, RM1_copy ra ?_ ?_ ?_⟩, fun c' j q1 q2 q3 => ?_⟩
      all_goals simp (disch := omega) only [st2_nc, st2_nj, st2_at]
    · rw [if_neg g1, if_neg g1, L0, if_pos rfl, p_isAhead rb hb h1 h2 hs hv]
      simp only [bnd1, Option.toList_some, List.cons_append, List.nil_append, eX10_found_134]
      by_cases g2 : c < eC b ∨ (c = eC b ∧ (key2 s v : Int) < eK b)
      · rw [if_pos g2, if_pos g2, L0, if_neg (by rw [q_eq (by omega) (by omega)]; omega), L1, p_set (by omega)]
        simp only [bnd0, Option.toList_none, List.nil_append, eX10_found_145]
        refine ⟨_, rfl, ⟨RM1_copy ra ?_ ?_ ?_, RM1_some hs hv ?_ ?_ ?_⟩, fun c' j q1 q2 q3 => ?_⟩
        all_goals simp (disch := omega) only [st2_nc, st2_nj, st2_at]
      · rw [if_neg g2, if_neg g2, L0, if_pos rfl, eX10_found_145]
        exact ⟨M, rfl, ⟨ra, rb⟩, fun _ _ _ _ _ => rfl⟩
  rw [iX10_found, eX10_found_0]
  cases a with
  | none =>
    have e1 : M 37 0 = iZ 1000000 := ra
    have hne : ¬ (key2 s v : Int) = eK none := by show ¬ ((key2 s v : Nat) : Int) = -1; omega
    rw [e1, if_pos (by decide), if_neg hne]
    exact h49 hne
  | some q =>
    obtain ⟨c0, k0⟩ := q
    obtain ⟨s0, v0, rfl, hs0, hv0, e1, e2, e3⟩ := id ra
    obtain ⟨a1, a2, a3⟩ := ha
    have hki : ((key2 s v : Nat) : Int) = eK (some (c0, key2 s0 v0)) ↔ s = s0 ∧ v = v0 := by
      rw [← key2_inj hv hv0]
      show ((key2 s v : Nat) : Int) = ((key2 s0 v0 : Nat) : Int) ↔ _
      omega
    rw [e1, e2, e3, if_neg (by rw [L1000000, iZ_nat, z_le (by omega) (by omega) (by omega) (by omega)]; show ¬ ((1000000 : Nat) : Int) ≤ c0; omega)]
    by_cases g1 : s = s0
    · by_cases g2 : v = v0
      · subst g1
        subst g2
        rw [if_pos rfl, if_pos rfl, if_pos (hki.mpr ⟨rfl, rfl⟩)]
        by_cases g3 : c0 ≤ c
        · rw [if_pos (by rw [z_le (by omega) (by omega) (by omega) (by omega)]; exact g3)]
          refine ⟨M, rfl, ⟨?_, rb⟩, fun _ _ _ _ _ => rfl⟩
          have ec : (if eC (some (c0, key2 s v)) < c then eC (some (c0, key2 s v)) else c) = c0 := by show (if c0 < c then c0 else c) = c0; split <;> omega
          show RM1 M 0 (some ((if eC (some (c0, key2 s v)) < c then eC (some (c0, key2 s v)) else c), key2 s v))
          rw [ec]
          exact ra
        · rw [if_neg (by rw [z_le (by omega) (by omega) (by omega) (by omega)]; exact g3)]
          refine ⟨_, rfl, ⟨?_, RM1_copy rb ?_ ?_ ?_⟩, fun c' j q1 q2 q3 => ?_⟩
          · have ec : (if eC (some (c0, key2 s v)) < c then eC (some (c0, key2 s v)) else c) = c := by show (if c0 < c then c0 else c) = c; split <;> omega
            show RM1 _ 0 (some ((if eC (some (c0, key2 s v)) < c then eC (some (c0, key2 s v)) else c), key2 s v))
            rw [ec]
            refine RM1_some hs hv ?_ ?_ ?_
            · rw [st2_at]
            · rw [st2_nc _ (by decide)]; exact e2
            · rw [st2_nc _ (by decide)]; exact e3
          all_goals simp (disch := omega) only [st2_nc, st2_nj]
      · rw [if_pos (by rw [g1]), if_neg (by rw [q_eq (by omega) (by omega)]; exact fun e => g2 e.symm), if_neg (fun e => g2 (hki.mp e).2)]
        exact h49 (fun e => g2 (hki.mp e).2)
    · rw [if_neg (by rw [q_eq (by omega) (by omega)]; exact fun e => g1 e.symm), if_neg (fun e => g1 (hki.mp e).1)]
      exact h49 (fun e => g1 (hki.mp e).1)
