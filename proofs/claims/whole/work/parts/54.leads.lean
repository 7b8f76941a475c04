/-! Leads: what stands ahead of a row or a name; begin, clear, cost, value of DigitRows. -/
/-- the cost of a lead; none: above all costs -/
def ldC : Option Int → Int
  | some x => x
  | none => 1000000
/-- the word that leads the sort: GO for 7, else NO -/
def ldw (s : Nat) : Nat := if s = 7 then 17 else 16
theorem p_leadAtFirst {M : MM} {s : Nat} (hs : s ≤ 8) : mX4_leadAtFirst [.inl (nI s)] M = some (some (.inl (iZ (ldC (if s = 0 then some 0 else none)))), M) := by
  rw [iX4_leadAtFirst, eX4_leadAtFirst_0, L0]
  by_cases h : s = 0
  · subst h
    rw [if_pos rfl, if_pos rfl]
    rfl
  · rw [if_neg (by rw [q_eq (by omega) (by omega)]; exact h), if_neg h]
    rfl
/-- the lead that the place p gives -/
def ldP (c w k : Nat → Nat) (no s p : Nat) : Option Int := if s = 0 then none else (fnd (fun i => w (4 * p + i)) (ldw s) 0 (c p)).map (fun i => (k (4 * p + i) : Int) - (no : Int))
theorem p_leadIn {M : MM} {P no od ne s p : Nat} {c w k : Nat → Nat} (hW : WH P c w k) (hH : RHx M P c w k) (hN : RNx M no od ne) (hno : no ≤ 99) (hs : s ≤ 8) (hp : p < P) : mX4_leadIn [.inr (some 3), .inl (nI p), .inl (nI s)] M = some (some (.inl (iZ (ldC (ldP c w k no s p)))), M) := by
  have h8 := hW.1
  have s25 : gX4_leadIn 25 [some (.inr (some 3)), some (.inl (nI p)), some (.inl (nI s)), none] [.inl (nI (ldw s)), .inl (nI p), .inr (some 2)] M = some (some (.inl (iZ (ldC ((fnd (fun i => w (4 * p + i)) (ldw s) 0 (c p)).map (fun i => (k (4 * p + i) : Int) - (no : Int)))))), M) := by
    rw [eX4_leadIn_25, p_costOf hW hH hp (by unfold ldw; split <;> omega)]
    cases hf : fnd (fun i => w (4 * p + i)) (ldw s) 0 (c p) with
    | none =>
      simp only [Option.map_none, oI, bnd1, Option.toList_some, List.cons_append, List.nil_append, eX4_leadIn_28]
      rw [L1, if_pos rfl]
      rfl
    | some j =>
      have hj := fnd_some hf
      have hk := ((hW.2 p hp).2.1 j (by omega)).2
      simp only [Option.map_some, oI, bnd1, Option.toList_some, List.cons_append, List.nil_append, eX4_leadIn_28]
      rw [L1, if_neg (by rw [q_m1e (by omega)]; exact fun h => h), hN.1, iZ_nat (k (4 * p + j)), iZ_nat no, z_sub]
      rfl
  rw [iX4_leadIn, eX4_leadIn_0, L0, L7, L16, L17]
  unfold ldP
  by_cases h0 : s = 0
  · subst h0
    rw [if_pos rfl, if_pos rfl]
    rfl
  · rw [if_neg (by rw [q_eq (by omega) (by omega)]; exact h0), if_neg h0]
    by_cases h7 : s = 7
    · subst h7
      rw [if_pos rfl]
      exact s25
    · rw [if_neg (by rw [q_eq (by omega) (by omega)]; exact h7)]
      have e : ldw s = 16 := by unfold ldw; rw [if_neg h7]
      rw [e] at s25
      rw [e]
      exact s25
theorem p_begin {M : MM} {D : Nat → Nat → T2} {x : Int} (hRD : RD M D) (hok : okT (D 0 0)) (hx1 : -1000 ≤ x) (hx2 : x ≤ 1000) : ∃ M' : MM, mX0_begin [.inr (some 13), .inl (iZ x)] M = some (none, M') ∧ RD M' (updD D 0 0 (ins2 (D 0 0) x 0)) ∧ ∀ c' j, c' ≠ 16 → c' ≠ 17 → M' c' j = M c' j := by
  obtain ⟨M', g1, g2, g3, g4⟩ := p_offer_b (M := M) (r := 0) (t := D 0 0) (c := x) (k := 0) (by omega) (hRD 0 (by omega) 0 (by omega)) hok (by omega) (by omega) (by omega)
  refine ⟨M', ?_, RD_upd (q := 0) (s := 0) hRD (by omega) (by omega) g2 g4, g3⟩
  rw [iX0_begin, eX0_begin_0, L0]
  have e0 : iZ ((0 : Nat) : Int) = nI 0 := rfl
  rw [e0] at g1
  rw [g1]
  simp only [bnd0, Option.toList_none, List.nil_append, eX0_begin_10]
theorem p_dclear {M : MM} {n ck : Nat} (hc : ck ≤ 1) : ∃ M' : MM, mX0_clear [.inr (some 13), .inl (nI n), .inl (nI ck)] M = some (none, M') ∧ RD M' (fun _ _ => (none, none)) ∧ RDl M' n ck ∧ ∀ c' j, c' ≠ 13 → c' ≠ 16 → c' ≠ 17 → M' c' j = M c' j := by
  obtain ⟨M1, g1, g2, g3⟩ := p_clear_b (M := M)
  refine ⟨st2 (st2 M1 13 1 (nI n)) 13 2 (nI ck), ?_, fun q hq s hs => ?_, ⟨?_, ?_⟩, fun c' j h1 h2 h3 => ?_⟩
  · rw [iX0_clear, eX0_clear_0, g1]
    simp only [bnd0, Option.toList_none, List.nil_append, eX0_clear_7]
    rw [if_pos]
    rcases (show ck = 0 ∨ ck = 1 by omega) with rfl | rfl
    · exact Or.inl rfl
    · exact Or.inr rfl
  · obtain ⟨a, b, c, d⟩ := g3 (q * 10 + s) (by omega)
    exact ⟨by simp (disch := omega) only [st2_nc]; exact a, by simp (disch := omega) only [st2_nc]; exact b, by simp (disch := omega) only [st2_nc]; exact c, by simp (disch := omega) only [st2_nc]; exact d⟩
  · rw [st2_nj _ (by decide), st2_at]
  · rw [st2_at]
  · rw [st2_nc _ h1, st2_nc _ h1]
    exact g2 c' j h2 h3
theorem p_dcost {M : MM} {D : Nat → Nat → T2} {n ck : Nat} (hL : RDl M n ck) (hn : n ≤ 8) (hRD : RD M D) : (mX0_cost [.inr (some 13), .inl (nI 0)] M = some (some (.inl (iZ (eC (D (2 * n) 0).1))), M) ∧ mX0_cost [.inr (some 13), .inl (nI 1)] M = some (some (.inl (iZ (eC (D (2 * n) 0).2))), M)) ∧ mX0_value [.inr (some 13), .inl (nI 0)] M = some (some (.inl (iZ (eK (D (2 * n) 0).1))), M) ∧ mX0_value [.inr (some 13), .inl (nI 1)] M = some (some (.inl (iZ (eK (D (2 * n) 0).2))), M) := by
  have hR := hRD (2 * n) (by omega) 0 (by omega)
  rw [Nat.add_zero] at hR
  have hidx : (2 : Int32) * M 13 1 * (10 : Int32) = nI (2 * n * 10) := by rw [hL.1, L2, L10, q_mul, q_mul]
  obtain ⟨a, b⟩ := p_tcost_b (by omega) hR
  obtain ⟨c, d⟩ := p_tkey_b (by omega) hR
  refine ⟨⟨?_, ?_⟩, ?_, ?_⟩
  · rw [iX0_cost, eX0_cost_0, hidx, a]
    simp only [bnd1, Option.toList_some, List.cons_append, List.nil_append, eX0_cost_17]
  · rw [iX0_cost, eX0_cost_0, hidx, b]
    simp only [bnd1, Option.toList_some, List.cons_append, List.nil_append, eX0_cost_17]
  · rw [iX0_value, eX0_value_0, hidx, c]
    simp only [bnd1, Option.toList_some, List.cons_append, List.nil_append, eX0_value_17]
  · rw [iX0_value, eX0_value_0, hidx, d]
    simp only [bnd1, Option.toList_some, List.cons_append, List.nil_append, eX0_value_17]
