/-! Twos.clear, and Reader.offer. -/
theorem p_fill {M : MM} {c N : Nat} {x : Int32} (hc : zkd c = 10) (hN : zln c = N) (hb : N < 2147483648) : ∃ M' : MM, mJ7_fill_53178 [.inr (some c), .inl x] M = some (none, M') ∧ (∀ c' j, c' ≠ c → M' c' j = M c' j) ∧ ∀ j, j < N → M' c j = x := by
  have key : ∀ n i (M1 : MM), i + n = N → (∀ c' j, c' ≠ c → M1 c' j = M c' j) → (∀ j, j < i → M1 c j = x) → ∃ M' : MM, gJ7_fill_53178 5 [some (.inr (some c)), some (.inl x), some (.inl (nI i)), some (.inl (nI N))] [] M1 = some (none, M') ∧ (∀ c' j, c' ≠ c → M' c' j = M c' j) ∧ ∀ j, j < N → M' c j = x := by
    intro n
    induction n with
    | zero =>
      intro i M1 hi h1 h2
      rw [eJ7_fill_53178_5, if_pos (nI_le (show N ≤ i by omega) (by omega))]
      exact ⟨M1, rfl, h1, fun j hj => h2 j (by omega)⟩
    | succ n ih =>
      intro i M1 hi h1 h2
      rw [eJ7_fill_53178_5, if_neg (by rw [q_le hb (by omega)]; omega), if_pos hc, hN, if_neg (nI_in (by omega) hb), q_cl (by omega), L1, q_add]
      refine ih (i + 1) _ (by omega) (fun c' j hc' => ?_) (fun j hj => ?_)
      · rw [st2_nc M1 hc']
        exact h1 c' j hc'
      · by_cases hji : j = i
        · subst hji
          exact st2_at M1 c j x
        · rw [st2_nj M1 hji]
          exact h2 j (by omega)
  rw [iJ7_fill_53178, eJ7_fill_53178_0, if_pos (by omega), L0, hN]
  exact key N 0 M (by omega) (fun _ _ _ => rfl) (fun j hj => by omega)
theorem p_clear_a {M : MM} : ∃ M' : MM, mX7_clear [.inr (some 10)] M = some (none, M') ∧ (∀ c' j, c' ≠ 11 → c' ≠ 12 → M' c' j = M c' j) ∧ RT M' 11 12 0 (none, none) := by
  obtain ⟨M1, e1, f1, g1⟩ := p_fill (M := M) (c := 11) (N := 2) (x := nI 1000000) rfl rfl (by omega)
  obtain ⟨M2, e2, f2, g2⟩ := p_fill (M := M1) (c := 12) (N := 2) (x := -nI 1) rfl rfl (by omega)
  refine ⟨M2, ?_, fun c' j h1 h2 => by rw [f2 c' j h2, f1 c' j h1], ?_⟩
  · rw [iX7_clear_a, eX7_clear_a_0, L1000000, e1]
    simp only [bnd0, Option.toList_none, List.nil_append, eX7_clear_a_9, L1]
    rw [e2]
    simp only [bnd0, Option.toList_none, List.nil_append, eX7_clear_a_17]
  · refine ⟨?_, ?_, ?_, ?_⟩
    · rw [f2 11 _ (by decide), g1 _ (by omega)]; rfl
    · rw [g2 _ (by omega)]; rfl
    · rw [f2 11 _ (by decide), g1 _ (by omega)]; rfl
    · rw [g2 _ (by omega)]; rfl
theorem p_clear_b {M : MM} : ∃ M' : MM, mX7_clear [.inr (some 15)] M = some (none, M') ∧ (∀ c' j, c' ≠ 16 → c' ≠ 17 → M' c' j = M c' j) ∧ ∀ r, r < 180 → RT M' 16 17 r (none, none) := by
  obtain ⟨M1, e1, f1, g1⟩ := p_fill (M := M) (c := 16) (N := 360) (x := nI 1000000) rfl rfl (by omega)
  obtain ⟨M2, e2, f2, g2⟩ := p_fill (M := M1) (c := 17) (N := 360) (x := -nI 1) rfl rfl (by omega)
  refine ⟨M2, ?_, fun c' j h1 h2 => by rw [f2 c' j h2, f1 c' j h1], fun r hr => ?_⟩
  · rw [iX7_clear_b, eX7_clear_b_0, L1000000, e1]
    simp only [bnd0, Option.toList_none, List.nil_append, eX7_clear_b_9, L1]
    rw [e2]
    simp only [bnd0, Option.toList_none, List.nil_append, eX7_clear_b_17]
  · refine ⟨?_, ?_, ?_, ?_⟩
    · rw [f2 16 _ (by decide), g1 _ (by omega)]; rfl
    · rw [g2 _ (by omega)]; rfl
    · rw [f2 16 _ (by decide), g1 _ (by omega)]; rfl
    · rw [g2 _ (by omega)]; rfl
/-- NOISE, ORDER, NEAR of the class -/
def RNx (M : MM) (no od ne : Nat) : Prop := M 3 4 = nI no ∧ M 3 5 = nI od ∧ M 3 6 = nI ne
def key2 (s v : Nat) : Nat := s * 100000000 + v
/-- Reader.offer: the cost is that of the places' noises, what is beyond them, and ORDER but for an ANSWER -/
theorem p_offer4 {M : MM} {P no od ne s v : Nat} {t : T2} {x : Int} (hP : M 2 3 = nI P) (hP8 : P ≤ 8) (hN : RNx M no od ne) (h1 : no ≤ 99) (h2 : od ≤ 99) (hR : RT M 11 12 0 t) (ho : okT t) (hs : s ≤ 8) (hv : v < 100000000) (hx1 : -900 ≤ x) (hx2 : x ≤ 900) : ∃ M' : MM, mX4_offer [.inr (some 3), .inl (nI s), .inl (nI v), .inl (iZ x)] M = some (none, M') ∧ RT M' 11 12 0 (ins2 t ((P * no : Nat) + x + (if s = 0 then 0 else (od : Int))) (key2 s v)) ∧ ∀ c' j, c' ≠ 11 → c' ≠ 12 → M' c' j = M c' j := by
  have hPn : P * no ≤ 8 * 99 := Nat.mul_le_mul hP8 h1
  have hk : nI s * (100000000 : Int32) + nI v = iZ ((key2 s v : Nat) : Int) := by rw [L100000000, q_mul, q_add, iZ_nat]; rfl
  have hk2 : key2 s v < 2000000000 := by unfold key2; omega
  have key : ∀ q : Nat, q ≤ 99 → ∃ M' : MM, gX4_offer 26 [some (.inr (some 3)), some (.inl (nI s)), some (.inl (nI v)), some (.inl (iZ x)), none] [.inl (nI q), .inl (nI P * nI no + iZ x)] M = some (none, M') ∧ RT M' 11 12 0 (ins2 t ((P * no : Nat) + x + (q : Int)) (key2 s v)) ∧ ∀ c' j, c' ≠ 11 → c' ≠ 12 → M' c' j = M c' j := by
    intro q hq
    have hc : nI P * nI no + iZ x + nI q = iZ ((P * no : Nat) + x + (q : Int)) := by rw [q_mul, iZ_nat (P * no), iZ_nat q, z_add, z_add]
    obtain ⟨M', e1, e2, e3, -⟩ := p_offer_a (M := M) (r := 0) (t := t) (c := (P * no : Nat) + x + (q : Int)) (k := key2 s v) (by omega) hR ho (by omega) (by omega) hk2
    refine ⟨M', ?_, e2, e3⟩
    rw [eX4_offer_26, L0, hc, hk, e1]
    simp only [bnd0, Option.toList_none, List.nil_append, eX4_offer_45]
  rw [iX4_offer, eX4_offer_0, hP, hN.1, hN.2.1, L0]
  by_cases h0 : s = 0
  · subst h0
    rw [if_pos rfl, if_pos rfl]
    exact key 0 (by omega)
  · rw [if_neg (by rw [q_eq (by omega) (by omega)]; exact h0), if_neg h0]
    exact key od h2
