/-! offerDigits whole. -/
theorem okT_two {t : T2} (h : okT t) {c : Int} {k : Nat} (q : two2 t c k) : -1000000 ≤ c ∧ c < 1000000 ∧ k < 2000000000 := by
  obtain ⟨a, b⟩ := t
  obtain ⟨ha, hb, -⟩ := h
  rcases q with q | q
  · dsimp only at q ha
    rw [q] at ha
    exact ha
  · dsimp only at q hb
    rw [q] at hb
    exact hb
theorem okT_ins {t : T2} (h : okT t) {c : Int} {k : Nat} (h1 : -1000000 ≤ c) (h2 : c < 1000000) (h3 : k < 2000000000) : okT (ins2 t c k) :=
  okT_of (fun c' k' q => by
    rcases two2_ins q with q | ⟨rfl, rfl⟩
    · exact okT_two h q
    · exact ⟨h1, h2, h3⟩) ins2_fst
theorem zkd_slot {i : Nat} (h : i < 12) : zkd (i + 44) = 5 := by
  show (if i < 12 then 5 else if i < 24 then 10 else 99) = 5
  rw [if_pos h]
/-- one more meaning of the sort s, if there is one: x beyond the noise -/
def insM (t : T2) (o : Option (Int × Nat)) (P no od s : Nat) : T2 := match o with
  | none => t
  | some (x, v) => ins2 t ((P * no : Nat) + x + (if s = 0 then 0 else (od : Int))) (key2 s v)
theorem okT_insM {t : T2} (h : okT t) {o : Option (Int × Nat)} {P no od s : Nat} (hP : P ≤ 8) (hno : no ≤ 99) (hod : od ≤ 99) (hs : s ≤ 8) (ho : ∀ x v, o = some (x, v) → -900 ≤ x ∧ x ≤ 900 ∧ v < 100000000) : okT (insM t o P no od s) := by
  cases o with
  | none => exact h
  | some q =>
    obtain ⟨x, v⟩ := q
    obtain ⟨h1, h2, h3⟩ := ho x v rfl
    have hPn : P * no ≤ 8 * 99 := Nat.mul_le_mul hP hno
    refine okT_ins h ?_ ?_ ?_
    · split <;> omega
    · split <;> omega
    · unfold key2; omega
theorem p_tail_step {M : MM} {D : Nat → Nat → T2} {P n ck no od ne s rk : Nat} {t : T2} {r1 : Option Nat} {x3 : Int32} (hP : M 2 3 = nI P) (hP8 : P ≤ 8) (hn : n ≤ 8) (hno : no ≤ 99) (hod : od ≤ 99) (hs : s ≤ 8) (hN : RNx M no od ne) (hL : RDl M n ck) (hRD : RD M D) (hb : bndD D 900 kq10) (hR : RT M 11 12 0 t) (hok : okT t) (hrk : rk = 0 ∨ rk = 1) (o : Option (Int × Nat)) (ho : o = if rk = 0 then (D (2 * n) 0).1 else (D (2 * n) 0).2) : ∃ M' : MM, gX4_offerDigits 112 [some (.inr (some 3)), some (.inr r1), some (.inl (nI s)), some (.inl x3), some (.inl (nI rk))] [] M = gX4_offerDigits 112 [some (.inr (some 3)), some (.inr r1), some (.inl (nI s)), some (.inl x3), some (.inl (nI (rk + 1)))] [] M' ∧ RT M' 11 12 0 (insM t o P no od s) ∧ okT (insM t o P no od s) ∧ ∀ c' j, c' ≠ 11 → c' ≠ 12 → M' c' j = M c' j := by
  obtain ⟨⟨a0, a1⟩, b0, b1⟩ := p_dcost hL hn hRD
  have hcost : mX0_cost [.inr (some 13), .inl (nI rk)] M = some (some (.inl (iZ (eC o))), M) := by
    rcases hrk with rfl | rfl
    · rw [a0, ho, if_pos rfl]
    · rw [a1, ho, if_neg (by decide)]
  have hval : mX0_value [.inr (some 13), .inl (nI rk)] M = some (some (.inl (iZ (eK o))), M) := by
    rcases hrk with rfl | rfl
    · rw [b0, ho, if_pos rfl]
    · rw [b1, ho, if_neg (by decide)]
  have hot : ∀ x v, o = some (x, v) → -900 ≤ x ∧ x ≤ 900 ∧ v < 100000000 := by
    intro x v e
    have h1 : two2 (D (2 * n) 0) x v := by
      rcases hrk with rfl | rfl
      · rw [if_pos rfl] at ho
        exact Or.inl (ho.symm.trans e)
      · rw [if_neg (by decide)] at ho
        exact Or.inr (ho.symm.trans e)
    have h2 := (hb (2 * n) 0 (by omega) (by omega)).2 x v h1
    have h3 := kq10_le (2 * n) (by omega)
    exact ⟨h2.1, h2.2.1, by omega⟩
  rw [eX4_offerDigits_112, L2, if_neg (by rw [q_le (by omega) (by omega)]; omega), hcost]
  simp only [bnd1, Option.toList_some, List.cons_append, List.nil_append, eX4_offerDigits_127]
  cases o with
  | none =>
    have e1 : (1000000 : Int32) ≤ iZ (eC none) := by decide
    rw [if_pos e1, eX4_offerDigits_155, L1, q_add]
    exact ⟨M, rfl, hR, hok, fun _ _ _ _ => rfl⟩
  | some q =>
    obtain ⟨x, v⟩ := q
    obtain ⟨h1, h2, h3⟩ := hot x v rfl
    have e1 : ¬ (1000000 : Int32) ≤ iZ (eC (some (x, v))) := by
      rw [L1000000, iZ_nat, z_le (by omega) (by omega) (by show -2147483648 ≤ x; omega) (by show x < 2147483648; omega)]
      show ¬ ((1000000 : Nat) : Int) ≤ x
      omega
    rw [if_neg e1, hval]
    simp only [bnd1, Option.toList_some, List.cons_append, List.nil_append, eX4_offerDigits_143]
    rw [hcost]
    simp only [bnd1, Option.toList_some, List.cons_append, List.nil_append, eX4_offerDigits_152]
    have ek : iZ (eK (some (x, v))) = nI v := (iZ_nat v).symm
    obtain ⟨M', g1, g2, g3⟩ := p_offer4 (M := M) (s := s) (v := v) (x := x) hP hP8 hN hno hod hR hok hs h3 h1 h2
    refine ⟨M', ?_, g2, okT_insM (o := some (x, v)) hok hP8 hno hod hs hot, g3⟩
    rw [ek]
    show (mX4_offer [.inr (some 3), .inl (nI s), .inl (nI v), .inl (iZ x)] M).bind _ = _
    rw [g1]
    simp only [bnd0, Option.toList_none, List.nil_append, eX4_offerDigits_155]
    rw [L1, q_add]
/-- the rows of a row of digits: none; a lead at the beginning of an ANSWER -/
def D00 (s : Nat) : Nat → Nat → T2 := ldD (if s = 0 then some 0 else none) (fun _ _ => (none, none))
/-- offerDigits: what it adds to the meanings -/
theorem p_offerDigits {M : MM} {P n ck no od ne s i : Nat} {c w k : Nat → Nat} {t : T2} (hW : WH P c w k) (hn : n ≤ 8) (hc : ck ≤ 1) (hno : no ≤ 99) (hod : od ≤ 99) (hs : s ≤ 8) (hi : i < 12) (hH : RHx M P c w k) (hN : RNx M no od ne) (h1 : M (i + 44) 1 = nI n) (h2 : M (i + 44) 2 = nI ck) (hR : RT M 11 12 0 t) (hok : okT t) : ∃ M' : MM, mX4_offerDigits [.inr (some 3), .inr (some (i + 44)), .inl (nI s)] M = some (none, M') ∧ RT M' 11 12 0 (if P < n then t else insM (insM t (runD n ck s no c w k P 0 (D00 s) (2 * n) 0).1 P no od s) (runD n ck s no c w k P 0 (D00 s) (2 * n) 0).2 P no od s) ∧ okT (if P < n then t else insM (insM t (runD n ck s no c w k P 0 (D00 s) (2 * n) 0).1 P no od s) (runD n ck s no c w k P 0 (D00 s) (2 * n) 0).2 P no od s) ∧ ∀ c' j, c' ≠ 11 → c' ≠ 12 → c' ≠ 13 → c' ≠ 16 → c' ≠ 17 → M' c' j = M c' j := by
  have h8 := hW.1
  have hz := zkd_slot hi
  rw [iX4_offerDigits, eX4_offerDigits_0]
  dsimp only
  rw [if_pos hz, h1, hH.1]
  by_cases hPn : P < n
  · rw [if_neg (by rw [q_le (by omega) (by omega)]; omega), if_pos hPn]
    exact ⟨M, rfl, hR, hok, fun _ _ _ _ _ _ _ => rfl⟩
  · rw [if_pos (nI_le (by omega) (by omega)), if_neg hPn, if_pos hz, if_pos hz, h2]
    obtain ⟨M1, a1, a2, a3, a4⟩ := p_dclear (M := M) (n := n) hc
    rw [a1]
    simp only [bnd0, Option.toList_none, List.nil_append, eX4_offerDigits_30]
    rw [p_leadAtFirst hs]
    simp only [bnd1, Option.toList_some, List.cons_append, List.nil_append, eX4_offerDigits_34]
    have hb00 : bndD (fun _ _ => ((none, none) : T2)) (100 * (0 + 1 : Nat)) kq10 := fun q s' _ _ => ⟨fun h => h, fun c' k' h => by rcases h with h | h <;> cases h⟩
    have hstart : ∃ (M2 : MM) (y : Int32), (if (1000000 : Int32) ≤ iZ (ldC (if s = 0 then some 0 else none)) then gX4_offerDigits 49 [some (.inr (some 3)), some (.inr (some (i + 44))), some (.inl (nI s)), some (.inl (iZ (ldC (if s = 0 then some 0 else none)))), none] [] M1 else (mX0_begin [.inr (some 13), .inl (iZ (ldC (if s = 0 then some 0 else none)))] M1).bind (fun r => gX4_offerDigits 49 [some (.inr (some 3)), some (.inr (some (i + 44))), some (.inl (nI s)), some (.inl (iZ (ldC (if s = 0 then some 0 else none)))), none] (r.1.toList ++ []) r.2)) = gX4_offerDigits 49 [some (.inr (some 3)), some (.inr (some (i + 44))), some (.inl (nI s)), some (.inl y), none] [] M2 ∧ RD M2 (D00 s) ∧ ∀ c' j, c' ≠ 16 → c' ≠ 17 → M2 c' j = M1 c' j := by
      unfold D00
      by_cases h0 : s = 0
      · rw [if_pos h0]
        have e1 : ¬ (1000000 : Int32) ≤ iZ (ldC (some 0)) := by decide
        rw [if_neg e1]
        obtain ⟨M2, g1, g2, g3⟩ := p_begin (x := 0) a2 (okT_b hb00 (by omega)) (by omega) (by omega)
        refine ⟨M2, iZ 0, ?_, g2, g3⟩
        show (mX0_begin [.inr (some 13), .inl (iZ 0)] M1).bind _ = _
        rw [g1]
        simp only [bnd0, Option.toList_none, List.nil_append]
        rfl
      · rw [if_neg h0]
        have e1 : (1000000 : Int32) ≤ iZ (ldC none) := by decide
        rw [if_pos e1]
        exact ⟨M1, _, rfl, a2, fun _ _ _ _ => rfl⟩
    obtain ⟨M2, y, g1, g2, g3⟩ := hstart
    rw [g1, eX4_offerDigits_49, L0]
    have f2 : ∀ c' j, c' ≠ 13 → c' ≠ 16 → c' ≠ 17 → M2 c' j = M c' j := fun c' j q1 q2 q3 => by rw [g3 c' j q2 q3, a4 c' j q1 q2 q3]
    have hH2 : RHx M2 P c w k := hH.congr (f2 2 3 (by decide) (by decide) (by decide)) (funext fun j => f2 7 j (by decide) (by decide) (by decide)) (funext fun j => f2 8 j (by decide) (by decide) (by decide)) (funext fun j => f2 9 j (by decide) (by decide) (by decide))
    have hN2 : RNx M2 no od ne := ⟨by rw [f2 3 4 (by decide) (by decide) (by decide)]; exact hN.1, by rw [f2 3 5 (by decide) (by decide) (by decide)]; exact hN.2.1, by rw [f2 3 6 (by decide) (by decide) (by decide)]; exact hN.2.2⟩
    have hb0 : bndD (D00 s) (100 * (0 + 1 : Nat)) kq10 := bnd_ld hb00 _ (fun x hx => by
      split at hx
      · cases hx; omega
      · cases hx)
    obtain ⟨M3, y3, i1, i2, i3, i4⟩ := p_run (r1 := some (i + 44)) hW hn hc hno hs P 0 M2 (D00 s) y (by omega) hH2 hN2 (RDl_fr a3 g3) g2 hb0
    rw [i1]
    have f3 : ∀ c' j, c' ≠ 13 → c' ≠ 16 → c' ≠ 17 → M3 c' j = M c' j := fun c' j q1 q2 q3 => by rw [i4 c' j q2 q3, f2 c' j q1 q2 q3]
    have hR3 : RT M3 11 12 0 t := ⟨by rw [f3 11 _ (by decide) (by decide) (by decide)]; exact hR.1, by rw [f3 12 _ (by decide) (by decide) (by decide)]; exact hR.2.1, by rw [f3 11 _ (by decide) (by decide) (by decide)]; exact hR.2.2.1, by rw [f3 12 _ (by decide) (by decide) (by decide)]; exact hR.2.2.2⟩
    have hP3 : M3 2 3 = nI P := by rw [f3 2 3 (by decide) (by decide) (by decide)]; exact hH.1
    have hL3 : RDl M3 n ck := RDl_fr (RDl_fr a3 g3) i4
    have hN3 : RNx M3 no od ne := RNx_fr hN2 i4
    obtain ⟨M4, j1, j2, j3, j4⟩ := p_tail_step (r1 := some (i + 44)) (x3 := y3) hP3 h8 hn hno hod hs hN3 hL3 i2 i3 hR3 hok (Or.inl rfl) _ (by rw [if_pos rfl])
    have hRD4 : RD M4 (runD n ck s no c w k P 0 (D00 s)) := fun q hq s' hs' => by
      obtain ⟨b1, b2, b3, b4⟩ := i2 q hq s' hs'
      exact ⟨by rw [j4 16 _ (by decide) (by decide)]; exact b1, by rw [j4 17 _ (by decide) (by decide)]; exact b2, by rw [j4 16 _ (by decide) (by decide)]; exact b3, by rw [j4 17 _ (by decide) (by decide)]; exact b4⟩
    have hN4 : RNx M4 no od ne := ⟨by rw [j4 3 4 (by decide) (by decide)]; exact hN3.1, by rw [j4 3 5 (by decide) (by decide)]; exact hN3.2.1, by rw [j4 3 6 (by decide) (by decide)]; exact hN3.2.2⟩
    have hL4 : RDl M4 n ck := ⟨by rw [j4 13 1 (by decide) (by decide)]; exact hL3.1, by rw [j4 13 2 (by decide) (by decide)]; exact hL3.2⟩
    obtain ⟨M5, k1, k2, k3, k4⟩ := p_tail_step (r1 := some (i + 44)) (x3 := y3) (by rw [j4 2 3 (by decide) (by decide)]; exact hP3) h8 hn hno hod hs hN4 hL4 hRD4 i3 j2 j3 (Or.inr rfl) _ (by rw [if_neg (by decide)])
    refine ⟨M5, ?_, k2, k3, fun c' j q1 q2 q3 q4 q5 => by rw [k4 c' j q1 q2, j4 c' j q1 q2, f3 c' j q3 q4 q5]⟩
    rw [j1, k1, eX4_offerDigits_112, L2, if_pos (nI_le (show 2 ≤ 1 + 1 by decide) (by omega))]
