/-! offerDigits: the places one after the other. -/
def ldD (o : Option Int) (D : Nat → Nat → T2) : Nat → Nat → T2 := match o with
  | none => D
  | some x => updD D 0 0 (ins2 (D 0 0) x 0)
def ldO (o : Option Int) (O : OO) : OO := fun q s c k => O q s c k ∨ (q = 0 ∧ s = 0 ∧ k = 0 ∧ o = some c)
theorem PD_ld {O : OO} {D : Nat → Nat → T2} (h : PD O D) (o : Option Int) : PD (ldO o O) (ldD o D) := by
  intro q hq s hs
  unfold ldD
  cases o with
  | none =>
    refine P2_congr (h q hq s hs) (fun c k => ⟨Or.inl, fun a => ?_⟩)
    rcases a with a | ⟨-, -, -, e⟩
    · exact a
    · cases e
  | some x =>
    show P2 _ (updD D 0 0 (ins2 (D 0 0) x 0) q s)
    unfold updD
    by_cases hc : q = 0 ∧ s = 0
    · obtain ⟨rfl, rfl⟩ := hc
      rw [if_pos ⟨rfl, rfl⟩]
      refine P2_congr (P2_ins (h 0 hq 0 hs) x 0) (fun c k => ?_)
      constructor
      · rintro (a | ⟨rfl, rfl⟩)
        · exact Or.inl a
        · exact Or.inr ⟨rfl, rfl, rfl, rfl⟩
      · rintro (a | ⟨-, -, e1, e2⟩)
        · exact Or.inl a
        · exact Or.inr ⟨(Option.some.inj e2).symm, e1⟩
    · rw [if_neg hc]
      refine P2_congr (h q hq s hs) (fun c k => ⟨Or.inl, fun a => ?_⟩)
      rcases a with a | ⟨e1, e2, -⟩
      · exact a
      · exact absurd ⟨e1, e2⟩ hc
theorem bnd_ld {D : Nat → Nat → T2} {B : Int} (h : bndD D B kq10) (o : Option Int) (ho : ∀ x, o = some x → -B ≤ x ∧ x ≤ B) : bndD (ldD o D) B kq10 := by
  cases o with
  | none => exact h
  | some x =>
    intro q s hq hs
    show ((updD D 0 0 (ins2 (D 0 0) x 0) q s).1 = none → _) ∧ _
    unfold ldD updD
    dsimp only
    by_cases hc : q = 0 ∧ s = 0
    · obtain ⟨rfl, rfl⟩ := hc
      rw [if_pos ⟨rfl, rfl⟩]
      refine ⟨ins2_fst, fun c k hck => ?_⟩
      rcases two2_ins hck with a | ⟨rfl, rfl⟩
      · exact (h 0 0 hq hs).2 c k a
      · have := ho c rfl
        exact ⟨this.1, this.2, by decide⟩
    · rw [if_neg hc]
      exact h q s hq hs
theorem okT_b {D : Nat → Nat → T2} {B : Int} (h : bndD D B kq10) (hB : B ≤ 2000) : okT (D 0 0) := bndD_ok h hB kq10_le (by omega) (by omega)
/-- the rows behind m places from p on -/
def runD (n ck s no : Nat) (c w k : Nat → Nat) : Nat → Nat → (Nat → Nat → T2) → Nat → Nat → T2
  | 0, _, D => D
  | m + 1, p, D => runD n ck s no c w k m (p + 1) (ldD (ldP c w k no s p) (plcD n ck (fun i => w (4 * p + i)) (fun i => (k (4 * p + i) : Int) - (no : Int)) (c p) (2 * n) D))
def runO (n ck s no : Nat) (c w k : Nat → Nat) : Nat → Nat → OO → OO
  | 0, _, O => O
  | m + 1, p, O => runO n ck s no c w k m (p + 1) (ldO (ldP c w k no s p) (plcO n ck (fun i => w (4 * p + i)) (fun i => (k (4 * p + i) : Int) - (no : Int)) (c p) (2 * n) O))
theorem PD_run {n ck s no : Nat} {c w k : Nat → Nat} (hn : n ≤ 8) : ∀ m p (O : OO) (D : Nat → Nat → T2), PD O D → PD (runO n ck s no c w k m p O) (runD n ck s no c w k m p D) := by
  intro m
  induction m with
  | zero => intro p O D h; exact h
  | succ m ih =>
    intro p O D h
    exact ih (p + 1) _ _ (PD_ld (PD_plc hn (2 * n) _ _ h) _)
theorem ldP_b {P no s p : Nat} {c w k : Nat → Nat} (hW : WH P c w k) (hno : no ≤ 99) (hp : p < P) {x : Int} (h : ldP c w k no s p = some x) : -99 ≤ x ∧ x ≤ 99 := by
  unfold ldP at h
  split at h
  · cases h
  · cases hf : fnd (fun i => w (4 * p + i)) (ldw s) 0 (c p) with
    | none => rw [hf] at h; cases h
    | some j =>
      rw [hf] at h
      have hj := fnd_some hf
      have hk := ((hW.2 p hp).2.1 j (by omega)).2
      have := Option.some.inj h
      subst this
      show -99 ≤ (k (4 * p + j) : Int) - (no : Int) ∧ (k (4 * p + j) : Int) - (no : Int) ≤ 99
      omega
theorem RNx_fr {M M' : MM} {no od ne : Nat} (h : RNx M no od ne) (hf : ∀ c' j, c' ≠ 16 → c' ≠ 17 → M' c' j = M c' j) : RNx M' no od ne := ⟨by rw [hf 3 4 (by decide) (by decide)]; exact h.1, by rw [hf 3 5 (by decide) (by decide)]; exact h.2.1, by rw [hf 3 6 (by decide) (by decide)]; exact h.2.2⟩
theorem p_run {P n ck no od ne s : Nat} {c w k : Nat → Nat} {r1 : Option Nat} (hW : WH P c w k) (hn : n ≤ 8) (hc : ck ≤ 1) (hno : no ≤ 99) (hs : s ≤ 8) : ∀ m p (M : MM) (D : Nat → Nat → T2) (x3 : Int32), p + m = P → RHx M P c w k → RNx M no od ne → RDl M n ck → RD M D → bndD D (100 * (p + 1 : Nat)) kq10 → ∃ (M' : MM) (y3 : Int32), gX4_offerDigits 52 [some (.inr (some 3)), some (.inr r1), some (.inl (nI s)), some (.inl x3), some (.inl (nI p))] [] M = gX4_offerDigits 112 [some (.inr (some 3)), some (.inr r1), some (.inl (nI s)), some (.inl y3), some (.inl (nI 0))] [] M' ∧ RD M' (runD n ck s no c w k m p D) ∧ bndD (runD n ck s no c w k m p D) 900 kq10 ∧ ∀ c' j, c' ≠ 16 → c' ≠ 17 → M' c' j = M c' j := by
  have h8 := hW.1
  intro m
  induction m with
  | zero =>
    intro p M D x3 hp hH hN hL hRD hb
    refine ⟨M, x3, ?_, hRD, fun q s' hq hs' => ⟨(hb q s' hq hs').1, fun c' k' h => ?_⟩, fun _ _ _ _ => rfl⟩
    · rw [eX4_offerDigits_52, hH.1, if_pos (nI_le (show P ≤ p by omega) (by omega)), L0]
    · have := (hb q s' hq hs').2 c' k' h
      exact ⟨by omega, by omega, this.2.2⟩
  | succ m ih =>
    intro p M D x3 hp hH hN hL hRD hb
    have hpP : p < P := by omega
    obtain ⟨M1, f1, f2, f3, f4⟩ := p_hearPlace (B0 := 100 * (p + 1 : Nat)) hW hn hc hno hpP (by omega) hH hL hRD hb
    have hH1 := RHx_fr hH f4
    have hN1 := RNx_fr hN f4
    have hL1 := RDl_fr hL f4
    have hb1 : bndD (plcD n ck (fun i => w (4 * p + i)) (fun i => (k (4 * p + i) : Int) - (no : Int)) (c p) (2 * n) D) (100 * (p + 1 + 1 : Nat)) kq10 := fun q s' hq hs' => ⟨(f3 q s' hq hs').1, fun c' k' h => by
      have := (f3 q s' hq hs').2 c' k' h
      exact ⟨by omega, by omega, this.2.2⟩⟩
    have hlead : ∃ (M2 : MM) (y : Int32), gX4_offerDigits 88 [some (.inr (some 3)), some (.inr r1), some (.inl (nI s)), some (.inl x3), some (.inl (nI p))] [.inl (iZ (ldC (ldP c w k no s p)))] M1 = gX4_offerDigits 103 [some (.inr (some 3)), some (.inr r1), some (.inl (nI s)), some (.inl y), some (.inl (nI p))] [] M2 ∧ RD M2 (ldD (ldP c w k no s p) (plcD n ck (fun i => w (4 * p + i)) (fun i => (k (4 * p + i) : Int) - (no : Int)) (c p) (2 * n) D)) ∧ ∀ c' j, c' ≠ 16 → c' ≠ 17 → M2 c' j = M1 c' j := by
      rw [eX4_offerDigits_88]
      cases hl : ldP c w k no s p with
      | none =>
        have e1 : (1000000 : Int32) ≤ iZ (ldC none) := by decide
        rw [if_pos e1]
        exact ⟨M1, _, rfl, f2, fun _ _ _ _ => rfl⟩
      | some x =>
        have hx := ldP_b hW hno hpP hl
        have e1 : ¬ (1000000 : Int32) ≤ iZ (ldC (some x)) := by
          rw [L1000000, iZ_nat, z_le (by omega) (by omega) (by show -2147483648 ≤ x; omega) (by show x < 2147483648; omega)]
          show ¬ ((1000000 : Nat) : Int) ≤ x
          omega
        rw [if_neg e1]
        obtain ⟨M2, g1, g2, g3⟩ := p_begin (x := x) f2 (okT_b hb1 (by omega)) (by omega) (by omega)
        refine ⟨M2, iZ x, ?_, g2, g3⟩
        show (mX0_begin [.inr (some 13), .inl (iZ x)] M1).bind _ = _
        rw [g1]
        simp only [bnd0, Option.toList_none, List.nil_append]
        rfl
    obtain ⟨M2, y, g1, g2, g3⟩ := hlead
    have hfr : ∀ c' j, c' ≠ 16 → c' ≠ 17 → M2 c' j = M c' j := fun c' j q1 q2 => by rw [g3 c' j q1 q2, f4 c' j q1 q2]
    have hb2 := bnd_ld hb1 (ldP c w k no s p) (fun x hx => by have := ldP_b hW hno hpP hx; omega)
    obtain ⟨M', y3, i1, i2, i3, i4⟩ := ih (p + 1) M2 _ y (by omega) (RHx_fr hH hfr) (RNx_fr hN hfr) (RDl_fr hL hfr) g2 hb2
    refine ⟨M', y3, ?_, i2, i3, fun c' j q1 q2 => by rw [i4 c' j q1 q2, hfr c' j q1 q2]⟩
    rw [eX4_offerDigits_52, hH.1, if_neg (by rw [q_le (by omega) (by omega)]; omega), hN.1, f1]
    simp only [bnd0, Option.toList_none, List.nil_append, eX4_offerDigits_81]
    rw [p_leadIn hW hH1 hN1 hno hs hpP]
    simp only [bnd1, Option.toList_some, List.cons_append, List.nil_append]
    rw [g1, eX4_offerDigits_103, L1, q_add]
    exact i1
