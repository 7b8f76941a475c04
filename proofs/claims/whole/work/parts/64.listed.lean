/-! The class's lists of words, and what they offer. -/
def SX (M : MM) (F : Nat) (G wd : Nat → Nat → Nat) : Prop := M 1 1 = nI F ∧ ∀ f, f < F → M (f + 44) 0 = nI (G 0 f) ∧ M (f + 44) 1 = nI (G 1 f) ∧ M (f + 44) 2 = nI (G 2 f) ∧ M (f + 44) 3 = nI (G 3 f) ∧ M (f + 44) 5 = nI (G 4 f) ∧ M (f + 44) 6 = sI (G 5 f) ∧ M (f + 44) 7 = nI (G 6 f) ∧ ∀ k, k < G 4 f → M (f + 56) k = nI (wd f k)
theorem SX.fr {M M' : MM} {F : Nat} {G wd : Nat → Nat → Nat} (h : SX M F G wd) (h0 : M' 1 1 = M 1 1) (hc : ∀ c j, 44 ≤ c → j ≤ 7 → M' c j = M c j) (hG : GW F G wd) : SX M' F G wd := by
  refine ⟨h0.trans h.1, fun f hf => ?_⟩
  obtain ⟨a1, a2, a3, a4, a5, a6, a7, a8⟩ := h.2 f hf
  have h4 : G 4 f ≤ 6 := (hG.2 f hf).2.2.2.2.1
  exact ⟨(hc _ _ (by omega) (by omega)).trans a1, (hc _ _ (by omega) (by omega)).trans a2, (hc _ _ (by omega) (by omega)).trans a3, (hc _ _ (by omega) (by omega)).trans a4, (hc _ _ (by omega) (by omega)).trans a5, (hc _ _ (by omega) (by omega)).trans a6, (hc _ _ (by omega) (by omega)).trans a7, fun k hk => (hc _ _ (by omega) (by omega)).trans (a8 k hk)⟩
theorem zkd_words {i : Nat} (h : i < 12) : zkd (i + 44 + 12) = 10 := by
  show (if i + 12 < 12 then 5 else if i + 12 < 24 then 10 else 99) = 10
  rw [if_neg (by omega), if_pos (by omega)]
theorem zln_words {i : Nat} (h : i < 12) : zln (i + 44 + 12) = 6 := by
  rcases (show i = 0 ∨ i = 1 ∨ i = 2 ∨ i = 3 ∨ i = 4 ∨ i = 5 ∨ i = 6 ∨ i = 7 ∨ i = 8 ∨ i = 9 ∨ i = 10 ∨ i = 11 by omega) with rfl | rfl | rfl | rfl | rfl | rfl | rfl | rfl | rfl | rfl | rfl | rfl <;> rfl
theorem p_numberOf1 {M : MM} {F x : Nat} {G wd : Nat → Nat → Nat} (hG : GW F G wd) (hS : SX M F G wd) (hx : x ≤ 59) : mX1_numberOf [.inr (some 1), .inl (nI x)] M = some (some (.inl (oI (fnd (G 0) x 0 F))), M) := by
  have hF := hG.1
  have key : ∀ m i, i + m = F → gX1_numberOf 2 [some (.inr (some 1)), some (.inl (nI x)), some (.inl (nI i))] [] M = some (some (.inl (oI (fnd (G 0) x i m))), M) := by
    intro m
    induction m with
    | zero =>
      intro i hi
      rw [eX1_numberOf_2, hS.1, if_pos (nI_le (show F ≤ i by omega) (by omega))]
      rfl
    | succ m ih =>
      intro i hi
      have z1 := (hS.2 i (by omega)).1
      have z2 := (hG.2 i (by omega)).1.2
      rw [eX1_numberOf_2, hS.1, if_neg (by rw [q_le (by omega) (by omega)]; omega), if_neg (by rw [L12, q_le (by omega) (by omega)]; omega), q_cl (show i < 2147483648 by omega), if_neg (gI (by omega) (by omega)), if_pos (zkd_slot (by omega)), z1]
      unfold fnd
      by_cases hw : G 0 i = x
      · rw [if_pos (by rw [hw]), if_pos hw]
        rfl
      · rw [if_neg (by rw [q_eq (by omega) (by omega)]; exact hw), if_neg hw, L1, q_add]
        exact ih (i + 1) (by omega)
  rw [iX1_numberOf, eX1_numberOf_0, L0]
  exact key F 0 (by omega)
theorem p_numberOf5 {M : MM} {F f x : Nat} {G wd : Nat → Nat → Nat} (hG : GW F G wd) (hS : SX M F G wd) (hf : f < F) (hx : x ≤ 59) : mX5_numberOf [.inr (some (f + 44)), .inl (nI x)] M = some (some (.inl (oI (fnd (wd f) x 0 (G 4 f)))), M) := by
  have hF := hG.1
  obtain ⟨b1, b2, b3, b4, b5, b6, b7, b8, b9, b10⟩ := hG.2 f hf
  obtain ⟨a1, a2, a3, a4, a5, a6, a7, a8⟩ := hS.2 f hf
  have hz := zkd_slot (i := f) (by omega)
  have hz2 := zkd_words (i := f) (by omega)
  have hz3 := zln_words (i := f) (by omega)
  have key : ∀ m i, i + m = G 4 f → gX5_numberOf 2 [some (.inr (some (f + 44))), some (.inl (nI x)), some (.inl (nI i))] [] M = some (some (.inl (oI (fnd (wd f) x i m))), M) := by
    intro m
    induction m with
    | zero =>
      intro i hi
      rw [eX5_numberOf_2, if_pos hz, a5, if_pos (nI_le (show G 4 f ≤ i by omega) (by omega))]
      rfl
    | succ m ih =>
      intro i hi
      have z1 : M (f + 44 + 12) i = nI (wd f i) := a8 i (by omega)
      have z2 := (b10 i (by omega)).2
      have e6 : Int32.ofNat 6 = nI 6 := rfl
      rw [eX5_numberOf_2, if_pos hz, a5, if_neg (by rw [q_le (by omega) (by omega)]; omega), if_pos hz, if_pos (by rw [hz2]; omega), hz3, e6, if_neg (by rw [q_le (by omega) (by omega)]; omega), if_pos hz, if_pos hz2, q_cl (show i < 2147483648 by omega), if_neg (gI (by omega) (by omega)), z1]
      unfold fnd
      by_cases hw : wd f i = x
      · rw [if_pos (by rw [hw]), if_pos hw]
        rfl
      · rw [if_neg (by rw [q_eq (by omega) (by omega)]; exact hw), if_neg hw, L1, q_add]
        exact ih (i + 1) (by omega)
  rw [iX5_numberOf, eX5_numberOf_0, L0]
  exact key (G 4 f) 0 (by omega)
/-- the cheaper of two leads -/
def mnO : Option Int → Option Int → Option Int
  | none, b => b
  | some a, none => some a
  | some a, some b => some (if b < a then b else a)
/-- the lead ahead of the place p -/
def LD (c w k : Nat → Nat) (no s : Nat) : Nat → Option Int
  | 0 => if s = 0 then some 0 else none
  | p + 1 => mnO (LD c w k no s p) (ldP c w k no s p)
theorem LD_b {P no s : Nat} {c w k : Nat → Nat} (hW : WH P c w k) (hno : no ≤ 99) : ∀ p, p ≤ P → ∀ x, LD c w k no s p = some x → -99 ≤ x ∧ x ≤ 99 := by
  intro p
  induction p with
  | zero =>
    intro _ x h
    unfold LD at h
    split at h
    · cases h; omega
    · cases h
  | succ p ih =>
    intro hp x h
    unfold LD at h
    cases h1 : LD c w k no s p with
    | none =>
      rw [h1] at h
      exact ldP_b hW hno (by omega) h
    | some a =>
      have ha := ih (by omega) a h1
      cases h2 : ldP c w k no s p with
      | none =>
        rw [h1, h2] at h
        cases h
        exact ha
      | some b =>
        have hb := ldP_b hW hno (by omega) h2
        rw [h1, h2] at h
        have h : some (if b < a then b else a) = some x := h
        cases h
        split <;> omega
theorem ldC_mn {a b : Option Int} (ha : ∀ x, a = some x → -99 ≤ x ∧ x ≤ 99) (hb : ∀ x, b = some x → -99 ≤ x ∧ x ≤ 99) : (if iZ (ldC b) < iZ (ldC a) then iZ (ldC b) else iZ (ldC a)) = iZ (ldC (mnO a b)) := by
  cases a with
  | none =>
    cases b with
    | none => rw [if_neg (by decide)]; rfl
    | some b =>
      have := hb b rfl
      show (if iZ b < iZ 1000000 then _ else _) = iZ b
      rw [if_pos (by rw [z_lt (by omega) (by omega) (by omega) (by omega)]; omega)]
      rfl
  | some a =>
    have h1 := ha a rfl
    cases b with
    | none =>
      show (if iZ 1000000 < iZ a then _ else _) = iZ a
      rw [if_neg (by rw [z_lt (by omega) (by omega) (by omega) (by omega)]; omega)]
      rfl
    | some b =>
      have h2 := hb b rfl
      show (if iZ b < iZ a then iZ b else iZ a) = iZ (if b < a then b else a)
      by_cases h : b < a
      · rw [if_pos (by rw [z_lt (by omega) (by omega) (by omega) (by omega)]; exact h), if_pos h]
      · rw [if_neg (by rw [z_lt (by omega) (by omega) (by omega) (by omega)]; exact h), if_neg h]
/-- what a list of words offers at the places from p on -/
def SLp (P no od s : Nat) (c w k : Nat → Nat) (num : Nat → Option Nat) (p i0 : Nat) (all : Prop) : Int → Nat → Prop := fun cc key => ∃ p' i v x, ((p' = p ∧ i0 ≤ i) ∨ (all ∧ p < p')) ∧ p' < P ∧ i < c p' ∧ num (w (4 * p' + i)) = some v ∧ LD c w k no s p' = some x ∧ cc = (P * no : Nat) + (x + (k (4 * p' + i) : Int) - (no : Int)) + (if s = 0 then 0 else (od : Int)) ∧ key = key2 s v
def FR2 (M M' : MM) : Prop := ∀ c' j, c' ≠ 11 → c' ≠ 12 → M' c' j = M c' j
theorem FR2.trans {M M1 M2 : MM} (h1 : FR2 M M1) (h2 : FR2 M1 M2) : FR2 M M2 := fun c' j a b => (h2 c' j a b).trans (h1 c' j a b)
theorem RHx.fr2 {M M' : MM} {P : Nat} {c w k : Nat → Nat} (h : RHx M P c w k) (hf : FR2 M M') : RHx M' P c w k := h.congr (hf 2 3 (by decide) (by decide)) (funext fun j => hf 7 j (by decide) (by decide)) (funext fun j => hf 8 j (by decide) (by decide)) (funext fun j => hf 9 j (by decide) (by decide))
theorem RNx.fr2 {M M' : MM} {no od ne : Nat} (h : RNx M no od ne) (hf : FR2 M M') : RNx M' no od ne := ⟨(hf 3 4 (by decide) (by decide)).trans h.1, (hf 3 5 (by decide) (by decide)).trans h.2.1, (hf 3 6 (by decide) (by decide)).trans h.2.2⟩
theorem p_offerListed {M : MM} {P no od ne s : Nat} {c w k : Nat → Nat} {t : T2} {r1 : Option Nat} {num : Nat → Option Nat} (hW : WH P c w k) (hno : no ≤ 99) (hod : od ≤ 99) (hs : s ≤ 8) (hH : RHx M P c w k) (hN : RNx M no od ne) (hnum : ∀ x v, num x = some v → v < 100) (hcall : ∀ (M' : MM) (x : Nat) (a b c' : Option AV) (x3 x4 x5 : Int32) (d6 : Option AV), x ≤ 59 → FR2 M M' → gX4_offerListed 55 [some (.inr (some 3)), some (.inr r1), some (.inl (nI s)), some (.inl x3), some (.inl x4), some (.inl x5), d6] [.inl (nI x), .inr r1] M' = gX4_offerListed 60 [some (.inr (some 3)), some (.inr r1), some (.inl (nI s)), some (.inl x3), some (.inl x4), some (.inl x5), d6] [.inl (oI (num x))] M') (hR : RT M 11 12 0 t) (hok : okT t) : ∃ (M' : MM) (t' : T2), mX4_offerListed [.inr (some 3), .inr r1, .inl (nI s)] M = some (none, M') ∧ RT M' 11 12 0 t' ∧ okT t' ∧ FR2 M M' ∧ ∀ A, P2 A t → P2 (fun cc key => A cc key ∨ SLp P no od s c w k num 0 0 True cc key) t' := by
  have h8 := hW.1
  have hPn : P * no ≤ 8 * 99 := Nat.mul_le_mul h8 hno
  -- the words of one place
  have inn : ∀ m i p (M1 : MM) (t1 : T2) (d6 : Option AV), p < P → i + m = c p → FR2 M M1 → RT M1 11 12 0 t1 → okT t1 → ∃ (M' : MM) (t' : T2) (e5 : Int32) (e6 : Option AV), gX4_offerListed 23 [some (.inr (some 3)), some (.inr r1), some (.inl (nI s)), some (.inl (iZ (ldC (LD c w k no s p)))), some (.inl (nI p)), some (.inl (nI i)), d6] [] M1 = gX4_offerListed 99 [some (.inr (some 3)), some (.inr r1), some (.inl (nI s)), some (.inl (iZ (ldC (LD c w k no s p)))), some (.inl (nI p)), some (.inl e5), e6] [] M' ∧ RT M' 11 12 0 t' ∧ okT t' ∧ FR2 M M' ∧ ∀ A, P2 A t1 → P2 (fun cc key => A cc key ∨ SLp P no od s c w k num p i False cc key) t' := by
    intro m
    induction m with
    | zero =>
      intro i p M1 t1 d6 hp hi hf hR1 hk1
      refine ⟨M1, t1, nI i, d6, ?_, hR1, hk1, hf, fun A hA => P2_congr hA (fun cc key => ⟨Or.inl, fun q => q.elim id (fun q => ?_)⟩)⟩
      · rw [eX4_offerListed_23, p_wordsIn hW (hH.fr2 hf) hp]
        simp only [bnd1, Option.toList_some, List.cons_append, List.nil_append, eX4_offerListed_34]
        rw [if_pos (nI_le (show c p ≤ i by omega) (by have := (hW.2 p hp).1; omega))]
      · obtain ⟨p', i', v, x, ⟨rfl, h2⟩ | ⟨h, -⟩, h3, h4, -⟩ := q
        · omega
        · exact h.elim
    | succ m ih =>
      intro i p M1 t1 d6 hp hi hf hR1 hk1
      have h4 := (hW.2 p hp).1
      have hic : i < c p := by omega
      obtain ⟨w59, k99⟩ := (hW.2 p hp).2.1 i hic
      have hH1 := hH.fr2 hf
      cases hl : LD c w k no s p with
      | none =>
        refine ⟨M1, t1, nI i, d6, ?_, hR1, hk1, hf, fun A hA => P2_congr hA (fun cc key => ⟨Or.inl, fun q => q.elim id (fun q => ?_)⟩)⟩
        · rw [eX4_offerListed_23, p_wordsIn hW hH1 hp]
          simp only [bnd1, Option.toList_some, List.cons_append, List.nil_append, eX4_offerListed_34]
          rw [if_neg (by rw [q_le (by omega) (by omega)]; omega), if_pos (show (1000000 : Int32) ≤ iZ (ldC none) by decide)]
        · obtain ⟨p', i', v, x, ⟨rfl, h2⟩ | ⟨h, -⟩, h3, h4, h5, h6, -⟩ := q
          · rw [hl] at h6; cases h6
          · exact h.elim
      | some x =>
        have hx := LD_b (s := s) hW hno p (by omega) x hl
        have e1 : ¬ (1000000 : Int32) ≤ iZ (ldC (some x)) := by
          rw [L1000000, iZ_nat, z_le (by omega) (by omega) (by show -2147483648 ≤ x; omega) (by show x < 2147483648; omega)]
          show ¬ ((1000000 : Nat) : Int) ≤ x
          omega
        rw [eX4_offerListed_23, p_wordsIn hW hH1 hp]
        simp only [bnd1, Option.toList_some, List.cons_append, List.nil_append, eX4_offerListed_34]
        rw [if_neg (by rw [q_le (by omega) (by omega)]; omega), if_neg e1, p_wordAt hW hH1 hp hic]
        simp only [bnd1, Option.toList_some, List.cons_append, List.nil_append]
        rw [hcall M1 _ none none none _ _ _ _ w59 hf, eX4_offerListed_60]
        cases hv : num (w (4 * p + i)) with
        | none =>
          obtain ⟨M', t', e5, e6, g1, g2, g3, g4, g5⟩ := ih (i + 1) p M1 t1 (some (.inl (-nI 1))) hp (by omega) hf hR1 hk1
          refine ⟨M', t', e5, e6, ?_, g2, g3, g4, fun A hA => P2_congr (g5 A hA) (fun cc key => ⟨fun q => ?_, fun q => ?_⟩)⟩
          · show (if (-nI 1 : Int32) = (-1 : Int32) then _ else _) = _
            rw [if_pos (show (-nI 1 : Int32) = -1 from rfl), eX4_offerListed_93, L1, q_add]
            rw [hl] at g1
            exact g1
          · rcases q with q | ⟨p', i', v, x', ⟨e, h2⟩ | ⟨h, -⟩, h3⟩
            · exact Or.inl q
            · exact Or.inr ⟨p', i', v, x', Or.inl ⟨e, by omega⟩, h3⟩
            · exact h.elim
          · rcases q with q | ⟨p', i', v, x', ⟨e, h2⟩ | ⟨h, -⟩, h3⟩
            · exact Or.inl q
            · by_cases he : i' = i
              · obtain ⟨h5, h6, h7, h8⟩ := h3
                rw [e, he, hv] at h7
                cases h7
              · exact Or.inr ⟨p', i', v, x', Or.inl ⟨e, by omega⟩, h3⟩
            · exact h.elim
        | some v =>
          have hv1 := hnum _ _ hv
          have hoI : oI (some v) = nI v := rfl
          have e3 : M1 3 4 = nI no := (hN.fr2 hf).1
          obtain ⟨M2, f1, f2, f3⟩ := p_offer4 (M := M1) (x := x + (k (4 * p + i) : Int) - (no : Int)) (s := s) (v := v) hH1.1 h8 (hN.fr2 hf) hno hod hR1 hk1 hs (by omega) (by omega) (by omega)
          have hk2 : okT (ins2 t1 ((P * no : Nat) + (x + (k (4 * p + i) : Int) - (no : Int)) + (if s = 0 then 0 else (od : Int))) (key2 s v)) := okT_ins hk1 (by split <;> omega) (by split <;> omega) (by unfold key2; omega)
          obtain ⟨M', t', e5, e6, g1, g2, g3, g4, g5⟩ := ih (i + 1) p M2 _ (some (.inl (nI v))) hp (by omega) (hf.trans f3) f2 hk2
          refine ⟨M', t', e5, e6, ?_, g2, g3, g4, fun A hA => P2_congr (g5 _ (P2_ins hA _ _)) (fun cc key => ⟨fun q => ?_, fun q => ?_⟩)⟩
          · have e2 : ¬ oI (some v) = (-1 : Int32) := by
              show ¬ nI v = (-1 : Int32)
              rw [L1, q_m1e (by omega)]
              exact fun h => h
            rw [if_neg e2, p_costAt hW hH1 hp hic]
            simp only [bnd1, Option.toList_some, List.cons_append, List.nil_append, eX4_offerListed_84]
            have hx2 : iZ (ldC (some x)) + nI (k (4 * p + i)) - M1 3 4 = iZ (x + (k (4 * p + i) : Int) - (no : Int)) := by
              rw [e3, iZ_nat (k (4 * p + i)), iZ_nat no, z_add, z_sub]
              rfl
            rw [hx2, hoI, f1]
            simp only [bnd0, Option.toList_none, List.nil_append, eX4_offerListed_93]
            rw [L1, q_add]
            rw [hl] at g1
            exact g1
          · rcases q with (q | ⟨rfl, rfl⟩) | ⟨p', i', v', x', ⟨e, h2⟩ | ⟨h, -⟩, h3⟩
            · exact Or.inl q
            · exact Or.inr ⟨p, i, v, x, Or.inl ⟨rfl, Nat.le_refl _⟩, hp, hic, hv, hl, rfl, rfl⟩
            · exact Or.inr ⟨p', i', v', x', Or.inl ⟨e, by omega⟩, h3⟩
            · exact h.elim
          · rcases q with q | ⟨p', i', v', x', ⟨e, h2⟩ | ⟨h, -⟩, h3⟩
            · exact Or.inl (Or.inl q)
            · by_cases he : i' = i
              · obtain ⟨h5, h6, h7, h9, h10, h11⟩ := h3
                rw [e, he, hv] at h7
                rw [e, hl] at h9
                cases h7
                cases h9
                rw [e, he] at h10
                exact Or.inl (Or.inr ⟨h10, h11⟩)
              · exact Or.inr ⟨p', i', v', x', Or.inl ⟨e, by omega⟩, h3⟩
            · exact h.elim
  -- the places
  have out : ∀ m p (M1 : MM) (t1 : T2) (d5 d6 : Option AV), p + m = P → FR2 M M1 → RT M1 11 12 0 t1 → okT t1 → ∃ (M' : MM) (t' : T2), gX4_offerListed 8 [some (.inr (some 3)), some (.inr r1), some (.inl (nI s)), some (.inl (iZ (ldC (LD c w k no s p)))), some (.inl (nI p)), d5, d6] [] M1 = some (none, M') ∧ RT M' 11 12 0 t' ∧ okT t' ∧ FR2 M M' ∧ ∀ A, P2 A t1 → P2 (fun cc key => A cc key ∨ SLp P no od s c w k num p 0 True cc key) t' := by
    intro m
    induction m with
    | zero =>
      intro p M1 t1 d5 d6 hp hf hR1 hk1
      refine ⟨M1, t1, ?_, hR1, hk1, hf, fun A hA => P2_congr hA (fun cc key => ⟨Or.inl, fun q => q.elim id (fun q => ?_)⟩)⟩
      · rw [eX4_offerListed_8, (hH.fr2 hf).1, if_pos (nI_le (show P ≤ p by omega) (by omega))]
      · obtain ⟨p', i', v, x, ⟨rfl, h2⟩ | ⟨-, h⟩, h3, -⟩ := q
        · omega
        · omega
    | succ m ih =>
      intro p M1 t1 d5 d6 hp hf hR1 hk1
      have hpP : p < P := by omega
      obtain ⟨M2, t2, e5, e6, g1, g2, g3, g4, g5⟩ := inn (c p) 0 p M1 t1 d6 hpP (by omega) hf hR1 hk1
      obtain ⟨M3, t3, i1, i2, i3, i4, i5⟩ := ih (p + 1) M2 t2 (some (.inl e5)) e6 (by omega) g4 g2 g3
      refine ⟨M3, t3, ?_, i2, i3, i4, fun A hA => P2_congr (i5 _ (g5 A hA)) (fun cc key => ⟨fun q => ?_, fun q => ?_⟩)⟩
      · rw [eX4_offerListed_8, (hH.fr2 hf).1, if_neg (by rw [q_le (by omega) (by omega)]; omega), L0, g1, eX4_offerListed_99, p_leadIn hW (hH.fr2 g4) (hN.fr2 g4) hno hs hpP]
        simp only [bnd1, Option.toList_some, List.cons_append, List.nil_append, eX4_offerListed_107]
        rw [ldC_mn (LD_b hW hno p (by omega)) (fun x hx => ldP_b hW hno hpP hx), L1, q_add]
        exact i1
      · rcases q with (q | ⟨p', i', v', x', ⟨e, h2⟩ | ⟨h, -⟩, h3⟩) | ⟨p', i', v', x', h, h3⟩
        · exact Or.inl q
        · exact Or.inr ⟨p', i', v', x', Or.inl ⟨e, h2⟩, h3⟩
        · exact h.elim
        · exact Or.inr ⟨p', i', v', x', Or.inr ⟨trivial, by omega⟩, h3⟩
      · rcases q with q | ⟨p', i', v', x', ⟨e, h2⟩ | ⟨-, h⟩, h3⟩
        · exact Or.inl (Or.inl q)
        · exact Or.inl (Or.inr ⟨p', i', v', x', Or.inl ⟨e, h2⟩, h3⟩)
        · refine Or.inr ⟨p', i', v', x', ?_, h3⟩
          by_cases he : p' = p + 1
          · exact Or.inl ⟨he, Nat.zero_le _⟩
          · exact Or.inr ⟨trivial, by omega⟩
  obtain ⟨M', t', g1, g2, g3, g4, g5⟩ := out P 0 M t none none (by omega) (fun _ _ _ _ => rfl) hR hok
  refine ⟨M', t', ?_, g2, g3, g4, g5⟩
  rw [iX4_offerListed, eX4_offerListed_0, p_leadAtFirst hs]
  simp only [bnd1, Option.toList_some, List.cons_append, List.nil_append, eX4_offerListed_4]
  rw [L0]
  exact g1
