/-! A FIELD more. -/
def Ga (G : Nat → Nat → Nat) (F a len ck cf mn : Nat) : Nat → Nat → Nat := fun j => if j = 0 then uq (G 0) F a else if j = 1 then uq (G 1) F len else if j = 2 then uq (G 2) F ck else if j = 3 then uq (G 3) F cf else if j = 4 then uq (G 4) F mn else if j = 5 then uq (G 5) F 0 else if j = 6 then uq (G 6) F 0 else G j
theorem ak_g {F : Nat} {G G' wd wd' : Nat → Nat → Nat} (hG : GW F G wd) (hG' : GW F G' wd') {vl : Nat → Option Nat} (h5 : ∀ f, f < F → G 5 f = G' 5 f) (h6 : ∀ f, f < F → G 6 f = G' 6 f) : ∀ f, f < F → ak G vl f = ak G' vl f := by
  intro f
  induction f using Nat.strongRecOn with
  | ind f ih =>
    intro hf
    rw [ak_eq hG vl hf, ak_eq hG' vl hf, h5 f hf, h6 f hf]
    by_cases h0 : G' 5 f = 0
    · rw [if_pos h0, if_pos h0]
    · have := need_lt hG' hf h0
      rw [if_neg h0, if_neg h0, ih _ this (by omega)]
theorem GW_add {F a len ck cf mn : Nat} {G wd wd' : Nat → Nat → Nat} (hG : GW F G wd) (hF : F < 12) (ha : 20 ≤ a ∧ a ≤ 59) (hl : len ≤ 8) (hc : ck ≤ 1) (hcf : cf ≤ 1) (hm : mn ≤ 6) (h0 : len = 0 → ck = 0) (h1 : len ≠ 0 → mn = 0) (hwd : ∀ f, f < F → wd' f = wd f) (hw : ∀ k, k < mn → 20 ≤ wd' F k ∧ wd' F k ≤ 59) : GW (F + 1) (Ga G F a len ck cf mn) wd' := by
  refine ⟨hF, fun f hf => ?_⟩
  show (20 ≤ uq (G 0) F a f ∧ uq (G 0) F a f ≤ 59) ∧ uq (G 1) F len f ≤ 8 ∧ uq (G 2) F ck f ≤ 1 ∧ uq (G 3) F cf f ≤ 1 ∧ uq (G 4) F mn f ≤ 6 ∧ (uq (G 1) F len f = 0 → 0 ≤ uq (G 4) F mn f ∧ uq (G 2) F ck f = 0) ∧ (uq (G 1) F len f ≠ 0 → uq (G 4) F mn f = 0) ∧ (uq (G 5) F 0 f = 0 ∨ (uq (G 5) F 0 f ≤ f ∧ uq (G 6) F 0 f < uq (G 4) F mn (uq (G 5) F 0 f - 1))) ∧ uq (G 6) F 0 f ≤ 6 ∧ ∀ k, k < uq (G 4) F mn f → 20 ≤ wd' f k ∧ wd' f k ≤ 59
  by_cases he : f = F
  · rw [he]
    simp only [uq_at]
    exact ⟨ha, hl, hc, hcf, hm, fun e => ⟨Nat.zero_le _, h0 e⟩, h1, Or.inl trivial, Nat.zero_le _, hw⟩
  · obtain ⟨b1, b2, b3, b4, b5, b6, b7, b8, b9, b10⟩ := hG.2 f (by omega)
    simp only [uq_ne _ _ he]
    refine ⟨b1, b2, b3, b4, b5, b6, b7, ?_, b9, fun k hk => by rw [hwd f (by omega)]; exact b10 k hk⟩
    rcases b8 with e | ⟨e1, e2⟩
    · exact Or.inl e
    · by_cases h5 : G 5 f = 0
      · exact Or.inl h5
      · exact Or.inr ⟨e1, by rw [uq_ne _ _ (by omega)]; exact e2⟩
/-- a NAME that a new FIELD can have -/
def okN (F : Nat) (G : Nat → Nat → Nat) (x : Int32) : Prop := F < 12 ∧ ∃ a, x = nI a ∧ 20 ≤ a ∧ a ≤ 59 ∧ fnd (G 0) a 0 F = none
theorem isName_in {M : MM} {a : Nat} (h1 : 20 ≤ a) (h2 : a ≤ 59) : mX9_isName [.inl (nI a)] M = some (some (.inl (nI 1)), M) := by
  rw [iX9_isName, eX9_isName_0, if_neg (by rw [L20, q_lt (by omega) (by omega)]; omega), if_neg (by rw [L59, q_lt (by omega) (by omega)]; omega)]
  rfl
theorem name_cases (x : Int32) : (∃ a, x = nI a ∧ 20 ≤ a ∧ a ≤ 59) ∨ ((∀ M : MM, mX9_isName [.inl x] M = some (some (.inl (nI 0)), M)) ∧ ∀ M : MM, mX10_isIn [.inl x, .inl (nI 20), .inl (nI 59)] M = some (some (.inl (nI 0)), M)) := by
  by_cases h1 : x < nI 20
  · refine Or.inr ⟨fun M => ?_, fun M => p_isIn_out (Or.inl h1)⟩
    rw [iX9_isName, eX9_isName_0, L20, if_pos h1]
    rfl
  · by_cases h2 : nI 59 < x
    · refine Or.inr ⟨fun M => ?_, fun M => p_isIn_out (Or.inr h2)⟩
      rw [iX9_isName, eX9_isName_0, L20, L59, if_neg h1, if_pos h2]
      rfl
    · have h0 : ¬ x < 0 := fun h => h1 (by
        rw [Int32.lt_iff_toInt_lt] at h ⊢
        have : (nI 20).toInt = 20 := nI_toInt (by omega)
        have h00 : (0 : Int32).toInt = 0 := rfl
        omega)
      obtain ⟨a, ha, rfl⟩ := nI_of h0
      rw [q_lt (by omega) (by omega)] at h1 h2
      exact Or.inl ⟨a, rfl, by omega, by omega⟩
theorem canName_yes {M : MM} {F a : Nat} {G wd : Nat → Nat → Nat} (hG : GW F G wd) (hS : SX M F G wd) (hF : F < 12) (h1 : 20 ≤ a) (h2 : a ≤ 59) (hn : fnd (G 0) a 0 F = none) : mX1_canName [.inr (some 1), .inl (nI a)] M = some (some (.inl (nI 1)), M) := by
  rw [iX1_canName, eX1_canName_0, hS.1, if_neg (by rw [L12, q_le (by omega) (by omega)]; omega), isName_in h1 h2]
  simp only [bnd1, Option.toList_some, List.cons_append, List.nil_append, eX1_canName_16]
  rw [if_neg (show ¬ nI 1 = 0 by decide), p_numberOf1 hG hS h2, hn]
  simp only [bnd1, Option.toList_some, List.cons_append, List.nil_append, eX1_canName_24]
  rw [if_pos (show oI none = (-1 : Int32) from rfl)]
  rfl
theorem canName_no {M : MM} {F : Nat} {G wd : Nat → Nat → Nat} {x : Int32} (hG : GW F G wd) (hS : SX M F G wd) (hn : ¬ okN F G x) : mX1_canName [.inr (some 1), .inl x] M = some (some (.inl (nI 0)), M) := by
  have hF := hG.1
  rw [iX1_canName, eX1_canName_0, hS.1]
  by_cases h12 : F < 12
  · rw [if_neg (by rw [L12, q_le (by omega) (by omega)]; omega)]
    rcases name_cases x with ⟨a, rfl, a1, a2⟩ | ⟨e, -⟩
    · rw [isName_in a1 a2]
      simp only [bnd1, Option.toList_some, List.cons_append, List.nil_append, eX1_canName_16]
      rw [if_neg (show ¬ nI 1 = 0 by decide), p_numberOf1 hG hS a2]
      simp only [bnd1, Option.toList_some, List.cons_append, List.nil_append, eX1_canName_24]
      cases hx : fnd (G 0) a 0 F with
      | none => exact absurd ⟨h12, a, rfl, a1, a2, hx⟩ hn
      | some f =>
        have := fnd_some hx
        rw [if_neg (show ¬ oI (some f) = (-1 : Int32) by show ¬ nI f = (-1 : Int32); rw [L1, q_m1e (by omega)]; exact fun h => h)]
        rfl
    · rw [e M]
      simp only [bnd1, Option.toList_some, List.cons_append, List.nil_append, eX1_canName_16]
      rw [if_pos (show nI 0 = 0 from rfl)]
      rfl
  · rw [if_pos (by rw [L12]; exact nI_le (by omega) (by omega))]
    rfl
theorem isNew_loop {M : MM} {F a : Nat} {G wd : Nat → Nat → Nat} (hG : GW F G wd) (hS : SM M F G wd) (ha : a ≤ 59) : ∀ m i, i + m = F → gX10_isNew 31 [some (.inr (some 19)), some (.inl (nI a)), some (.inl (nI i))] [] M = some (some (.inl (nI (if fnd (G 0) a i m = none then 1 else 0))), M) := by
  have hF := hG.1
  intro m
  induction m with
  | zero =>
    intro i hi
    rw [eX10_isNew_31, hS.1, if_pos (nI_le (show F ≤ i by omega) (by omega)), if_pos (show fnd (G 0) a i 0 = none from rfl)]
    rfl
  | succ m ih =>
    intro i hi
    have h59 := (hG.2 i (by omega)).1.2
    rw [eX10_isNew_31, hS.1, if_neg (by rw [q_le (by omega) (by omega)]; omega), q_cl (show i < 2147483648 by omega), if_neg (gI (by omega) (by omega)), (hS.2 i (by omega)).1]
    have e : fnd (G 0) a i (m + 1) = if G 0 i = a then some i else fnd (G 0) a (i + 1) m := rfl
    rw [e]
    by_cases h : G 0 i = a
    · rw [if_pos (by rw [h]), if_pos h, if_neg (fun e => by cases e)]
      rfl
    · rw [if_neg (by rw [q_eq (by omega) (by omega)]; exact h), if_neg h, L1, q_add]
      exact ih (i + 1) (by omega)
theorem isNew_yes {M : MM} {F a : Nat} {G wd : Nat → Nat → Nat} (hG : GW F G wd) (hS : SM M F G wd) (h26 : M 19 26 = nI 0) (hF : F < 12) (h1 : 20 ≤ a) (h2 : a ≤ 59) (hn : fnd (G 0) a 0 F = none) : mX10_isNew [.inr (some 19), .inl (nI a)] M = some (some (.inl (nI 1)), M) := by
  rw [iX10_isNew, eX10_isNew_0, L20, L59, p_isIn_in h1 h2 (by omega)]
  simp only [bnd1, Option.toList_some, List.cons_append, List.nil_append, eX10_isNew_8]
  rw [if_neg (show ¬ nI 1 = 0 by decide), hS.1, if_neg (by rw [L12, q_eq (by omega) (by omega)]; omega), h26, if_pos (show nI 0 = 0 from rfl), L0, isNew_loop hG hS h2 F 0 (by omega), if_pos hn]
theorem isNew_no {M : MM} {F y : Nat} {G wd : Nat → Nat → Nat} {x : Int32} (hG : GW F G wd) (hS : SM M F G wd) (h26 : M 19 26 = nI y) (hy : y ≤ 1) (hn : y = 1 ∨ ¬ okN F G x) : mX10_isNew [.inr (some 19), .inl x] M = some (some (.inl (nI 0)), M) := by
  have hF := hG.1
  rw [iX10_isNew, eX10_isNew_0, L20, L59]
  rcases name_cases x with ⟨a, rfl, a1, a2⟩ | ⟨-, e⟩
  · rw [p_isIn_in a1 a2 (by omega)]
    simp only [bnd1, Option.toList_some, List.cons_append, List.nil_append, eX10_isNew_8]
    rw [if_neg (show ¬ nI 1 = 0 by decide), hS.1]
    by_cases h12 : F < 12
    · rw [if_neg (by rw [L12, q_eq (by omega) (by omega)]; omega), h26]
      rcases hn with h1 | hn
      · rw [if_neg (by rw [h1]; decide)]
        rfl
      · by_cases hy0 : y = 0
        · rw [if_pos (by rw [hy0]; rfl), L0, isNew_loop hG hS a2 F 0 (by omega)]
          cases hx : fnd (G 0) a 0 F with
          | none => exact absurd ⟨h12, a, rfl, a1, a2, hx⟩ hn
          | some f => rfl
        · rw [if_neg (by rw [L0, q_eq (by omega) (by omega)]; exact hy0)]
          rfl
    · rw [if_pos (by rw [L12, show F = 12 by omega])]
      rfl
  · rw [e M]
    simp only [bnd1, Option.toList_some, List.cons_append, List.nil_append, eX10_isNew_8]
    rw [if_pos (show nI 0 = 0 from rfl)]
    rfl
/-- the untouched slot, told of -/
def U9 (M : MM) (f : Nat) : Prop := M (f + 44) 1 = nI 0 ∧ M (f + 44) 2 = nI 0 ∧ M (f + 44) 5 = nI 0 ∧ M (f + 44) 6 = -nI 1 ∧ M (f + 44) 7 = nI 0 ∧ M (f + 44) 9 = nI 0 ∧ M (f + 44) 11 = nI 0 ∧ M (f + 44) 12 = nI 0
theorem p_addSlot {M : MM} {F a cf : Nat} {G wd : Nat → Nat → Nat} {vl : Nat → Option Nat} {hb sk : Nat → Nat} (hG : GW F G wd) (hF : FF M F G wd vl hb sk) (hF12 : F < 12) (h1 : 20 ≤ a) (h2 : a ≤ 59) (hn : fnd (G 0) a 0 F = none) (hcf : cf ≤ 1) (hvl : ∀ g, g < F → vl g = none) (hu : U9 M F) : ∃ M' : MM, mX1_addSlot [.inr (some 1), .inl (nI a), .inl (nI cf)] M = some (some (.inl (nI F)), M') ∧ FF M' (F + 1) (Ga G F a 0 0 cf 0) wd (uq vl F none) (uq hb F 0) (uq sk F 0) ∧ ∀ c j, ¬ (c = 1 ∧ j = 1) → ¬ (c = F + 44 ∧ (j = 0 ∨ j = 3)) → (c ≤ 43 ∨ (j ≠ 8 ∧ j ≠ 9 ∧ j ≠ 11) ∨ 44 + (F + 1) ≤ c) → M' c j = M c j := by
  obtain ⟨hS, hA, hD⟩ := hF
  obtain ⟨u1, u2, u5, u6, u7, u9, u11, u12⟩ := hu
  have hz := zkd_slot hF12
  have hG2 : GW (F + 1) (Ga G F a 0 0 cf 0) wd := GW_add hG hF12 ⟨h1, h2⟩ (by omega) (by omega) hcf (by omega) (fun _ => rfl) (fun _ => rfl) (fun _ _ => rfl) (fun k hk => absurd hk (Nat.not_lt_zero _))
  have g : ∀ c j, ¬ (c = 1 ∧ j = 1) → ¬ (c = F + 44 ∧ (j = 0 ∨ j = 3)) → st2 (st2 (st2 M 1 1 (nI (F + 1))) (F + 44) 0 (nI a)) (F + 44) 3 (nI cf) c j = M c j := fun c j q1 q2 => by
    by_cases hc : c = F + 44
    · rw [hc, st2_nj' _ (by omega), st2_nj' _ (by omega), st2_nc _ (by omega)]
    · rw [st2_nc _ hc, st2_nc _ hc]
      by_cases hc1 : c = 1
      · rw [hc1, st2_nj' _ (fun e => q1 ⟨hc1, e⟩)]
      · exact st2_nc _ hc1
  have hS2 : SX (st2 (st2 (st2 M 1 1 (nI (F + 1))) (F + 44) 0 (nI a)) (F + 44) 3 (nI cf)) (F + 1) (Ga G F a 0 0 cf 0) wd := by
    refine ⟨by rw [st2_nc _ (by omega), st2_nc _ (by omega), st2_at], fun f hf => ?_⟩
    show _ = nI (uq (G 0) F a f) ∧ _ = nI (uq (G 1) F 0 f) ∧ _ = nI (uq (G 2) F 0 f) ∧ _ = nI (uq (G 3) F cf f) ∧ _ = nI (uq (G 4) F 0 f) ∧ _ = sI (uq (G 5) F 0 f) ∧ _ = nI (uq (G 6) F 0 f) ∧ ∀ k, k < uq (G 4) F 0 f → _ = nI (wd f k)
    by_cases he : f = F
    · rw [he]
      simp only [uq_at]
      refine ⟨?_, ?_, ?_, by rw [st2_at], ?_, ?_, ?_, fun k hk => absurd hk (Nat.not_lt_zero _)⟩
      · rw [st2_nj' _ (by decide), st2_at]
      · rw [g _ _ (by omega) (by omega)]; exact u1
      · rw [g _ _ (by omega) (by omega)]; exact u2
      · rw [g _ _ (by omega) (by omega)]; exact u5
      · rw [g _ _ (by omega) (by omega)]; exact u6
      · rw [g _ _ (by omega) (by omega)]; exact u7
    · obtain ⟨a1, a2, a3, a4, a5, a6, a7, a8⟩ := hS.2 f (by omega)
      simp only [uq_ne _ _ he]
      exact ⟨(g _ _ (by omega) (by omega)).trans a1, (g _ _ (by omega) (by omega)).trans a2, (g _ _ (by omega) (by omega)).trans a3, (g _ _ (by omega) (by omega)).trans a4, (g _ _ (by omega) (by omega)).trans a5, (g _ _ (by omega) (by omega)).trans a6, (g _ _ (by omega) (by omega)).trans a7, fun k hk => (g _ _ (by omega) (by omega)).trans (a8 k hk)⟩
  have hD2 : DX (st2 (st2 (st2 M 1 1 (nI (F + 1))) (F + 44) 0 (nI a)) (F + 44) 3 (nI cf)) (F + 1) (uq vl F none) (uq hb F 0) (uq sk F 0) := fun f hf => by
    by_cases he : f = F
    · rw [he]
      simp only [uq_at]
      refine ⟨?_, fun v e => (by cases e), ?_, ?_⟩
      · rw [g _ _ (by omega) (by omega)]; exact u9
      · rw [g _ _ (by omega) (by omega)]; exact u11
      · rw [g _ _ (by omega) (by omega)]; exact u12
    · obtain ⟨q1, q2, q3, q4⟩ := hD f (by omega)
      simp only [uq_ne _ _ he]
      exact ⟨(g _ _ (by omega) (by omega)).trans q1, fun v e => (g _ _ (by omega) (by omega)).trans (q2 v e), (g _ _ (by omega) (by omega)).trans q3, (g _ _ (by omega) (by omega)).trans q4⟩
  obtain ⟨M', b1, b2, b3⟩ := p_reckon0 hG2 hS2 hD2 (fun f hf => by
    by_cases he : f = F
    · rw [he, uq_at]
    · rw [uq_ne _ _ he]; exact hvl f (by omega))
  refine ⟨M', ?_, b2, fun c j q1 q2 q3 => by rw [b3 c j q3, g c j q1 q2]⟩
  have h01 : nI cf = 0 ∨ nI cf = 1 := by
    rcases (show cf = 0 ∨ cf = 1 by omega) with rfl | rfl
    · exact Or.inl rfl
    · exact Or.inr rfl
  have e11 : st2 M 1 1 (nI (F + 1)) 1 1 = nI (F + 1) := st2_at _ _ _ _
  have hsl : mX1_slotAt [.inr (some 1), .inl (nI F)] (st2 M 1 1 (nI (F + 1))) = some (some (.inr (some (F + 44))), st2 M 1 1 (nI (F + 1))) := p_slotAt (o := some F) (F := F + 1) (by omega) e11 (fun g e => by cases e; omega)
  rw [iX1_addSlot, eX1_addSlot_0, canName_yes hG hS hF12 h1 h2 hn]
  simp only [bnd1, Option.toList_some, List.cons_append, List.nil_append, eX1_addSlot_5]
  rw [if_neg (show ¬ nI 1 = 0 by decide), hS.1, L1, q_add, e11, q_sub (by omega), show F + 1 - 1 = F by omega, hsl]
  simp only [bnd1, Option.toList_some, List.cons_append, List.nil_append, eX1_addSlot_30]
  rw [if_pos hz, if_pos hz, if_pos h01, eX1_addSlot_45, b1]
  simp only [bnd1, Option.toList_some, List.cons_append, List.nil_append, eX1_addSlot_49]
  rw [b2.1.1, L1, q_sub (by omega), show F + 1 - 1 = F by omega]
theorem p_comes {M : MM} {F a cf : Nat} (h0 : M 19 0 = nI F) (hF12 : F < 12) (hcf : cf ≤ 1) : ∃ M' : MM, mX10_comes [.inr (some 19), .inl (nI a), .inl (nI cf)] M = some (some (.inl (nI F)), M') ∧ M' 19 0 = nI (F + 1) ∧ M' 20 F = nI a ∧ M' 24 F = nI cf ∧ M' 26 F = -nI 1 ∧ M' 28 F = -nI 1 ∧ (M' 19 29 = if F = 0 then nI 0 else M 19 29) ∧ ∀ c j, (c = 20 ∨ c = 24 ∨ c = 26 ∨ c = 28 → j ≠ F) → (c = 19 → j ≠ 0 ∧ j ≠ 29) → M' c j = M c j := by
  have gF := gI (c := F) (N := 12) hF12 (by omega)
  have h01 : nI cf = 0 ∨ nI cf = 1 := by
    rcases (show cf = 0 ∨ cf = 1 by omega) with rfl | rfl
    · exact Or.inl rfl
    · exact Or.inr rfl
  have e0 : (nI F = 0) = (F = 0) := by rw [L0, q_eq (by omega) (by omega)]
  have hcl := q_cl (show F < 2147483648 by omega)
  rw [iX10_comes, eX10_comes_0]
  simp (disch := decide) only [h0, st2_nc, hcl]
  rw [if_neg gF, if_neg gF, if_pos h01, if_neg gF, if_neg gF]
  have fin : ∀ M1 : MM, M1 19 0 = nI F → gX10_comes 52 [some (.inr (some 19)), some (.inl (nI a)), some (.inl (nI cf))] [] M1 = some (some (.inl (nI F)), st2 M1 19 0 (nI (F + 1))) := fun M1 e => by
    rw [eX10_comes_52, e, L1, q_add, st2_at, q_sub (by omega), show F + 1 - 1 = F by omega]
  by_cases hz : F = 0
  · rw [if_pos (by rw [e0]; exact hz), fin _ (by rw [st2_nj' _ (by decide), st2_nc _ (by decide), st2_nc _ (by decide), st2_nc _ (by decide), st2_nc _ (by decide)]; exact h0)]
    refine ⟨_, rfl, by rw [st2_at], ?_, ?_, ?_, ?_, ?_, fun c j q1 q2 => ?_⟩
    · rw [st2_nc _ (by decide), st2_nc _ (by decide), st2_nc _ (by decide), st2_nc _ (by decide), st2_nc _ (by decide), st2_at]
    · rw [st2_nc _ (by decide), st2_nc _ (by decide), st2_nc _ (by decide), st2_nc _ (by decide), st2_at]
    · rw [st2_nc _ (by decide), st2_nc _ (by decide), st2_nc _ (by decide), st2_at]; rfl
    · rw [st2_nc _ (by decide), st2_nc _ (by decide), st2_at]; rfl
    · rw [st2_nj' _ (by decide), st2_at, if_pos hz]; rfl
    · by_cases h19 : c = 19
      · have := q2 h19
        rw [st2_nj' _ this.1, st2_nj' _ this.2, st2_nc _ (by omega), st2_nc _ (by omega), st2_nc _ (by omega), st2_nc _ (by omega)]
      · rw [st2_nc _ h19, st2_nc _ h19]
        by_cases hj : j = F
        · rw [st2_nc _ (fun e => q1 (by omega) hj), st2_nc _ (fun e => q1 (by omega) hj), st2_nc _ (fun e => q1 (by omega) hj), st2_nc _ (fun e => q1 (by omega) hj)]
        · rw [st2_nj' _ hj, st2_nj' _ hj, st2_nj' _ hj, st2_nj' _ hj]
  · rw [if_neg (by rw [e0]; exact hz), fin _ (by rw [st2_nc _ (by decide), st2_nc _ (by decide), st2_nc _ (by decide), st2_nc _ (by decide)]; exact h0)]
    refine ⟨_, rfl, by rw [st2_at], ?_, ?_, ?_, ?_, ?_, fun c j q1 q2 => ?_⟩
    · rw [st2_nc _ (by decide), st2_nc _ (by decide), st2_nc _ (by decide), st2_nc _ (by decide), st2_at]
    · rw [st2_nc _ (by decide), st2_nc _ (by decide), st2_nc _ (by decide), st2_at]
    · rw [st2_nc _ (by decide), st2_nc _ (by decide), st2_at]; rfl
    · rw [st2_nc _ (by decide), st2_at]; rfl
    · rw [st2_nj' _ (by decide), st2_nc _ (by decide), st2_nc _ (by decide), st2_nc _ (by decide), st2_nc _ (by decide), if_neg hz]
    · by_cases h19 : c = 19
      · have := q2 h19
        rw [st2_nj' _ this.1, st2_nc _ (by omega), st2_nc _ (by omega), st2_nc _ (by omega), st2_nc _ (by omega)]
      · rw [st2_nc _ h19]
        by_cases hj : j = F
        · rw [st2_nc _ (fun e => q1 (by omega) hj), st2_nc _ (fun e => q1 (by omega) hj), st2_nc _ (fun e => q1 (by omega) hj), st2_nc _ (fun e => q1 (by omega) hj)]
        · rw [st2_nj' _ hj, st2_nj' _ hj, st2_nj' _ hj, st2_nj' _ hj]
