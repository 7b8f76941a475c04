/-! choice. -/
theorem rr_same {M M2 : MM} (h : RR M) (hf : ∀ c j, c ≠ 5 → c ≠ 31 → M2 c j = M c j) : RR M2 := by
  obtain ⟨F, mi, G, wd, S, la, t, P, c, w, k, no, od, ne, hC, hH, hN⟩ := h
  exact ⟨F, mi, G, wd, S, la, t, P, c, w, k, no, od, ne, hC.fr (fun c j _ _ q _ _ _ _ q2 => hf c j q (by omega)), hH.fr (fun c j q => hf c j (by omega) (by omega)), hN.fr (fun j => hf 3 j (by decide) (by decide)) (fun j _ => hf 19 j (by decide) (by decide))⟩
def wu6 (M : MM) (c : Nat) (y : Nat → Int32) : MM := st2 (st2 (st2 (st2 (st2 (st2 M c 0 (y 0)) c 1 (y 1)) c 2 (y 2)) c 3 (y 3)) c 4 (y 4)) c 5 (y 5)
theorem wu6_nc {M : MM} {c : Nat} {y : Nat → Int32} {c' j : Nat} (h : c' ≠ c) : wu6 M c y c' j = M c' j := by
  unfold wu6
  rw [st2_nc _ h, st2_nc _ h, st2_nc _ h, st2_nc _ h, st2_nc _ h, st2_nc _ h]
theorem wu6_at {M : MM} {c : Nat} {y : Nat → Int32} {i : Nat} (h : i < 6) : wu6 M c y c i = y i := by
  unfold wu6
  rcases (show i = 0 ∨ i = 1 ∨ i = 2 ∨ i = 3 ∨ i = 4 ∨ i = 5 by omega) with rfl | rfl | rfl | rfl | rfl | rfl
  · rw [st2_nj' _ (by decide), st2_nj' _ (by decide), st2_nj' _ (by decide), st2_nj' _ (by decide), st2_nj' _ (by decide), st2_at]
  · rw [st2_nj' _ (by decide), st2_nj' _ (by decide), st2_nj' _ (by decide), st2_nj' _ (by decide), st2_at]
  · rw [st2_nj' _ (by decide), st2_nj' _ (by decide), st2_nj' _ (by decide), st2_at]
  · rw [st2_nj' _ (by decide), st2_nj' _ (by decide), st2_at]
  · rw [st2_nj' _ (by decide), st2_at]
  · rw [st2_at]
/-- the class's words are copied -/
theorem p_words9 {F nn : Nat} {y : Nat → Int32} {x1 x2 : Int32} (hF : F < 12) (hnn : nn ≤ 6) : ∀ m i (M : MM), i + m = nn → R5 M y → (∀ k, k < i → M (F + 56) k = y k) → ∃ M' : MM, gX1_addChoice 24 [some (.inr (some 1)), some (.inl x1), some (.inl x2), some (.inr (some 5)), some (.inl (nI nn)), some (.inl (nI F)), some (.inr (some (F + 44))), some (.inl (nI i))] [] M = some (some (.inl (nI F)), M') ∧ (∀ k, k < nn → M' (F + 56) k = y k) ∧ M' (F + 44) 5 = nI nn ∧ ∀ c j, c ≠ F + 56 → ¬ (c = F + 44 ∧ j = 5) → M' c j = M c j := by
  have hz := zkd_slot hF
  have hz2 := zkd_words hF
  have hz3 := zln_words hF
  have e6 : Int32.ofNat 6 = nI 6 := rfl
  have e56 : F + 44 + 12 = F + 56 := rfl
  intro m
  induction m with
  | zero =>
    intro i M hi h5 hw
    obtain rfl : i = nn := by omega
    refine ⟨st2 M (F + 44) 5 (nI i), ?_, fun k hk => by rw [st2_nc _ (by omega)]; exact hw k hk, st2_at _ _ _ _, fun c j q1 q2 => ?_⟩
    · rw [eX1_addChoice_24, if_pos (nI_le (Nat.le_refl _) (by omega))]
      dsimp only
      rw [if_pos hz]
    · by_cases hc : c = F + 44
      · exact st2_nj' _ (fun e => q2 ⟨hc, e⟩)
      · exact st2_nc _ hc
  | succ m ih =>
    intro i M hi h5 hw
    have gi := gI (c := i) (N := 6) (by omega) (by omega)
    obtain ⟨M', a1, a2, a3, a4⟩ := ih (i + 1) (st2 M (F + 56) i (y i)) (by omega) (fun k hk => by rw [st2_nc _ (by omega)]; exact h5 k hk) (fun k hk => by
      by_cases e : k = i
      · rw [e, st2_at]
      · rw [st2_nj' _ e]; exact hw k (by omega))
    refine ⟨M', ?_, a2, a3, fun c j q1 q2 => by rw [a4 c j q1 q2, st2_nc _ q1]⟩
    rw [eX1_addChoice_24, if_neg (by rw [q_le (by omega) (by omega)]; omega), if_neg (by rw [L6, q_le (by omega) (by omega)]; omega)]
    dsimp only
    rw [if_pos hz, if_pos (by rw [hz2]; omega), hz3, e6, if_neg (by rw [q_le (by omega) (by omega)]; omega), if_pos hz, q_cl (show i < 2147483648 by omega), if_neg gi, if_pos hz2, if_neg gi, h5 i (by omega), e56, L1, q_add]
    exact a1
/-- the reference's words are copied -/
theorem p_words10 {F nn a cf : Nat} {y : Nat → Int32} {e12 : Option AV} (hF : F < 12) (hnn : nn ≤ 6) : ∀ m i (M : MM), i + m = nn → R31 M y → M 19 0 = nI F → (∀ k, k < i → M 25 (6 * F + k) = y k) → ∃ M' : MM, gX10_choice 194 [some (.inr (some 19)), some (.inl (nI a)), some (.inl (nI cf)), some (.inl (y 0)), some (.inl (y 1)), some (.inl (y 2)), some (.inl (y 3)), some (.inl (y 4)), some (.inl (y 5)), some (.inl (nI nn)), some (.inl (nI 1)), some (.inl (nI i)), e12] [] M = (mX10_comes [.inr (some 19), .inl (nI a), .inl (nI cf)] (st2 M' 22 F (nI nn))).bind (fun r => gX10_choice 246 [some (.inr (some 19)), some (.inl (nI a)), some (.inl (nI cf)), some (.inl (y 0)), some (.inl (y 1)), some (.inl (y 2)), some (.inl (y 3)), some (.inl (y 4)), some (.inl (y 5)), some (.inl (nI nn)), some (.inl (nI 1)), some (.inl (nI nn)), e12] (r.1.toList ++ []) r.2) ∧ (∀ k, k < nn → M' 25 (6 * F + k) = y k) ∧ M' 19 0 = nI F ∧ ∀ c j, ¬ (c = 25 ∧ 6 * F ≤ j) → M' c j = M c j := by
  intro m
  induction m with
  | zero =>
    intro i M hi h31 h0 hw
    obtain rfl : i = nn := by omega
    refine ⟨M, ?_, hw, h0, fun _ _ _ => rfl⟩
    rw [eX10_choice_194, if_pos (nI_le (Nat.le_refl _) (by omega)), h0, q_cl (show F < 2147483648 by omega), if_neg (gI (by omega) (by omega))]
  | succ m ih =>
    intro i M hi h31 h0 hw
    obtain ⟨M', a1, a2, a3, a4⟩ := ih (i + 1) (st2 M 25 (6 * F + i) (y i)) (by omega) (fun k hk => by rw [st2_nc _ (by decide)]; exact h31 k hk) (by rw [st2_nc _ (by decide)]; exact h0) (fun k hk => by
      by_cases e : k = i
      · rw [e, st2_at]
      · rw [st2_nj' _ (by omega)]; exact hw k (by omega))
    refine ⟨M', ?_, a2, a3, fun c j q => ?_⟩
    · rw [eX10_choice_194, if_neg (by rw [q_le (by omega) (by omega)]; omega), q_cl (show i < 2147483648 by omega), if_neg (gI (by omega) (by omega)), h0, L6, q_mul, q_add, q_cl (show 6 * F + i < 2147483648 by omega), if_neg (gI (by omega) (by omega)), h31 i (by omega), L1, q_add]
      exact a1
    · rw [a4 c j q]
      by_cases hc : c = 25
      · exact st2_nj' _ (fun e => q ⟨hc, by omega⟩)
      · exact st2_nc _ hc
theorem c_choice {M : MM} (h : RR M) (x1 : Int32) {b2 : Int32} (h2 : b2 = 0 ∨ b2 = 1) (y : Nat → Int32) : OKc M (mX9_choice [.inr (some 0), .inl x1, .inl b2, .inl (y 0), .inl (y 1), .inl (y 2), .inl (y 3), .inl (y 4), .inl (y 5)]) (mX10_choice [.inr (some 19), .inl x1, .inl b2, .inl (y 0), .inl (y 1), .inl (y 2), .inl (y 3), .inl (y 4), .inl (y 5)]) := by
  have hR := h
  obtain ⟨F, mi, G, wd, S, la, t, P, c, w, k, no, od, ne, hC, hH, hN⟩ := h
  obtain ⟨hG, hX0, hM0, hI, hRT, hokT, r5, r6, r26, r06, r33, hmi, rt, ru⟩ := id hC
  obtain ⟨cf, hcf, rfl⟩ : ∃ cf, cf ≤ 1 ∧ b2 = nI cf := by
    rcases h2 with rfl | rfl
    · exact ⟨0, by omega, rfl⟩
    · exact ⟨1, by omega, rfl⟩
  have hSX : SX M F G wd := (KX_hd hX0).2.2.2
  have hSM : SM M F G wd := (KM_hd hM0).2.2.2.1
  have h5 : R5 (wu6 M 5 y) y := fun i hi => wu6_at hi
  have hSX5 : SX (wu6 M 5 y) F G wd := hSX.fr (wu6_nc (by decide)) (fun c j q _ => wu6_nc (by omega)) hG
  have hb6 : cntN y 6 0 ≤ 6 := by have := (cntN_b y 6 0).2; omega
  have e05 : wu6 M 5 y 0 5 = oI la := (wu6_nc (by decide)).trans r5
  -- the reference, at any memory that the class leaves
  have ref0 : ∀ M9 : MM, SM M9 F G wd → M9 19 26 = nI (hv la) → (la ≠ none ∨ ¬ okN F G x1 ∨ cntN y 6 0 = 0 ∨ ¬ ∀ k, k < cntN y 6 0 → gdW y k) → mX10_choice [.inr (some 19), .inl x1, .inl (nI cf), .inl (y 0), .inl (y 1), .inl (y 2), .inl (y 3), .inl (y 4), .inl (y 5)] M9 = some (some (.inl (-nI 1)), wu6 M9 31 y) := by
    intro M9 hS9 h26 hbad
    have h31 : R31 (wu6 M9 31 y) y := fun i hi => wu6_at hi
    have hS31 : SM (wu6 M9 31 y) F G wd := hS9.fr (wu6_nc (by decide)) (fun c j _ q => wu6_nc (by omega))
    have h26' : wu6 M9 31 y 19 26 = nI (hv la) := (wu6_nc (by decide)).trans h26
    have hv1 : hv la ≤ 1 := by unfold hv; split <;> omega
    rw [iX10_choice, eX10_choice_0]
    show gX10_choice 50 [some (.inr (some 19)), some (.inl x1), some (.inl (nI cf)), some (.inl (y 0)), some (.inl (y 1)), some (.inl (y 2)), some (.inl (y 3)), some (.inl (y 4)), some (.inl (y 5)), some (.inl (0 : Int32)), none, none, none] [] (wu6 M9 31 y) = _
    rw [L0, p_cnt10 h31 6 0 (by omega), eX10_choice_74]
    have g0 : gX10_choice 91 [some (.inr (some 19)), some (.inl x1), some (.inl (nI cf)), some (.inl (y 0)), some (.inl (y 1)), some (.inl (y 2)), some (.inl (y 3)), some (.inl (y 4)), some (.inl (y 5)), some (.inl (nI (cntN y 6 0))), none, none, none] [] (wu6 M9 31 y) = some (some (.inl (-nI 1)), wu6 M9 31 y) := by
      rw [eX10_choice_91, eX10_choice_92, L0, p_out0 hb6 (cntN y 6 0) 0 none (by omega)]
    by_cases hnw : la ≠ none ∨ ¬ okN F G x1
    · rw [isNew_no hG hS31 h26' hv1 (by
        rcases hnw with q | q
        · cases la with
          | none => exact absurd rfl q
          | some a => exact Or.inl rfl
        · exact Or.inr q)]
      simp only [bnd1, Option.toList_some, List.cons_append, List.nil_append, eX10_choice_79]
      rw [if_pos (show nI 0 = 0 from rfl)]
      exact g0
    · have hla : la = none := by
        cases la with
        | none => rfl
        | some a => exact absurd (Or.inl (fun e => by cases e)) hnw
      have hok : okN F G x1 := by
        by_cases q : okN F G x1
        · exact q
        · exact absurd (Or.inr q) hnw
      obtain ⟨hF12, a, rfl, a1, a2, a3⟩ := hok
      subst hla
      rw [isNew_yes hG hS31 h26' hF12 a1 a2 a3]
      simp only [bnd1, Option.toList_some, List.cons_append, List.nil_append, eX10_choice_79]
      rw [if_neg (show ¬ nI 1 = 0 by decide)]
      by_cases hz : cntN y 6 0 = 0
      · rw [if_pos (by rw [hz]; decide)]
        exact g0
      · rw [if_neg (by rw [L0, q_le (by omega) (by omega)]; omega), eX10_choice_92, L0, L1]
        rcases p_out1 (x1 := nI a) (x2 := nI cf) h31 hb6 (cntN y 6 0) 0 none (by omega) (fun k' hk' => absurd hk' (Nat.not_lt_zero _)) with ⟨q1, -⟩ | ⟨-, q2⟩
        · exact absurd q1 ((hbad.resolve_left (fun e => e rfl)).resolve_left (fun e => e ⟨hF12, a, rfl, a1, a2, a3⟩) |>.resolve_left hz)
        · exact q2
  have fail : mX9_choice [.inr (some 0), .inl x1, .inl (nI cf), .inl (y 0), .inl (y 1), .inl (y 2), .inl (y 3), .inl (y 4), .inl (y 5)] M = some (some (.inl (-nI 1)), wu6 M 5 y) → (la ≠ none ∨ ¬ okN F G x1 ∨ cntN y 6 0 = 0 ∨ ¬ ∀ k, k < cntN y 6 0 → gdW y k) → OKc M (mX9_choice [.inr (some 0), .inl x1, .inl (nI cf), .inl (y 0), .inl (y 1), .inl (y 2), .inl (y 3), .inl (y 4), .inl (y 5)]) (mX10_choice [.inr (some 19), .inl x1, .inl (nI cf), .inl (y 0), .inl (y 1), .inl (y 2), .inl (y 3), .inl (y 4), .inl (y 5)]) := fun h9 hbad => ⟨_, _, _, h9, ref0 (wu6 M 5 y) (hSM.fr (wu6_nc (by decide)) (fun c j _ q => wu6_nc (by omega))) ((wu6_nc (by decide)).trans r26) hbad, rr_same hR (fun c j q1 q2 => by rw [wu6_nc q2, wu6_nc q1])⟩
  have h51 : ∀ cnt : Nat, mX9_countOffered [.inr (some 0)] (wu6 M 5 y) = some (some (.inl (nI cnt)), wu6 M 5 y) → mX9_choice [.inr (some 0), .inl x1, .inl (nI cf), .inl (y 0), .inl (y 1), .inl (y 2), .inl (y 3), .inl (y 4), .inl (y 5)] M = (if oI la = (-1 : Int32) then (mX1_canName [.inr (some 1), .inl x1] (wu6 M 5 y)).bind (fun r => gX9_choice 69 [some (.inr (some 0)), some (.inl x1), some (.inl (nI cf)), some (.inl (y 0)), some (.inl (y 1)), some (.inl (y 2)), some (.inl (y 3)), some (.inl (y 4)), some (.inl (y 5)), some (.inl (nI cnt))] (r.1.toList ++ []) r.2) else some (some (.inl (-nI 1)), wu6 M 5 y)) := by
    intro cnt hc
    rw [iX9_choice, eX9_choice_0]
    show (mX9_countOffered [.inr (some 0)] (wu6 M 5 y)).bind _ = _
    rw [hc]
    simp only [bnd1, Option.toList_some, List.cons_append, List.nil_append, eX9_choice_51]
    rw [e05]
    rfl
  cases la with
  | some a0 =>
    have ha := r6 a0 rfl
    have e1 : ¬ oI (some a0) = (-1 : Int32) := by
      show ¬ nI a0 = (-1 : Int32)
      rw [L1, q_m1e (by omega)]
      exact fun h => h
    rcases p_cnt h5 with ⟨-, q⟩ | ⟨-, q⟩
    · exact fail (by rw [h51 _ q, if_neg e1]) (Or.inl (fun e => by cases e))
    · exact fail (by rw [h51 _ q, if_neg e1]) (Or.inl (fun e => by cases e))
  | none =>
    have en : oI none = (-1 : Int32) := rfl
    have f69 : ∀ cnt : Nat, cnt ≤ 6 → (¬ okN F G x1 ∨ cnt = 0) → mX9_countOffered [.inr (some 0)] (wu6 M 5 y) = some (some (.inl (nI cnt)), wu6 M 5 y) → mX9_choice [.inr (some 0), .inl x1, .inl (nI cf), .inl (y 0), .inl (y 1), .inl (y 2), .inl (y 3), .inl (y 4), .inl (y 5)] M = some (some (.inl (-nI 1)), wu6 M 5 y) := by
      intro cnt hcnt hbad hc
      rw [h51 _ hc, if_pos en]
      by_cases hok : okN F G x1
      · obtain ⟨hF12, a, rfl, a1, a2, a3⟩ := id hok
        have hz : cnt = 0 := hbad.resolve_left (fun e => e hok)
        rw [canName_yes hG hSX5 hF12 a1 a2 a3]
        simp only [bnd1, Option.toList_some, List.cons_append, List.nil_append, eX9_choice_69]
        rw [if_neg (show ¬ nI 1 = 0 by decide), if_pos (by rw [hz]; rfl)]
        rfl
      · rw [canName_no hG hSX5 hok]
        simp only [bnd1, Option.toList_some, List.cons_append, List.nil_append, eX9_choice_69]
        rw [if_pos (show nI 0 = 0 from rfl)]
        rfl
    rcases p_cnt h5 with ⟨qg, q⟩ | ⟨qg, q⟩
    · by_cases hbad : ¬ okN F G x1 ∨ cntN y 6 0 = 0
      · refine fail (f69 _ hb6 hbad q) ?_
        rcases hbad with e | e
        · exact Or.inr (Or.inl e)
        · exact Or.inr (Or.inr (Or.inl e))
      · have hok : okN F G x1 := by
          by_cases e : okN F G x1
          · exact e
          · exact absurd (Or.inl e) hbad
        have hz0 : cntN y 6 0 ≠ 0 := fun e => hbad (Or.inr e)
        obtain ⟨hF12, a, rfl, a1, a2, a3⟩ := hok
        have h9 := h51 _ q
        rw [if_pos en, canName_yes hG hSX5 hF12 a1 a2 a3] at h9
        simp only [bnd1, Option.toList_some, List.cons_append, List.nil_append, eX9_choice_69] at h9
        rw [if_neg (show ¬ nI 1 = 0 by decide), if_neg (by rw [L0, q_eq (by omega) (by omega)]; exact hz0)] at h9
        generalize hnn : cntN y 6 0 = nn at *
        obtain ⟨p1, p2, p3, p4, p5, p6, p7⟩ := hC.parts
        obtain ⟨u1, u2, u3, u4, u5⟩ := p4
        obtain ⟨uF9, uF21, uF22, uF23, uF27, uF29, uF30⟩ := u5 F (Nat.le_refl _) hF12
        have hz := zkd_slot hF12
        have hwv : ∀ k, k < nn → y k = nI (y k).toNatClampNeg ∧ 20 ≤ (y k).toNatClampNeg ∧ (y k).toNatClampNeg ≤ 59 := fun k hk => by
          obtain ⟨⟨b, eb, b1, b2⟩, -⟩ := qg k hk
          rw [eb, q_cl (by omega)]
          exact ⟨rfl, b1, b2⟩
        have hwd : ∀ f, f < F → uq wd F (fun k => (y k).toNatClampNeg) f = wd f := fun f hf => uq_ne _ _ (by omega)
        have hwF : uq wd F (fun k => (y k).toNatClampNeg) F = fun k => (y k).toNatClampNeg := uq_at _ _ _
        have hG' : GW (F + 1) (Ga G F a 0 0 cf nn) (uq wd F (fun k => (y k).toNatClampNeg)) := GW_add hG hF12 ⟨a1, a2⟩ (by omega) (by omega) hcf hb6 (fun _ => rfl) (fun e => absurd rfl e) hwd (fun k hk => by rw [hwF]; exact (hwv k hk).2)
        have hG0 : GW (F + 1) (Ga G F a 0 0 cf 0) wd := GW_add hG hF12 ⟨a1, a2⟩ (by omega) (by omega) hcf (by omega) (fun _ => rfl) (fun _ => rfl) (fun _ _ => rfl) (fun k hk => absurd hk (Nat.not_lt_zero _))
        have g43 : ∀ c j, c ≠ 5 → (c = 4 → j ≠ 3) → st2 (wu6 M 5 y) 4 3 (0 : Int32) c j = M c j := fun c j q0 q => by
          by_cases hc : c = 4
          · rw [st2_nj' _ (q hc), wu6_nc q0]
          · rw [st2_nc _ hc, wu6_nc q0]
        have hFF0 : FF (st2 (wu6 M 5 y) 4 3 (0 : Int32)) F G wd S.1 S.2.1 S.2.2.1 := p1.fr hG (g43 1 1 (by decide) (by decide)) (fun c j q => g43 c j (by omega) (fun e => by omega))
        have hU9 : U9 (st2 (wu6 M 5 y) 4 3 (0 : Int32)) F := by
          obtain ⟨k1, k2, k3, k4, k5, k6, k7, k8⟩ := uF9
          have gs : ∀ j, st2 (wu6 M 5 y) 4 3 (0 : Int32) (F + 44) j = M (F + 44) j := fun j => g43 _ j (by omega) (fun e => by omega)
          exact ⟨(gs 1).trans k1, (gs 2).trans k2, (gs 5).trans k3, (gs 6).trans k4, (gs 7).trans k5, (gs 9).trans k6, (gs 11).trans k7, (gs 12).trans k8⟩
        obtain ⟨M1, e1, e2, e3⟩ := p_addSlot (cf := cf) hG hFF0 hF12 a1 a2 a3 hcf u1 hU9
        have h51' : R5 M1 y := fun i hi => by rw [e3 5 i (by omega) (by omega) (by omega), st2_nc _ (by decide)]; exact h5 i hi
        obtain ⟨M9, w1, w2, w3, w4⟩ := p_words9 (x1 := nI a) (x2 := nI cf) hF12 hb6 nn 0 M1 (by omega) h51' (fun k hk => absurd hk (Nat.not_lt_zero _))
        have hsl : mX1_slotAt [.inr (some 1), .inl (nI F)] M1 = some (some (.inr (some (F + 44))), M1) := p_slotAt (o := some F) (F := F + 1) (by omega) e2.1.1 (fun g e => by cases e; omega)
        rw [iX1_addChoice, eX1_addChoice_0, e1] at h9
        simp only [bnd1, Option.toList_some, List.cons_append, List.nil_append, eX1_addChoice_6] at h9
        rw [hsl] at h9
        simp only [bnd1, Option.toList_some, List.cons_append, List.nil_append, eX1_addChoice_14] at h9
        rw [L0, w1] at h9
        simp only [bnd1, Option.toList_some, List.cons_append, List.nil_append, eX9_choice_102] at h9
        have f1 : ∀ c j, c ≠ 5 → ¬ (c = 1 ∧ j = 1) → (c = 4 → j ≠ 3) → c ≤ 43 ∨ (45 + F ≤ c ∧ c ≠ F + 56) → M9 c j = M c j := fun c j q0 q1 q2 q3 => by
          rw [w4 c j (by omega) (by omega), e3 c j q1 (by omega) (by omega), g43 c j q0 q2]
        have hX' : FF M9 (F + 1) (Ga G F a 0 0 cf nn) (uq wd F (fun k => (y k).toNatClampNeg)) (uq S.1 F none) (uq S.2.1 F 0) (uq S.2.2.1 F 0) := by
          obtain ⟨q1, q2, q3⟩ := e2
          have gs : ∀ f j, f < 12 → ¬ (f = F ∧ j = 5) → M9 (f + 44) j = M1 (f + 44) j := fun f j q1 q2 => w4 _ j (by omega) (fun e => q2 ⟨by omega, e.2⟩)
          refine ⟨⟨(w4 1 1 (by omega) (by omega)).trans q1.1, fun f hf => ?_⟩, fun f hf => ?_, fun f hf => ?_⟩
          · obtain ⟨s1, s2, s3, s4, s5, s6, s7, s8⟩ := q1.2 f hf
            refine ⟨(gs f 0 (by omega) (by omega)).trans s1, (gs f 1 (by omega) (by omega)).trans s2, (gs f 2 (by omega) (by omega)).trans s3, (gs f 3 (by omega) (by omega)).trans s4, ?_, (gs f 6 (by omega) (by omega)).trans s6, (gs f 7 (by omega) (by omega)).trans s7, ?_⟩
            · show _ = nI (uq (G 4) F nn f)
              by_cases he : f = F
              · rw [he, uq_at]; exact w3
              · rw [uq_ne _ _ he, gs f 5 (by omega) (by omega)]
                have s5 : M1 (f + 44) 5 = nI (uq (G 4) F 0 f) := s5
                rw [uq_ne _ _ he] at s5
                exact s5
            · show ∀ k, k < uq (G 4) F nn f → M9 (f + 56) k = nI (uq wd F (fun k => (y k).toNatClampNeg) f k)
              by_cases he : f = F
              · rw [he, uq_at, uq_at]
                intro k hk
                rw [w2 k hk]
                exact (hwv k hk).1
              · rw [uq_ne _ _ he, uq_ne _ _ he]
                intro k hk
                rw [w4 (f + 56) k (by omega) (by omega)]
                have s8 : ∀ k, k < uq (G 4) F 0 f → M1 (f + 56) k = nI (wd f k) := s8
                rw [uq_ne _ _ he] at s8
                exact s8 k hk
          · rw [gs f 8 (by omega) (by omega), ← ak_g hG0 hG' (fun _ _ => rfl) (fun _ _ => rfl) f hf]
            exact q2 f hf
          · obtain ⟨t1, t2, t3, t4⟩ := q3 f hf
            exact ⟨(gs f 9 (by omega) (by omega)).trans t1, fun v e => (gs f 10 (by omega) (by omega)).trans (t2 v e), (gs f 11 (by omega) (by omega)).trans t3, (gs f 12 (by omega) (by omega)).trans t4⟩
        have hSM9 : SM M9 F G wd := p2.fr (f1 19 0 (by omega) (by omega) (by decide) (by omega)) (fun c j q1 q2 => f1 c j (by omega) (by omega) (fun e => by omega) (by omega))
        -- the reference
        have h31 : R31 (wu6 M9 31 y) y := fun i hi => wu6_at hi
        have hS31 : SM (wu6 M9 31 y) F G wd := hSM9.fr (wu6_nc (by decide)) (fun c j _ q => wu6_nc (by omega))
        have h26' : wu6 M9 31 y 19 26 = nI 0 := (wu6_nc (by decide)).trans ((f1 19 26 (by omega) (by omega) (by decide) (by omega)).trans p6)
        rcases p_out1 (x1 := nI a) (x2 := nI cf) h31 hb6 nn 0 none (by omega) (fun k' hk' => absurd hk' (Nat.not_lt_zero _)) with ⟨-, e12, o2⟩ | ⟨o1, -⟩
        · obtain ⟨M3, v1, v2, v3, v4⟩ := p_words10 (a := a) (cf := cf) (e12 := e12) hF12 hb6 nn 0 (wu6 M9 31 y) (by omega) h31 hS31.1 (fun k hk => absurd hk (Nat.not_lt_zero _))
          obtain ⟨M2, m1, m2, m3, m4, m5, m6, m7, m8⟩ := p_comes (M := st2 M3 22 F (nI nn)) (a := a) (cf := cf) (by rw [st2_nc _ (by decide)]; exact v3) hF12 hcf
          have h10 : mX10_choice [.inr (some 19), .inl (nI a), .inl (nI cf), .inl (y 0), .inl (y 1), .inl (y 2), .inl (y 3), .inl (y 4), .inl (y 5)] M9 = some (some (.inl (nI F)), M2) := by
            rw [iX10_choice, eX10_choice_0]
            show gX10_choice 50 [some (.inr (some 19)), some (.inl (nI a)), some (.inl (nI cf)), some (.inl (y 0)), some (.inl (y 1)), some (.inl (y 2)), some (.inl (y 3)), some (.inl (y 4)), some (.inl (y 5)), some (.inl (0 : Int32)), none, none, none] [] (wu6 M9 31 y) = _
            rw [L0, p_cnt10 h31 6 0 (by omega), hnn, eX10_choice_74, isNew_yes hG hS31 h26' hF12 a1 a2 a3]
            simp only [bnd1, Option.toList_some, List.cons_append, List.nil_append, eX10_choice_79]
            rw [if_neg (show ¬ nI 1 = 0 by decide), if_neg (by rw [L0, q_le (by omega) (by omega)]; omega), eX10_choice_92, L0, L1, o2, v1, m1]
            simp only [bnd1, Option.toList_some, List.cons_append, List.nil_append, eX10_choice_246]
          have f2 : ∀ c j, c ≠ 31 → (c = 20 ∨ c = 22 ∨ c = 24 ∨ c = 26 ∨ c = 28 → j ≠ F) → (c = 19 → j ≠ 0 ∧ j ≠ 29) → ¬ (c = 25 ∧ 6 * F ≤ j) → M2 c j = M9 c j := fun c j q0 q1 q2 q3 => by
            rw [m8 c j (fun e => q1 (by omega)) q2]
            have e : M3 c j = M9 c j := by rw [v4 c j q3, wu6_nc q0]
            by_cases hj : j = F
            · rw [st2_nc _ (fun e => q1 (by omega) hj)]; exact e
            · rw [st2_nj' _ hj]; exact e
          refine ⟨_, M9, M2, h9, h10, add_rr (a := a) (len := 0) (ck := 0) (cf := cf) (mn := nn) hC hH hN hF12 hG' (hX'.fr hG' (f2 1 1 (by omega) (by omega) (by omega) (by omega)) (fun c j q => f2 c j (by omega) (by omega) (by omega) (by omega))) ⟨m2, fun f hf => ?_⟩ (fun f hf => ?_) ?_ ?_ (fun c' j q1 q2 q3 q4 q5 q6 q7 => ?_) (fun f hf1 hf2 => ?_)⟩
          · by_cases he : f = F
            · subst he
              refine ⟨?_, ?_, ?_, ?_, ?_, ?_, ?_, ?_⟩
              · rw [m3]; show nI a = nI (uq (G 0) f a f); rw [uq_at]
              · rw [f2 21 f (by omega) (by omega) (by omega) (by omega), f1 21 f (by omega) (by omega) (by omega) (by omega)]; show _ = nI (uq (G 1) f 0 f); rw [uq_at]; exact uF21
              · rw [f2 23 f (by omega) (by omega) (by omega) (by omega), f1 23 f (by omega) (by omega) (by omega) (by omega)]; show _ = nI (uq (G 2) f 0 f); rw [uq_at]; exact uF23
              · rw [m4]; show nI cf = nI (uq (G 3) f cf f); rw [uq_at]
              · rw [m8 22 f (by omega) (by omega), st2_at]; show nI nn = nI (uq (G 4) f nn f); rw [uq_at]
              · rw [m5]; show _ = sI (uq (G 5) f 0 f); rw [uq_at]; rfl
              · rw [f2 27 f (by omega) (by omega) (by omega) (by omega), f1 27 f (by omega) (by omega) (by omega) (by omega)]; show _ = nI (uq (G 6) f 0 f); rw [uq_at]; exact uF27
              · show ∀ k, k < uq (G 4) f nn f → M2 25 (6 * f + k) = nI (uq wd f (fun k => (y k).toNatClampNeg) f k)
                rw [uq_at, uq_at]
                intro k hk
                rw [m8 25 _ (by omega) (by omega), st2_nc _ (by decide), v2 k hk]
                exact (hwv k hk).1
            · obtain ⟨s1, s2, s3, s4, s5, s6, s7, s8⟩ := hSM9.2 f (by omega)
              have h46 := (hG.2 f (by omega)).2.2.2.2.1
              have b : ∀ c, c ≠ 19 → c ≠ 25 → c ≠ 31 → M2 c f = M9 c f := fun c q q' q'' => f2 c f q'' (fun _ => he) (fun e => absurd e q) (fun e => q' e.1)
              show _ = nI (uq (G 0) F a f) ∧ _ = nI (uq (G 1) F 0 f) ∧ _ = nI (uq (G 2) F 0 f) ∧ _ = nI (uq (G 3) F cf f) ∧ _ = nI (uq (G 4) F nn f) ∧ _ = sI (uq (G 5) F 0 f) ∧ _ = nI (uq (G 6) F 0 f) ∧ ∀ k, k < uq (G 4) F nn f → _ = nI (uq wd F (fun k => (y k).toNatClampNeg) f k)
              simp only [uq_ne _ _ he]
              exact ⟨(b 20 (by decide) (by decide) (by decide)).trans s1, (b 21 (by decide) (by decide) (by decide)).trans s2, (b 23 (by decide) (by decide) (by decide)).trans s3, (b 24 (by decide) (by decide) (by decide)).trans s4, (b 22 (by decide) (by decide) (by decide)).trans s5, (b 26 (by decide) (by decide) (by decide)).trans s6, (b 27 (by decide) (by decide) (by decide)).trans s7, fun k hk => (f2 25 _ (by omega) (by omega) (by omega) (by omega)).trans (s8 k hk)⟩
          · by_cases he : f = F
            · subst he
              rw [uq_at, uq_at, uq_at]
              exact ⟨m6, (f2 29 f (by omega) (by omega) (by omega) (by omega)).trans ((f1 29 f (by omega) (by omega) (by omega) (by omega)).trans uF29), (f2 30 f (by omega) (by omega) (by omega) (by omega)).trans ((f1 30 f (by omega) (by omega) (by omega) (by omega)).trans uF30)⟩
            · rw [uq_ne _ _ he, uq_ne _ _ he, uq_ne _ _ he]
              obtain ⟨s1, s2, s3⟩ := p3 f (by omega)
              exact ⟨(f2 28 f (by omega) (fun _ => he) (by omega) (by omega)).trans ((f1 28 f (by omega) (by omega) (by omega) (by omega)).trans s1), (f2 29 f (by omega) (by omega) (by omega) (by omega)).trans ((f1 29 f (by omega) (by omega) (by omega) (by omega)).trans s2), (f2 30 f (by omega) (by omega) (by omega) (by omega)).trans ((f1 30 f (by omega) (by omega) (by omega) (by omega)).trans s3)⟩
          · rw [f2 4 3 (by omega) (by omega) (by omega) (by omega), w4 4 3 (by omega) (by omega), e3 4 3 (by omega) (by omega) (by omega), st2_at]; rfl
          · rw [m7]
            by_cases hz0 : F = 0
            · rw [if_pos hz0]
            · rw [if_neg hz0, st2_nc _ (by decide), v4 19 29 (by omega), wu6_nc (by decide), f1 19 29 (by omega) (by omega) (by omega) (by omega), p5, u2, if_neg hz0]; rfl
          · rw [f2 c' j q4 (by omega) q7 (by omega), f1 c' j q3 (by omega) q6 (by omega)]
          · obtain ⟨⟨k1, k2, k3, k4, k5, k6, k7, k8⟩, k9, k10, k11, k12, k13, k14⟩ := u5 f (by omega) hf2
            have gs : ∀ j, M2 (f + 44) j = M (f + 44) j := fun j => by rw [f2 (f + 44) j (by omega) (by omega) (by omega) (by omega), f1 (f + 44) j (by omega) (by omega) (by omega) (by omega)]
            have gm : ∀ c, 20 ≤ c → c ≤ 30 → c ≠ 25 → M2 c f = M c f := fun c q1 q2 q3 => by rw [f2 c f (by omega) (by omega) (by omega) (by omega), f1 c f (by omega) (by omega) (by omega) (by omega)]
            exact ⟨⟨(gs 1).trans k1, (gs 2).trans k2, (gs 5).trans k3, (gs 6).trans k4, (gs 7).trans k5, (gs 9).trans k6, (gs 11).trans k7, (gs 12).trans k8⟩, (gm 21 (by decide) (by decide) (by decide)).trans k9, (gm 22 (by decide) (by decide) (by decide)).trans k10, (gm 23 (by decide) (by decide) (by decide)).trans k11, (gm 27 (by decide) (by decide) (by decide)).trans k12, (gm 29 (by decide) (by decide) (by decide)).trans k13, (gm 30 (by decide) (by decide) (by decide)).trans k14⟩
        · exact absurd qg o1
    · exact fail (f69 0 (by omega) (Or.inr rfl) q) (Or.inr (Or.inr (Or.inr qg)))
