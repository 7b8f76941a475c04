/-! needs. -/
def nvalid (F : Nat) (G : Nat → Nat → Nat) (x1 x2 x3 : Int32) : Prop := ∃ f o v, x1 = nI f ∧ x2 = nI o ∧ x3 = nI v ∧ o < f ∧ f < F ∧ v < G 4 o
theorem slotAt_out {M : MM} {F : Nat} (h1 : M 1 1 = nI F) {x : Int32} (hx : x < 0 ∨ ∃ j, j < 2147483648 ∧ F ≤ j ∧ x = nI j) : mX1_slotAt [.inr (some 1), .inl x] M = some (some (.inr none), M) := by
  rw [iX1_slotAt, eX1_slotAt_0]
  by_cases h : x < 0
  · rw [if_pos h]
  · obtain ⟨j, hj, hjF, rfl⟩ := hx.resolve_left h
    rw [if_neg h, h1, if_pos (nI_le hjF hj)]
theorem x_cases (F : Nat) (x : Int32) : (∃ f, f < F ∧ x = nI f) ∨ (x < 0 ∨ ∃ j, j < 2147483648 ∧ F ≤ j ∧ x = nI j) := by
  by_cases h : x < 0
  · exact Or.inr (Or.inl h)
  · obtain ⟨j, hj, rfl⟩ := nI_of h
    by_cases hjF : j < F
    · exact Or.inl ⟨j, hjF, rfl⟩
    · exact Or.inr (Or.inr ⟨j, hj, by omega, rfl⟩)
theorem isIn_s {M : MM} {n : Nat} {x : Int32} (hx : x < 0 ∨ ∃ j, j < 2147483648 ∧ n ≤ j ∧ x = nI j) : mX10_isIn [.inl x, .inl (nI 0), .inl (sI n)] M = some (some (.inl (nI 0)), M) := by
  refine p_isIn_out ?_
  rcases hx with h | ⟨j, hj, hn, rfl⟩
  · exact Or.inl (by rw [← L0]; exact h)
  · refine Or.inr ?_
    cases n with
    | zero => show -nI 1 < nI j; rw [q_m1lt (by omega)]; trivial
    | succ q => show nI q < nI j; rw [q_lt (by omega) (by omega)]; omega
theorem isIn_in_s {M : MM} {n j : Nat} (h : j < n) (hn : n ≤ 100) : mX10_isIn [.inl (nI j), .inl (nI 0), .inl (sI n)] M = some (some (.inl (nI 1)), M) := by
  obtain ⟨q, rfl⟩ : ∃ q, n = q + 1 := ⟨n - 1, by omega⟩
  exact p_isIn_in (Nat.zero_le _) (by omega) (by omega)
theorem needs9_no {M : MM} {F : Nat} {G wd : Nat → Nat → Nat} {x1 x2 x3 : Int32} (hG : GW F G wd) (hS : SX M F G wd) (hn : ¬ nvalid F G x1 x2 x3) : mX1_addNeed [.inr (some 1), .inl x1, .inl x2, .inl x3] M = some (some (.inl (nI 0)), M) := by
  have hF := hG.1
  have hb : ∃ r : Option Nat, mX1_slotAt [.inr (some 1), .inl x2] M = some (some (.inr r), M) ∧ ((r = none ∧ ∀ f, f < F → x2 ≠ nI f) ∨ ∃ o, o < F ∧ x2 = nI o ∧ r = some (o + 44)) := by
    rcases x_cases F x2 with ⟨o, ho, rfl⟩ | hx
    · exact ⟨_, p_slotAt (o := some o) hF hS.1 (fun g e => by cases e; exact ho), Or.inr ⟨o, ho, rfl, rfl⟩⟩
    · refine ⟨none, slotAt_out hS.1 hx, Or.inl ⟨rfl, fun f hf e => ?_⟩⟩
      subst e
      rcases hx with h | ⟨j, hj, hjF, e⟩
      · rw [L0, q_lt (by omega) (by omega)] at h; omega
      · rw [q_eq (by omega) (by omega)] at e; omega
  obtain ⟨r, hr, hr2⟩ := hb
  rw [iX1_addNeed, eX1_addNeed_0]
  rcases x_cases F x1 with ⟨f, hf, rfl⟩ | hx
  · have hsl : mX1_slotAt [.inr (some 1), .inl (nI f)] M = some (some (.inr (some (f + 44))), M) := p_slotAt (o := some f) hF hS.1 (fun g e => by cases e; exact hf)
    rw [hsl]
    simp only [bnd1, Option.toList_some, List.cons_append, List.nil_append, eX1_addNeed_5]
    rw [hr]
    simp only [bnd1, Option.toList_some, List.cons_append, List.nil_append, eX1_addNeed_12]
    rcases hr2 with ⟨rfl, -⟩ | ⟨o, ho, rfl, rfl⟩
    · rfl
    · dsimp only
      have hz := zkd_slot (i := o) (by omega)
      by_cases h1 : f ≤ o
      · rw [if_pos (nI_le h1 (by omega))]
        rfl
      · rw [if_neg (by rw [q_le (by omega) (by omega)]; exact h1)]
        by_cases h3 : x3 < 0
        · rw [if_pos h3]; rfl
        · obtain ⟨v, hv, rfl⟩ := nI_of h3
          have h4 := (hG.2 o ho).2.2.2.2.1
          rw [if_neg h3, if_pos hz, (hS.2 o ho).2.2.2.2.1]
          by_cases hv4 : v < G 4 o
          · exact absurd ⟨f, o, v, rfl, rfl, rfl, by omega, hf, hv4⟩ hn
          · rw [if_neg (by rw [q_lt hv (by omega)]; exact hv4)]
            rfl
  · rw [slotAt_out hS.1 hx]
    simp only [bnd1, Option.toList_some, List.cons_append, List.nil_append, eX1_addNeed_5]
    rw [hr]
    simp only [bnd1, Option.toList_some, List.cons_append, List.nil_append, eX1_addNeed_12]
    rfl
theorem needs10_no {M : MM} {F : Nat} {G wd : Nat → Nat → Nat} {x1 x2 x3 : Int32} (hG : GW F G wd) (hS : SM M F G wd) (hn : ¬ nvalid F G x1 x2 x3) : mX10_needs [.inr (some 19), .inl x1, .inl x2, .inl x3] M = some (some (.inl (nI 0)), M) := by
  have hF := hG.1
  rw [iX10_needs, eX10_needs_0, iX10_isField, eX10_isField_0, hS.1, L0, L1, sI_sub]
  rcases x_cases F x1 with ⟨f, hf, rfl⟩ | hx
  · rw [isIn_in_s hf (by omega)]
    simp only [bnd1, Option.toList_some, List.cons_append, List.nil_append, eX10_isField_11]
    rw [if_pos (show nI 1 = 0 ∨ nI 1 = 1 from Or.inr rfl)]
    simp only [bnd1, Option.toList_some, List.cons_append, List.nil_append, eX10_needs_5]
    rw [if_neg (show ¬ nI 1 = 0 by decide), L0, L1, sI_sub]
    rcases x_cases f x2 with ⟨o, ho, rfl⟩ | hx2
    · have h4 := (hG.2 o (by omega)).2.2.2.2.1
      have e4 := (hS.2 o (by omega)).2.2.2.2.1
      have go := gI (c := o) (N := 12) (by omega) (by omega)
      rw [isIn_in_s ho (by omega)]
      simp only [bnd1, Option.toList_some, List.cons_append, List.nil_append, eX10_needs_16]
      rw [if_neg (show ¬ nI 1 = 0 by decide), q_cl (show o < 2147483648 by omega), if_neg go, e4, if_neg go, L0, L1, sI_sub]
      by_cases hg : G 4 o = 0
      · rw [if_pos (by rw [hg])]
      · rw [if_neg (by rw [q_eq (by omega) (by omega)]; exact hg)]
        have hx3 : x3 < 0 ∨ ∃ j, j < 2147483648 ∧ G 4 o ≤ j ∧ x3 = nI j := by
          rcases x_cases (G 4 o) x3 with ⟨v, hv, rfl⟩ | h
          · exact absurd ⟨f, o, v, rfl, rfl, rfl, ho, hf, hv⟩ hn
          · exact h
        rw [isIn_s hx3]
        simp only [bnd1, Option.toList_some, List.cons_append, List.nil_append, eX10_needs_41]
        rw [if_pos (show nI 0 = 0 from rfl)]
        rfl
    · rw [isIn_s hx2]
      simp only [bnd1, Option.toList_some, List.cons_append, List.nil_append, eX10_needs_16]
      rw [if_pos (show nI 0 = 0 from rfl)]
      rfl
  · rw [isIn_s hx]
    simp only [bnd1, Option.toList_some, List.cons_append, List.nil_append, eX10_isField_11]
    rw [if_pos (show nI 0 = 0 ∨ nI 0 = 1 from Or.inl rfl)]
    simp only [bnd1, Option.toList_some, List.cons_append, List.nil_append, eX10_needs_5]
    rw [if_pos (show nI 0 = 0 from rfl)]
    rfl
theorem needs10_yes {M : MM} {F f o v : Nat} {G wd : Nat → Nat → Nat} (hG : GW F G wd) (hS : SM M F G wd) (ho : o < f) (hf : f < F) (hv : v < G 4 o) : mX10_needs [.inr (some 19), .inl (nI f), .inl (nI o), .inl (nI v)] M = if M 19 26 = 0 then some (some (.inl (nI 1)), st2 (st2 M 26 f (nI o)) 27 f (nI v)) else some (some (.inl (nI 0)), M) := by
  have hF := hG.1
  have h4 := (hG.2 o (by omega)).2.2.2.2.1
  have e4 := (hS.2 o (by omega)).2.2.2.2.1
  have go := gI (c := o) (N := 12) (by omega) (by omega)
  have gf := gI (c := f) (N := 12) (by omega) (by omega)
  rw [iX10_needs, eX10_needs_0, p_isField_in hF hS.1 hf]
  simp only [bnd1, Option.toList_some, List.cons_append, List.nil_append, eX10_needs_5]
  rw [if_neg (show ¬ nI 1 = 0 by decide), L0, L1, sI_sub, isIn_in_s ho (by omega)]
  simp only [bnd1, Option.toList_some, List.cons_append, List.nil_append, eX10_needs_16]
  rw [if_neg (show ¬ nI 1 = 0 by decide), q_cl (show o < 2147483648 by omega), if_neg go, e4, if_neg go, L0, L1, sI_sub, if_neg (by rw [q_eq (by omega) (by omega)]; omega), isIn_in_s hv (by omega)]
  simp only [bnd1, Option.toList_some, List.cons_append, List.nil_append, eX10_needs_41]
  rw [if_neg (show ¬ nI 1 = 0 by decide), q_cl (show f < 2147483648 by omega), if_neg gf, if_neg gf]
  rfl
theorem fll_none {G : Nat → Nat → Nat} : ∀ m f (S : FS), (∀ g, f ≤ g → g < f + m → S.1 g = none) → fll G m f S = S := by
  intro m
  induction m with
  | zero => intro f S _; rfl
  | succ m ih =>
    intro f S h
    show (if S.1 f ≠ none ∧ ak G S.1 f = 0 then _ else fll G m (f + 1) S) = S
    rw [if_neg (fun e => e.1 (h f (Nat.le_refl _) (by omega)))]
    exact ih (f + 1) S (fun g a b => h g (by omega) (by omega))
/-- the class's needs are reckoned anew, while nothing was said -/
theorem p_reckon0 {M : MM} {F : Nat} {G wd : Nat → Nat → Nat} {vl : Nat → Option Nat} {hb sk : Nat → Nat} (hG : GW F G wd) (hS : SX M F G wd) (hD : DX M F vl hb sk) (hn : ∀ g, g < F → vl g = none) : ∃ M' : MM, mX1_reckonNeeds [.inr (some 1)] M = some (some (.inl (nI 0)), M') ∧ FF M' F G wd vl hb sk ∧ ∀ c j, c ≤ 43 ∨ (j ≠ 8 ∧ j ≠ 9 ∧ j ≠ 11) ∨ 44 + F ≤ c → M' c j = M c j := by
  obtain ⟨M', a1, a2, a3, a4⟩ := p_reckon (sk := sk) hG F 0 M (vl, hb, 0) none (by omega) hS (fun g hg => absurd hg (Nat.not_lt_zero _)) hD (fun g v hg e => by dsimp only at e; rw [hn g hg] at e; cases e)
  have e : fll G F 0 (vl, hb, 0) = (vl, hb, 0) := fll_none F 0 (vl, hb, 0) (fun g _ hg => hn g (by omega))
  rw [e] at a1 a2 a3
  refine ⟨M', ?_, ⟨hS.fr (a4 1 1 (by omega)) (fun c j q1 q2 => a4 c j (by omega)) hG, a2, a3⟩, a4⟩
  rw [iX1_reckonNeeds, eX1_reckonNeeds_0, L0]
  exact a1
/-- the form with one more need -/
def Gn (G : Nat → Nat → Nat) (f o v : Nat) : Nat → Nat → Nat := fun j => if j = 5 then uq (G 5) f (o + 1) else if j = 6 then uq (G 6) f v else G j
theorem c_needs {M : MM} (h : RR M) (x1 x2 x3 : Int32) : OKc M (mX9_needs [.inr (some 0), .inl x1, .inl x2, .inl x3]) (mX10_needs [.inr (some 19), .inl x1, .inl x2, .inl x3]) := by
  have hR := h
  obtain ⟨F, mi, G, wd, S, la, t, P, c, w, k, no, od, ne, hC, hH, hN⟩ := h
  obtain ⟨hG, hX, hM, hI, hRT, hokT, r5, r6, r26, r06, r33, hmi, rt, ru⟩ := id hC
  obtain ⟨vl, hb, sk, hd, ls, pl, n, st, sn, fl, wt, rf, rv, k0, k1⟩ := S
  obtain ⟨⟨i1, i2, i3, i4, i5, i6, i7, i8, i9, i10, i11⟩, iA⟩ := id hI
  obtain ⟨c1, c2, c3, c4, c5, c6, c7, c8, c9, c10, c11⟩ := id hX
  obtain ⟨d1, dD, d2, d3, d4, d5, d6, d7, d8, d9, d10, d11⟩ := id hM
  have hF := hG.1
  have hv0 : nI (hv none) = 0 := rfl
  have hv1 : ∀ a : Nat, ¬ nI (hv (some a)) = 0 := fun a => by show ¬ nI 1 = 0; decide
  have stay : ∀ a : Int32, mX9_needs [.inr (some 0), .inl x1, .inl x2, .inl x3] M = some (some (.inl a), M) → mX10_needs [.inr (some 19), .inl x1, .inl x2, .inl x3] M = some (some (.inl a), M) → OKc M (mX9_needs [.inr (some 0), .inl x1, .inl x2, .inl x3]) (mX10_needs [.inr (some 19), .inl x1, .inl x2, .inl x3]) := fun a p q => ⟨a, M, M, p, q, hR⟩
  cases la with
  | some a =>
    have ha := r6 a rfl
    have e1 : ¬ oI (some a) = (-1 : Int32) := by
      show ¬ nI a = (-1 : Int32)
      rw [L1, q_m1e (by omega)]
      exact fun h => h
    refine stay (nI 0) ?_ ?_
    · rw [iX9_needs, eX9_needs_0, r5, if_neg e1, L0]
    · by_cases hv : nvalid F G x1 x2 x3
      · obtain ⟨f, o, v, rfl, rfl, rfl, ho, hf, hv⟩ := hv
        rw [needs10_yes hG d1 ho hf hv, r26, if_neg (hv1 a)]
      · exact needs10_no hG d1 hv
  | none =>
    by_cases hv : nvalid F G x1 x2 x3
    · obtain ⟨f, o, v, rfl, rfl, rfl, ho, hf, hv⟩ := hv
      obtain ⟨u1, u2, u3, u4, u5⟩ := ru rfl
      have u1 : ∀ f, f < F → vl f = none := u1
      have u2 : hd = (if F = 0 then none else some 0) := u2
      have u3 : ls = none := u3
      have u4 : wt = 0 := u4
      have hz := zkd_slot (i := f) (by omega)
      have hzo := zkd_slot (i := o) (by omega)
      have h4 := (hG.2 o (by omega)).2.2.2.2.1
      have gj : ∀ j, j ≠ 5 → j ≠ 6 → Gn G f o v j = G j := fun j q1 q2 => by show (if j = 5 then _ else if j = 6 then _ else G j) = G j; rw [if_neg q1, if_neg q2]
      have g5 : Gn G f o v 5 = uq (G 5) f (o + 1) := rfl
      have g6 : Gn G f o v 6 = uq (G 6) f v := rfl
      have g0 := gj 0 (by decide) (by decide)
      have g1 := gj 1 (by decide) (by decide)
      have g2 := gj 2 (by decide) (by decide)
      have g3 := gj 3 (by decide) (by decide)
      have g4 := gj 4 (by decide) (by decide)
      have hG' : GW F (Gn G f o v) wd := by
        refine ⟨hF, fun g hg => ?_⟩
        obtain ⟨b1, b2, b3, b4, b5, b6, b7, b8, b9, b10⟩ := hG.2 g hg
        rw [g0, g1, g2, g3, g4, g5, g6]
        refine ⟨b1, b2, b3, b4, b5, b6, b7, ?_, ?_, b10⟩
        · by_cases he : g = f
          · rw [he, uq_at, uq_at]
            exact Or.inr ⟨by omega, by show v < G 4 (o + 1 - 1); rw [Nat.add_sub_cancel]; exact hv⟩
          · rw [uq_ne _ _ he, uq_ne _ _ he]; exact b8
        · by_cases he : g = f
          · rw [he, uq_at]; omega
          · rw [uq_ne _ _ he]; exact b9
      -- the class
      have hfrs : ∀ c j, c ≠ f + 44 → st2 (st2 M (f + 44) 6 (nI o)) (f + 44) 7 (nI v) c j = M c j := fun c j q => by rw [st2_nc _ q, st2_nc _ q]
      have hS' : SX (st2 (st2 M (f + 44) 6 (nI o)) (f + 44) 7 (nI v)) F (Gn G f o v) wd := by
        refine ⟨(hfrs 1 1 (by omega)).trans c1.1.1, fun g hg => ?_⟩
        obtain ⟨a1, a2, a3, a4, a5, a6, a7, a8⟩ := c1.1.2 g hg
        rw [g0, g1, g2, g3, g4, g5, g6]
        have hw : ∀ k, k < G 4 g → st2 (st2 M (f + 44) 6 (nI o)) (f + 44) 7 (nI v) (g + 56) k = nI (wd g k) := fun k hk => (hfrs _ _ (by omega)).trans (a8 k hk)
        by_cases he : g = f
        · subst he
          rw [uq_at, uq_at]
          refine ⟨?_, ?_, ?_, ?_, ?_, ?_, by rw [st2_at], hw⟩
          · rw [st2_nj' _ (by decide), st2_nj' _ (by decide)]; exact a1
          · rw [st2_nj' _ (by decide), st2_nj' _ (by decide)]; exact a2
          · rw [st2_nj' _ (by decide), st2_nj' _ (by decide)]; exact a3
          · rw [st2_nj' _ (by decide), st2_nj' _ (by decide)]; exact a4
          · rw [st2_nj' _ (by decide), st2_nj' _ (by decide)]; exact a5
          · rw [st2_nj' _ (by decide), st2_at]; rfl
        · rw [uq_ne _ _ he, uq_ne _ _ he]
          have hc : g + 44 ≠ f + 44 := by omega
          exact ⟨(hfrs _ _ hc).trans a1, (hfrs _ _ hc).trans a2, (hfrs _ _ hc).trans a3, (hfrs _ _ hc).trans a4, (hfrs _ _ hc).trans a5, (hfrs _ _ hc).trans a6, (hfrs _ _ hc).trans a7, hw⟩
      have hD' : DX (st2 (st2 M (f + 44) 6 (nI o)) (f + 44) 7 (nI v)) F vl hb sk := fun g hg => by
        obtain ⟨q1, q2, q3, q4⟩ := c1.2.2 g hg
        refine ⟨?_, fun u e => ?_, ?_, ?_⟩
        · rw [st2_nj' _ (by decide), st2_nj' _ (by decide)]; exact q1
        · rw [st2_nj' _ (by decide), st2_nj' _ (by decide)]; exact q2 u e
        · rw [st2_nj' _ (by decide), st2_nj' _ (by decide)]; exact q3
        · rw [st2_nj' _ (by decide), st2_nj' _ (by decide)]; exact q4
      obtain ⟨M1, b1, b2, b3⟩ := p_reckon0 hG' hS' hD' u1
      have h9 : mX9_needs [.inr (some 0), .inl (nI f), .inl (nI o), .inl (nI v)] M = some (some (.inl (nI 1)), M1) := by
        have hsf : mX1_slotAt [.inr (some 1), .inl (nI f)] M = some (some (.inr (some (f + 44))), M) := p_slotAt (o := some f) hF c1.1.1 (fun g e => by cases e; exact hf)
        have hso : mX1_slotAt [.inr (some 1), .inl (nI o)] M = some (some (.inr (some (o + 44))), M) := p_slotAt (o := some o) hF c1.1.1 (fun g e => by cases e; omega)
        rw [iX9_needs, eX9_needs_0, r5, if_pos (show oI none = (-1 : Int32) from rfl), iX1_addNeed, eX1_addNeed_0, hsf]
        simp only [bnd1, Option.toList_some, List.cons_append, List.nil_append, eX1_addNeed_5]
        rw [hso]
        simp only [bnd1, Option.toList_some, List.cons_append, List.nil_append, eX1_addNeed_12]
        rw [if_neg (by rw [q_le (by omega) (by omega)]; omega), if_neg (by rw [L0, q_lt (by omega) (by omega)]; omega), if_pos hzo, (c1.1.2 o (by omega)).2.2.2.2.1, if_pos (by rw [q_lt (by omega) (by omega)]; exact hv), if_pos hz, if_pos hz, b1]
        simp only [bnd1, Option.toList_some, List.cons_append, List.nil_append, eX1_addNeed_60]
        simp only [bnd1, Option.toList_some, List.cons_append, List.nil_append, eX9_needs_18]
        rw [if_neg (by decide)]
        rfl
      have g9 : ∀ c j, c ≠ f + 44 → (c ≤ 43 ∨ (j ≠ 8 ∧ j ≠ 9 ∧ j ≠ 11) ∨ 44 + F ≤ c) → M1 c j = M c j := fun c j q1 q2 => by rw [b3 c j q2, hfrs c j q1]
      have hM1 : KM M1 F G wd (vl, hb, sk, hd, ls, pl, n, st, sn, fl, wt, rf, rv, k0, k1) := hM.fr (fun c j q1 q2 _ _ => g9 c j (by omega) (by omega))
      have h10 := needs10_yes hG hM1.1 ho hf hv
      rw [g9 19 26 (by omega) (by omega), r26, if_pos hv0] at h10
      have g10 : ∀ c j, c ≠ 26 → c ≠ 27 → st2 (st2 M1 26 f (nI o)) 27 f (nI v) c j = M1 c j := fun c j q1 q2 => by rw [st2_nc _ q2, st2_nc _ q1]
      have gg : ∀ c j, c ≠ 26 → c ≠ 27 → c ≤ 43 → st2 (st2 M1 26 f (nI o)) 27 f (nI v) c j = M c j := fun c j q1 q2 q3 => by rw [g10 c j q1 q2, g9 c j (by omega) (by omega)]
      have hX' : KX (st2 (st2 M1 26 f (nI o)) 27 f (nI v)) F (Gn G f o v) wd (vl, hb, sk, hd, ls, pl, n, st, sn, fl, wt, rf, rv, k0, k1) := ⟨b2.fr hG' (g10 1 1 (by decide) (by decide)) (fun c j q => g10 c j (by omega) (by omega)), (gg 4 3 (by decide) (by decide) (by decide)).trans c2, (gg 4 4 (by decide) (by decide) (by decide)).trans c3, (gg 14 1 (by decide) (by decide) (by decide)).trans c4, fun i hi => (gg 18 i (by decide) (by decide) (by decide)).trans (c5 i hi), (gg 4 5 (by decide) (by decide) (by decide)).trans c6, (gg 4 6 (by decide) (by decide) (by decide)).trans c7, (gg 4 7 (by decide) (by decide) (by decide)).trans c8, (gg 4 8 (by decide) (by decide) (by decide)).trans c9, fun q => ⟨(gg 4 9 (by decide) (by decide) (by decide)).trans (c10 q).1, (gg 4 10 (by decide) (by decide) (by decide)).trans (c10 q).2⟩, fun q => ⟨(gg 4 11 (by decide) (by decide) (by decide)).trans (c11 q).1, (gg 4 12 (by decide) (by decide) (by decide)).trans (c11 q).2⟩⟩
      have hSM' : SM (st2 (st2 M1 26 f (nI o)) 27 f (nI v)) F (Gn G f o v) wd := by
        refine ⟨(gg 19 0 (by decide) (by decide) (by decide)).trans d1.1, fun g hg => ?_⟩
        obtain ⟨a1, a2, a3, a4, a5, a6, a7, a8⟩ := d1.2 g hg
        rw [g0, g1, g2, g3, g4, g5, g6]
        refine ⟨(gg _ _ (by decide) (by decide) (by decide)).trans a1, (gg _ _ (by decide) (by decide) (by decide)).trans a2, (gg _ _ (by decide) (by decide) (by decide)).trans a3, (gg _ _ (by decide) (by decide) (by decide)).trans a4, (gg _ _ (by decide) (by decide) (by decide)).trans a5, ?_, ?_, fun k hk => (gg _ _ (by decide) (by decide) (by decide)).trans (a8 k hk)⟩
        · rw [st2_nc _ (by decide)]
          by_cases he : g = f
          · rw [he, st2_at, uq_at]; rfl
          · rw [st2_nj' _ he, uq_ne _ _ he, g9 26 g (by omega) (by omega)]; exact a6
        · by_cases he : g = f
          · rw [he, st2_at, uq_at]
          · rw [st2_nj' _ he, uq_ne _ _ he, st2_nc _ (by decide), g9 27 g (by omega) (by omega)]; exact a7
      have hM' : KM (st2 (st2 M1 26 f (nI o)) 27 f (nI v)) F (Gn G f o v) wd (vl, hb, sk, hd, ls, pl, n, st, sn, fl, wt, rf, rv, k0, k1) := ⟨hSM', dD.fr (fun c j q1 q2 => gg c j (by omega) (by omega) (by omega)), (gg 19 29 (by decide) (by decide) (by decide)).trans d2, (gg 19 30 (by decide) (by decide) (by decide)).trans d3, (gg 19 31 (by decide) (by decide) (by decide)).trans d4, fun i hi => (gg 40 i (by decide) (by decide) (by decide)).trans (d5 i hi), (gg 19 27 (by decide) (by decide) (by decide)).trans d6, (gg 19 28 (by decide) (by decide) (by decide)).trans d7, (gg 19 34 (by decide) (by decide) (by decide)).trans d8, (gg 19 32 (by decide) (by decide) (by decide)).trans d9, fun h => ⟨(gg 19 36 (by decide) (by decide) (by decide)).trans (d10 h).1, (gg 19 37 (by decide) (by decide) (by decide)).trans (d10 h).2⟩, fun h => ⟨⟨(gg 41 0 (by decide) (by decide) (by decide)).trans (d11 h).1.1, (gg 42 0 (by decide) (by decide) (by decide)).trans (d11 h).1.2⟩, (gg 41 1 (by decide) (by decide) (by decide)).trans (d11 h).2.1, (gg 42 1 (by decide) (by decide) (by decide)).trans (d11 h).2.2⟩⟩
      have hak0 : ak (Gn G f o v) vl 0 = 1 := by
        have h0 : Gn G f o v 5 0 = 0 := by
          have := (hG'.2 0 (by omega)).2.2.2.2.2.2.2.1
          omega
        rw [ak_eq hG' vl (show 0 < F by omega), if_pos h0]
      have hI' : IV F (Gn G f o v) (vl, hb, sk, hd, ls, pl, n, st, sn, fl, wt, rf, rv, k0, k1) := by
        refine ⟨⟨fun g hg => ?_, i2, fun g e => (by rw [u3] at e; cases e), i4, i5, i6, i7, i8, i9, fun (e : wt = 1) => (by omega), fun (e : wt = 2) => (by omega)⟩, fun g e => ?_⟩
        · obtain ⟨j1, j2, j3, j4⟩ := i1 g hg
          exact ⟨j1, j2, fun u e => (by rw [u1 g hg] at e; cases e), j4⟩
        · have e : hd = some g := e
          rw [u2, if_neg (by omega)] at e
          cases e
          exact hak0
      refine ⟨_, M1, _, h9, h10, F, mi, Gn G f o v, wd, (vl, hb, sk, hd, ls, pl, n, st, sn, fl, wt, rf, rv, k0, k1), none, t, P, c, w, k, no, od, ne, ⟨hG', hX', hM', hI', hRT.fr (fun j => gg 11 j (by decide) (by decide) (by decide)) (fun j => gg 12 j (by decide) (by decide) (by decide)), hokT, (gg 0 5 (by decide) (by decide) (by decide)).trans r5, r6, (gg 19 26 (by decide) (by decide) (by decide)).trans r26, (gg 0 6 (by decide) (by decide) (by decide)).trans r06, (gg 19 33 (by decide) (by decide) (by decide)).trans r33, hmi, fun hl => absurd rfl hl, fun _ => ⟨u1, u2, u3, u4, fun g hg1 hg2 => ?_⟩⟩, hH.fr (fun c j q => gg c j (by omega) (by omega) (by omega)), hN.fr (fun j => gg 3 j (by decide) (by decide) (by decide)) (fun j q => gg 19 j (by decide) (by decide) (by decide))⟩
      obtain ⟨⟨k1, k2, k3, k4, k5, k6, k7, k8⟩, k9, k10, k11, k12, k13, k14⟩ := u5 g hg1 hg2
      have hne : g + 44 ≠ f + 44 := by omega
      have gs : ∀ j, st2 (st2 M1 26 f (nI o)) 27 f (nI v) (g + 44) j = M (g + 44) j := fun j => by rw [g10 (g + 44) j (by omega) (by omega), g9 (g + 44) j hne (by omega)]
      refine ⟨⟨(gs 1).trans k1, (gs 2).trans k2, (gs 5).trans k3, (gs 6).trans k4, (gs 7).trans k5, (gs 9).trans k6, (gs 11).trans k7, (gs 12).trans k8⟩, (gg 21 g (by decide) (by decide) (by decide)).trans k9, (gg 22 g (by decide) (by decide) (by decide)).trans k10, (gg 23 g (by decide) (by decide) (by decide)).trans k11, ?_, (gg 29 g (by decide) (by decide) (by decide)).trans k13, (gg 30 g (by decide) (by decide) (by decide)).trans k14⟩
      rw [st2_nj' _ (by omega), st2_nc _ (by decide), g9 27 g (by omega) (by omega)]
      exact k12
    · refine stay (nI 0) ?_ (needs10_no hG d1 hv)
      rw [iX9_needs, eX9_needs_0, r5, if_pos (show oI none = (-1 : Int32) from rfl), needs9_no hG c1.1 hv]
      simp only [bnd1, Option.toList_some, List.cons_append, List.nil_append, eX9_needs_18]
      rw [if_pos (show nI 0 = 0 from rfl)]
      rfl
