/-! field, hearBack, send. -/
theorem slot_cases {M : MM} {F : Nat} (hF : F ≤ 12) (h1 : M 1 1 = nI F) (h0 : M 19 0 = nI F) (x : Int32) : (∃ f, f < F ∧ x = nI f) ∨ (mX1_slotAt [.inr (some 1), .inl x] M = some (some (.inr none), M) ∧ ∀ M' : MM, M' 19 0 = nI F → mX10_isField [.inr (some 19), .inl x] M' = some (some (.inl (nI 0)), M')) := by
  by_cases hx : x < 0
  · refine Or.inr ⟨?_, fun M' e => ?_⟩
    · rw [iX1_slotAt, eX1_slotAt_0, if_pos hx]
    · rw [iX10_isField, eX10_isField_0, e, L0, p_isIn_out (Or.inl (by rw [← L0]; exact hx))]
      simp only [bnd1, Option.toList_some, List.cons_append, List.nil_append, eX10_isField_11]
      rw [if_pos (show nI 0 = 0 ∨ nI 0 = 1 from Or.inl rfl)]
  · obtain ⟨j, hj, rfl⟩ := nI_of hx
    by_cases hjF : j < F
    · exact Or.inl ⟨j, hjF, rfl⟩
    · refine Or.inr ⟨?_, fun M' e => ?_⟩
      · rw [iX1_slotAt, eX1_slotAt_0, if_neg hx, h1, if_pos (nI_le (show F ≤ j by omega) hj)]
      · rw [iX10_isField, eX10_isField_0, e, L0, L1, sI_sub, p_isIn_out (Or.inr (by
          cases F with
          | zero => show -nI 1 < nI j; rw [q_m1lt (by omega)]; trivial
          | succ q => show nI q < nI j; rw [q_lt (by omega) (by omega)]; omega))]
        simp only [bnd1, Option.toList_some, List.cons_append, List.nil_append, eX10_isField_11]
        rw [if_pos (show nI 0 = 0 ∨ nI 0 = 1 from Or.inl rfl)]
theorem p_isField_in {M : MM} {F f : Nat} (hF : F ≤ 12) (h0 : M 19 0 = nI F) (hf : f < F) : mX10_isField [.inr (some 19), .inl (nI f)] M = some (some (.inl (nI 1)), M) := by
  rw [iX10_isField, eX10_isField_0, h0, L0, L1, q_sub (by omega), p_isIn_in (Nat.zero_le _) (by omega) (by omega)]
  simp only [bnd1, Option.toList_some, List.cons_append, List.nil_append, eX10_isField_11]
  rw [if_pos (show nI 1 = 0 ∨ nI 1 = 1 from Or.inr rfl)]
theorem c_field {M : MM} (h : RR M) (x y : Int32) : OKc M (mX9_field [.inr (some 0), .inl x, .inl y]) (mX10_field [.inr (some 19), .inl x, .inl y]) := by
  have hR := h
  obtain ⟨F, mi, G, wd, S, la, t, P, c, w, k, no, od, ne, hC, hH, hN⟩ := h
  obtain ⟨hG, hX, hM, hI, hRT, hokT, r5, r6, r26, r06, r33, hmi, rt, ru⟩ := id hC
  obtain ⟨vl, hb, sk, hd, ls, pl, n, st, sn, fl, wt, rf, rv, k0, k1⟩ := S
  obtain ⟨⟨i1, i2, i3, i4, i5, i6, i7, i8, i9, i10, i11⟩, iA⟩ := id hI
  obtain ⟨c1, c2, c3, c4, c5, c6, c7, c8, c9, c10, c11⟩ := id hX
  obtain ⟨d1, dD, d2, d3, d4, d5, d6, d7, d8, d9, d10, d11⟩ := id hM
  have hF := hG.1
  have hV := VM_of d1 dD (fun g v hg e => ((i1 g hg).2.2.1 v e).1)
  have stay : ∀ a : Int32, mX9_field [.inr (some 0), .inl x, .inl y] M = some (some (.inl a), M) → mX10_field [.inr (some 19), .inl x, .inl y] M = some (some (.inl a), M) → OKc M (mX9_field [.inr (some 0), .inl x, .inl y]) (mX10_field [.inr (some 19), .inl x, .inl y]) := fun a p q => ⟨a, M, M, p, q, hR⟩
  rcases slot_cases hF c1.1.1 d1.1 x with ⟨f, hf, rfl⟩ | ⟨e1, e2⟩
  · have hz := zkd_slot (i := f) (by omega)
    have gf := gI (c := f) (N := 12) (by omega) (by omega)
    have hsl : mX1_slotAt [.inr (some 1), .inl (nI f)] M = some (some (.inr (some (f + 44))), M) := p_slotAt (o := some f) hF c1.1.1 (fun g e => by cases e; exact hf)
    obtain ⟨s1, s2, s3, s4, s5, s6, s7, s8⟩ := c1.1.2 f hf
    obtain ⟨m1, m2, m3, m4, m5, m6, m7, m8⟩ := d1.2 f hf
    obtain ⟨q1, q2, q3, q4⟩ := c1.2.2 f hf
    obtain ⟨p1, p2, p3⟩ := dD f hf
    obtain ⟨j1, j2, j3, j4⟩ := i1 f hf
    have hal := ak_le G vl f
    have h9 : mX9_field [.inr (some 0), .inl (nI f), .inl y] M = gX9_field 8 [some (.inr (some 0)), some (.inl (nI f)), some (.inl y), none] [.inr (some (f + 44))] M := by
      rw [iX9_field, eX9_field_0, hsl]
      simp only [bnd1, Option.toList_some, List.cons_append, List.nil_append]
    have h10 : mX10_field [.inr (some 19), .inl (nI f), .inl y] M = gX10_field 5 [some (.inr (some 19)), some (.inl (nI f)), some (.inl y)] [.inl (nI 1)] M := by
      rw [iX10_field, eX10_field_0, p_isField_in hF d1.1 hf]
      simp only [bnd1, Option.toList_some, List.cons_append, List.nil_append]
    rw [eX9_field_8] at h9
    dsimp only at h9
    rw [eX10_field_5, if_neg (show ¬ nI 1 = 0 by decide), q_cl (show f < 2147483648 by omega)] at h10
    have hone : ∀ (a pc : Nat), a < 2147483648 → (mX9_oneIf [.inl (nI a)] M).bind (fun r => gX9_field pc [some (.inr (some 0)), some (.inl (nI f)), some (.inl y), some (.inr (some (f + 44)))] (r.1.toList ++ []) r.2) = gX9_field pc [some (.inr (some 0)), some (.inl (nI f)), some (.inl y), some (.inr (some (f + 44)))] [.inl (nI (if a = 0 then 0 else 1))] M := fun a pc ha => by
      rw [p_oneIf ha]
      simp only [bnd1, Option.toList_some, List.cons_append, List.nil_append]
    by_cases y0 : y = 0
    · rw [if_pos y0, if_pos hz, s1] at h9
      rw [if_pos y0, if_neg gf, m1] at h10
      exact stay _ h9 h10
    rw [if_neg y0] at h9 h10
    by_cases y1 : y = 1
    · rw [if_pos y1, if_pos hz, s2] at h9
      rw [if_pos y1, if_neg gf, m2] at h10
      exact stay _ h9 h10
    rw [if_neg y1] at h9 h10
    by_cases y2 : y = 2
    · rw [if_pos y2, if_pos hz, s5] at h9
      rw [if_pos y2, if_neg gf, m5] at h10
      exact stay _ h9 h10
    rw [if_neg y2] at h9 h10
    by_cases y3 : y = 3
    · rw [if_pos y3, if_pos hz, c1.2.1 f hf, hone _ 86 (by omega), eX9_field_86] at h9
      rw [if_pos y3, p_isAsked hG hV hf] at h10
      simp only [bnd1, Option.toList_some, List.cons_append, List.nil_append, eX10_field_82] at h10
      refine stay _ h9 (h10.trans ?_)
      rcases (show ak G vl f = 0 ∨ ak G vl f = 1 by omega) with e | e
      · rw [e]; rfl
      · rw [e]; rfl
    rw [if_neg y3] at h9 h10
    by_cases y4 : y = 4
    · rw [if_pos y4, if_pos hz, q1, hone _ 94 (by unfold hv; split <;> omega), eX9_field_94] at h9
      rw [if_pos y4, if_neg gf, p1] at h10
      refine stay _ h9 (h10.trans ?_)
      cases hx : vl f with
      | none => rfl
      | some v =>
        have := (j3 v hx).1
        rw [if_neg (show ¬ oI (some v) < 0 by show ¬ nI v < 0; rw [L0, q_lt (by omega) (by omega)]; omega)]
        rfl
    rw [if_neg y4] at h9 h10
    by_cases y5 : y = 5
    · have e0 : (0 : Int32) = nI 0 := rfl
      have o0 := hone 0 117 (by omega)
      have o1 := hone 1 117 (by omega)
      rw [if_pos rfl] at o0
      rw [if_neg (by decide)] at o1
      rw [if_pos y5, if_pos hz, q1, if_pos hz, q3] at h9
      rw [if_pos y5, if_neg gf, p2] at h10
      cases hx : vl f with
      | none =>
        rw [hx, if_pos (show nI (hv none) = 0 from rfl)] at h9
        rw [j4 hx, if_pos (show nI 0 = 0 from rfl)] at h10
        refine stay _ (h9.trans ?_) h10
        refine o0.trans ?_
        rw [eX9_field_117]
        rfl
      | some v =>
        rw [hx, if_neg (show ¬ nI (hv (some v)) = 0 by show ¬ nI 1 = 0; decide)] at h9
        by_cases hb0 : hb f = 0
        · rw [hb0, if_pos (show nI 0 = 0 from rfl)] at h9 h10
          refine stay _ (h9.trans ?_) h10
          refine o0.trans ?_
          rw [eX9_field_117]
          rfl
        · rw [show hb f = 1 by omega, if_neg (show ¬ nI 1 = 0 by decide)] at h9 h10
          refine stay _ (h9.trans ?_) h10
          refine o1.trans ?_
          rw [eX9_field_117]
          rfl
    rw [if_neg y5] at h9 h10
    by_cases y6 : y = 6
    · rw [if_pos y6, if_pos hz, q4, hone _ 125 (by omega), eX9_field_125] at h9
      rw [if_pos y6, if_neg gf, p3] at h10
      refine stay _ h9 (h10.trans ?_)
      rcases (show sk f = 0 ∨ sk f = 1 by omega) with e | e
      · rw [e]; rfl
      · rw [e]; rfl
    rw [if_neg y6] at h9 h10
    by_cases y7 : y = 7
    · rw [if_pos y7, if_pos hz, q1, if_pos hz] at h9
      rw [if_pos y7, if_neg gf, p1] at h10
      refine stay _ (h9.trans ?_) h10
      cases hx : vl f with
      | none => rfl
      | some v =>
        rw [if_neg (show ¬ nI (hv (some v)) = 0 by show ¬ nI 1 = 0; decide), q2 v hx]
        rfl
    rw [if_neg y7] at h9 h10
    exact stay _ h9 h10
  · refine stay (-nI 1) ?_ ?_
    · rw [iX9_field, eX9_field_0, e1]
      simp only [bnd1, Option.toList_some, List.cons_append, List.nil_append, eX9_field_8]
      rfl
    · rw [iX10_field, eX10_field_0, e2 M d1.1]
      simp only [bnd1, Option.toList_some, List.cons_append, List.nil_append, eX10_field_5]
      rw [if_pos (show nI 0 = 0 from rfl)]
      rfl
