/-! digits. -/
theorem add_rr {M M2 : MM} {F mi P no od ne a len ck cf mn : Nat} {G wd wd' : Nat → Nat → Nat} {S : CS} {t : T2} {c w k : Nat → Nat} (hC : CR M F mi G wd S none t) (hH : HR M P c w k) (hN : NR M no od ne) (hF12 : F < 12) (hG' : GW (F + 1) (Ga G F a len ck cf mn) wd') (hX : FF M2 (F + 1) (Ga G F a len ck cf mn) wd' (uq S.1 F none) (uq S.2.1 F 0) (uq S.2.2.1 F 0)) (hSM : SM M2 (F + 1) (Ga G F a len ck cf mn) wd') (hDM : DM M2 (F + 1) (uq S.1 F none) (uq S.2.1 F 0) (uq S.2.2.1 F 0)) (h43 : M2 4 3 = nI 0) (h29 : M2 19 29 = nI 0) (hf : ∀ c' j, c' ≤ 43 → c' ≠ 1 → c' ≠ 5 → c' ≠ 31 → ¬ (20 ≤ c' ∧ c' ≤ 30) → (c' = 4 → j ≠ 3) → (c' = 19 → j ≠ 0 ∧ j ≠ 29) → M2 c' j = M c' j) (hU : ∀ f, F + 1 ≤ f → f < 12 → (M2 (f + 44) 1 = nI 0 ∧ M2 (f + 44) 2 = nI 0 ∧ M2 (f + 44) 5 = nI 0 ∧ M2 (f + 44) 6 = -nI 1 ∧ M2 (f + 44) 7 = nI 0 ∧ M2 (f + 44) 9 = nI 0 ∧ M2 (f + 44) 11 = nI 0 ∧ M2 (f + 44) 12 = nI 0) ∧ M2 21 f = nI 0 ∧ M2 22 f = nI 0 ∧ M2 23 f = nI 0 ∧ M2 27 f = nI 0 ∧ M2 29 f = nI 0 ∧ M2 30 f = nI 0) : RR M2 := by
  obtain ⟨hG, hX0, hM0, hI, hRT, hokT, r5, r6, r26, r06, r33, hmi, rt, ru⟩ := hC
  obtain ⟨vl, hb, sk, hd, ls, pl, n, st, sn, fl, wt, rf, rv, k0, k1⟩ := S
  obtain ⟨⟨i1, i2, i3, i4, i5, i6, i7, i8, i9, i10, i11⟩, iA⟩ := hI
  obtain ⟨c1, c2, c3, c4, c5, c6, c7, c8, c9, c10, c11⟩ := hX0
  obtain ⟨d1, dD, d2, d3, d4, d5, d6, d7, d8, d9, d10, d11⟩ := hM0
  obtain ⟨u1, u2, u3, u4, u5⟩ := ru rfl
  have u1 : ∀ f, f < F → vl f = none := u1
  have u3 : ls = none := u3
  have u4 : wt = 0 := u4
  have g4 : ∀ j, j ≠ 3 → M2 4 j = M 4 j := fun j q => hf 4 j (by decide) (by decide) (by decide) (by decide) (by decide) (fun _ => q) (fun e => by omega)
  have g19 : ∀ j, j ≠ 0 → j ≠ 29 → M2 19 j = M 19 j := fun j q1 q2 => hf 19 j (by decide) (by decide) (by decide) (by decide) (by decide) (fun e => by omega) (fun _ => ⟨q1, q2⟩)
  have gc : ∀ c' j, c' ≤ 43 → c' ≠ 1 → c' ≠ 4 → c' ≠ 5 → c' ≠ 19 → c' ≠ 31 → ¬ (20 ≤ c' ∧ c' ≤ 30) → M2 c' j = M c' j := fun c' j q1 q2 q3 q4 q5 q6 q7 => hf c' j q1 q2 q4 q6 q7 (fun e => absurd e q3) (fun e => absurd e q5)
  have hn : ∀ f, f < F + 1 → uq vl F none f = none := fun f hf => by
    by_cases he : f = F
    · rw [he, uq_at]
    · rw [uq_ne _ _ he]; exact u1 f (by omega)
  refine ⟨F + 1, mi, Ga G F a len ck cf mn, wd', (uq vl F none, uq hb F 0, uq sk F 0, some 0, ls, pl, n, st, sn, fl, wt, rf, rv, k0, k1), none, t, P, c, w, k, no, od, ne, ⟨hG', ?_, ?_, ⟨⟨fun f hf => ?_, fun f e => ?_, fun f e => ?_, i4, fun i hi => ?_, i6, i7, i8, i9, fun (e : wt = 1) => by omega, fun (e : wt = 2) => by omega⟩, fun f e => ?_⟩, hRT.fr (fun j => gc 11 j (by decide) (by decide) (by decide) (by decide) (by decide) (by decide) (by decide)) (fun j => gc 12 j (by decide) (by decide) (by decide) (by decide) (by decide) (by decide) (by decide)), hokT, (gc 0 5 (by decide) (by decide) (by decide) (by decide) (by decide) (by decide) (by decide)).trans r5, r6, (g19 26 (by decide) (by decide)).trans r26, (gc 0 6 (by decide) (by decide) (by decide) (by decide) (by decide) (by decide) (by decide)).trans r06, (g19 33 (by decide) (by decide)).trans r33, hmi, fun h => absurd rfl h, fun _ => ⟨hn, ?_, u3, u4, hU⟩⟩, hH.fr (fun c' j q => hf c' j (by omega) (by omega) (by omega) (by omega) (by omega) (fun e => by omega) (fun e => by omega)), hN.fr (fun j => gc 3 j (by decide) (by decide) (by decide) (by decide) (by decide) (by decide) (by decide)) (fun j q => g19 j (by omega) (by omega))⟩
  · exact ⟨hX, h43, (g4 4 (by decide)).trans c3, (gc 14 1 (by decide) (by decide) (by decide) (by decide) (by decide) (by decide) (by decide)).trans c4, fun i hi => (gc 18 i (by decide) (by decide) (by decide) (by decide) (by decide) (by decide) (by decide)).trans (c5 i hi), (g4 5 (by decide)).trans c6, (g4 6 (by decide)).trans c7, (g4 7 (by decide)).trans c8, (g4 8 (by decide)).trans c9, fun q => ⟨(g4 9 (by decide)).trans (c10 q).1, (g4 10 (by decide)).trans (c10 q).2⟩, fun q => ⟨(g4 11 (by decide)).trans (c11 q).1, (g4 12 (by decide)).trans (c11 q).2⟩⟩
  · exact ⟨hSM, hDM, h29, (g19 30 (by decide) (by decide)).trans d3, (g19 31 (by decide) (by decide)).trans d4, fun i hi => (gc 40 i (by decide) (by decide) (by decide) (by decide) (by decide) (by decide) (by decide)).trans (d5 i hi), (g19 27 (by decide) (by decide)).trans d6, (g19 28 (by decide) (by decide)).trans d7, (g19 34 (by decide) (by decide)).trans d8, (g19 32 (by decide) (by decide)).trans d9, fun q => ⟨(g19 36 (by decide) (by decide)).trans (d10 q).1, (g19 37 (by decide) (by decide)).trans (d10 q).2⟩, fun q => ⟨⟨(gc 41 0 (by decide) (by decide) (by decide) (by decide) (by decide) (by decide) (by decide)).trans (d11 q).1.1, (gc 42 0 (by decide) (by decide) (by decide) (by decide) (by decide) (by decide) (by decide)).trans (d11 q).1.2⟩, (gc 41 1 (by decide) (by decide) (by decide) (by decide) (by decide) (by decide) (by decide)).trans (d11 q).2.1, (gc 42 1 (by decide) (by decide) (by decide) (by decide) (by decide) (by decide) (by decide)).trans (d11 q).2.2⟩⟩
  · by_cases he : f = F
    · rw [he, uq_at, uq_at, uq_at]
      exact ⟨Nat.zero_le _, Nat.zero_le _, fun v e => (by cases e), fun _ => rfl⟩
    · obtain ⟨j1, j2, j3, j4⟩ := i1 f (by omega)
      rw [uq_ne _ _ he, uq_ne _ _ he]
      refine ⟨j1, j2, fun v e => ?_, fun _ => j4 (u1 f (by omega))⟩
      rw [hn f hf] at e; cases e
  · cases e; omega
  · rw [u3] at e; cases e
  · have := i5 i hi; omega
  · have e : some 0 = some f := e
    cases e
    have h0 : Ga G F a len ck cf mn 5 0 = 0 := by
      have := (hG'.2 0 (by omega)).2.2.2.2.2.2.2.1
      omega
    show ak _ _ 0 = 1
    rw [ak_eq hG' _ (show 0 < F + 1 by omega), if_pos h0]
  · show some 0 = if F + 1 = 0 then none else some 0
    rw [if_neg (by omega)]
theorem CR.parts {M : MM} {F mi : Nat} {G wd : Nat → Nat → Nat} {S : CS} {t : T2} (hC : CR M F mi G wd S none t) : FF M F G wd S.1 S.2.1 S.2.2.1 ∧ SM M F G wd ∧ DM M F S.1 S.2.1 S.2.2.1 ∧ UN M F S ∧ M 19 29 = oI (hdS S) ∧ M 19 26 = nI 0 ∧ M 0 5 = oI none := by
  obtain ⟨hG, hX0, hM0, hI, hRT, hokT, r5, r6, r26, r06, r33, hmi, rt, ru⟩ := hC
  obtain ⟨vl, hb, sk, hd, ls, pl, n, st, sn, fl, wt, rf, rv, k0, k1⟩ := S
  exact ⟨hX0.1, hM0.1, hM0.2.1, ru rfl, hM0.2.2.1, r26, r5⟩
theorem c_digits {M : MM} (h : RR M) (x1 x2 : Int32) {b3 b4 : Int32} (h3 : b3 = 0 ∨ b3 = 1) (h4 : b4 = 0 ∨ b4 = 1) : OKc M (mX9_digits [.inr (some 0), .inl x1, .inl x2, .inl b3, .inl b4]) (mX10_digits [.inr (some 19), .inl x1, .inl x2, .inl b3, .inl b4]) := by
  have hR := h
  obtain ⟨F, mi, G, wd, S, la, t, P, c, w, k, no, od, ne, hC, hH, hN⟩ := h
  obtain ⟨hG, hX0, hM0, hI, hRT, hokT, r5, r6, r26, r06, r33, hmi, rt, ru⟩ := id hC
  have stay : mX9_digits [.inr (some 0), .inl x1, .inl x2, .inl b3, .inl b4] M = some (some (.inl (-nI 1)), M) → mX10_digits [.inr (some 19), .inl x1, .inl x2, .inl b3, .inl b4] M = some (some (.inl (-nI 1)), M) → OKc M (mX9_digits [.inr (some 0), .inl x1, .inl x2, .inl b3, .inl b4]) (mX10_digits [.inr (some 19), .inl x1, .inl x2, .inl b3, .inl b4]) := fun p q => ⟨_, M, M, p, q, hR⟩
  have hSX : SX M F G wd := (KX_hd hX0).2.2.2
  have hSM : SM M F G wd := (KM_hd hM0).2.2.2.1
  have no10 : ∀ y, y ≤ 1 → M 19 26 = nI y → (y = 1 ∨ ¬ okN F G x1) → mX10_digits [.inr (some 19), .inl x1, .inl x2, .inl b3, .inl b4] M = some (some (.inl (-nI 1)), M) := fun y hy e hq => by
    rw [iX10_digits, eX10_digits_0, isNew_no hG hSM e hy hq]
    simp only [bnd1, Option.toList_some, List.cons_append, List.nil_append, eX10_digits_5]
    rw [if_pos (show nI 0 = 0 from rfl)]
    rfl
  cases la with
  | some a =>
    have ha := r6 a rfl
    have e1 : ¬ oI (some a) = (-1 : Int32) := by
      show ¬ nI a = (-1 : Int32)
      rw [L1, q_m1e (by omega)]
      exact fun h => h
    refine stay ?_ (no10 1 (Nat.le_refl _) r26 (Or.inl rfl))
    rw [iX9_digits, eX9_digits_0, r5, if_neg e1]
    rfl
  | none =>
    by_cases hn : okN F G x1
    · obtain ⟨hF12, a, rfl, a1, a2, a3⟩ := hn
      have y10 := isNew_yes hG hSM r26 hF12 a1 a2 a3
      have y9 := canName_yes hG hSX hF12 a1 a2 a3
      by_cases l1 : x2 < nI 1
      · refine stay ?_ ?_
        · rw [iX9_digits, eX9_digits_0, r5, if_pos (show oI none = (-1 : Int32) from rfl), y9]
          simp only [bnd1, Option.toList_some, List.cons_append, List.nil_append, eX9_digits_16]
          rw [if_neg (show ¬ nI 1 = 0 by decide), L1, if_pos l1]
        · rw [iX10_digits, eX10_digits_0, y10]
          simp only [bnd1, Option.toList_some, List.cons_append, List.nil_append, eX10_digits_5]
          rw [if_neg (show ¬ nI 1 = 0 by decide), L1, L8, p_isIn_out (Or.inl l1)]
          simp only [bnd1, Option.toList_some, List.cons_append, List.nil_append, eX10_digits_15]
          rw [if_pos (show nI 0 = 0 from rfl)]
          rfl
      · have h0 : ¬ x2 < 0 := fun h => l1 (by
          rw [Int32.lt_iff_toInt_lt] at h ⊢
          have : (nI 1).toInt = 1 := nI_toInt (by omega)
          have h00 : (0 : Int32).toInt = 0 := rfl
          omega)
        obtain ⟨l, hl, rfl⟩ := nI_of h0
        have l1' : 1 ≤ l := by rw [q_lt (by omega) (by omega)] at l1; omega
        by_cases l8 : l ≤ 8
        · -- a field more
          obtain ⟨ck, hck, rfl⟩ : ∃ ck, ck ≤ 1 ∧ b3 = nI ck := by
            rcases h3 with rfl | rfl
            · exact ⟨0, by omega, rfl⟩
            · exact ⟨1, by omega, rfl⟩
          obtain ⟨cf, hcf, rfl⟩ : ∃ cf, cf ≤ 1 ∧ b4 = nI cf := by
            rcases h4 with rfl | rfl
            · exact ⟨0, by omega, rfl⟩
            · exact ⟨1, by omega, rfl⟩
          obtain ⟨p1, p2, p3, p4, p5, p6, p7⟩ := hC.parts
          obtain ⟨u1, u2, u3, u4, u5⟩ := p4
          obtain ⟨uF9, uF21, uF22, uF23, uF27, uF29, uF30⟩ := u5 F (Nat.le_refl _) hF12
          have hz := zkd_slot hF12
          have hG' : GW (F + 1) (Ga G F a l ck cf 0) wd := GW_add hG hF12 ⟨a1, a2⟩ l8 hck hcf (by omega) (fun e => by omega) (fun _ => rfl) (fun _ _ => rfl) (fun k hk => absurd hk (Nat.not_lt_zero _))
          have hG0 : GW (F + 1) (Ga G F a 0 0 cf 0) wd := GW_add hG hF12 ⟨a1, a2⟩ (by omega) (by omega) hcf (by omega) (fun _ => rfl) (fun _ => rfl) (fun _ _ => rfl) (fun k hk => absurd hk (Nat.not_lt_zero _))
          have g43 : ∀ c j, (c = 4 → j ≠ 3) → st2 M 4 3 (0 : Int32) c j = M c j := fun c j q => by
            by_cases hc : c = 4
            · exact st2_nj' _ (q hc)
            · exact st2_nc _ hc
          have hFF0 : FF (st2 M 4 3 (0 : Int32)) F G wd S.1 S.2.1 S.2.2.1 := p1.fr hG (g43 1 1 (by decide)) (fun c j q => g43 c j (fun e => by omega))
          have hU9 : U9 (st2 M 4 3 (0 : Int32)) F := by
            obtain ⟨k1, k2, k3, k4, k5, k6, k7, k8⟩ := uF9
            have gs : ∀ j, st2 M 4 3 (0 : Int32) (F + 44) j = M (F + 44) j := fun j => g43 _ j (fun e => by omega)
            exact ⟨(gs 1).trans k1, (gs 2).trans k2, (gs 5).trans k3, (gs 6).trans k4, (gs 7).trans k5, (gs 9).trans k6, (gs 11).trans k7, (gs 12).trans k8⟩
          obtain ⟨M1, e1, e2, e3⟩ := p_addSlot (cf := cf) hG hFF0 hF12 a1 a2 a3 hcf u1 hU9
          have h01 : nI ck = 0 ∨ nI ck = 1 := by
            rcases (show ck = 0 ∨ ck = 1 by omega) with rfl | rfl
            · exact Or.inl rfl
            · exact Or.inr rfl
          have hsl : mX1_slotAt [.inr (some 1), .inl (nI F)] M1 = some (some (.inr (some (F + 44))), M1) := p_slotAt (o := some F) (F := F + 1) (by omega) e2.1.1 (fun g e => by cases e; omega)
          have h9 : mX9_digits [.inr (some 0), .inl (nI a), .inl (nI l), .inl (nI ck), .inl (nI cf)] M = some (some (.inl (nI F)), st2 (st2 M1 (F + 44) 1 (nI l)) (F + 44) 2 (nI ck)) := by
            rw [iX9_digits, eX9_digits_0, r5, if_pos (show oI none = (-1 : Int32) from rfl), y9]
            simp only [bnd1, Option.toList_some, List.cons_append, List.nil_append, eX9_digits_16]
            rw [if_neg (show ¬ nI 1 = 0 by decide), L1, if_neg l1, if_pos (by rw [L8]; exact nI_le l8 (by omega)), iX1_addDigits, eX1_addDigits_0, e1]
            simp only [bnd1, Option.toList_some, List.cons_append, List.nil_append, eX1_addDigits_7]
            rw [hsl]
            simp only [bnd1, Option.toList_some, List.cons_append, List.nil_append, eX1_addDigits_15]
            rw [if_pos hz, if_pos hz, if_pos h01]
            simp only [bnd1, Option.toList_some, List.cons_append, List.nil_append, eX9_digits_52]
          have f1 : ∀ c j, ¬ (c = 1 ∧ j = 1) → (c = 4 → j ≠ 3) → c ≤ 43 ∨ 45 + F ≤ c → st2 (st2 M1 (F + 44) 1 (nI l)) (F + 44) 2 (nI ck) c j = M c j := fun c j q1 q2 q3 => by
            rw [st2_nc _ (by omega), st2_nc _ (by omega), e3 c j q1 (by omega) (by omega), g43 c j q2]
          have hX' : FF (st2 (st2 M1 (F + 44) 1 (nI l)) (F + 44) 2 (nI ck)) (F + 1) (Ga G F a l ck cf 0) wd (uq S.1 F none) (uq S.2.1 F 0) (uq S.2.2.1 F 0) := by
            obtain ⟨q1, q2, q3⟩ := e2
            refine ⟨⟨by rw [st2_nc _ (by omega), st2_nc _ (by omega)]; exact q1.1, fun f hf => ?_⟩, fun f hf => ?_, fun f hf => ?_⟩
            · obtain ⟨s1, s2, s3, s4, s5, s6, s7, s8⟩ := q1.2 f hf
              by_cases he : f = F
              · subst he
                refine ⟨?_, ?_, ?_, ?_, ?_, ?_, ?_, fun k hk => ?_⟩
                · rw [st2_nj' _ (by decide), st2_nj' _ (by decide)]; exact s1
                · rw [st2_nj' _ (by decide), st2_at]; show nI l = nI (uq (G 1) f l f); rw [uq_at]
                · rw [st2_at]; show nI ck = nI (uq (G 2) f ck f); rw [uq_at]
                · rw [st2_nj' _ (by decide), st2_nj' _ (by decide)]; exact s4
                · rw [st2_nj' _ (by decide), st2_nj' _ (by decide)]; exact s5
                · rw [st2_nj' _ (by decide), st2_nj' _ (by decide)]; exact s6
                · rw [st2_nj' _ (by decide), st2_nj' _ (by decide)]; exact s7
                · rw [st2_nc _ (by omega), st2_nc _ (by omega)]; exact s8 k hk
              · have hc : f + 44 ≠ F + 44 := by omega
                have gs : ∀ j, st2 (st2 M1 (F + 44) 1 (nI l)) (F + 44) 2 (nI ck) (f + 44) j = M1 (f + 44) j := fun j => by rw [st2_nc _ hc, st2_nc _ hc]
                have b1 : Ga G F a l ck cf 0 1 f = Ga G F a 0 0 cf 0 1 f := by show uq (G 1) F l f = uq (G 1) F 0 f; rw [uq_ne _ _ he, uq_ne _ _ he]
                have b2 : Ga G F a l ck cf 0 2 f = Ga G F a 0 0 cf 0 2 f := by show uq (G 2) F ck f = uq (G 2) F 0 f; rw [uq_ne _ _ he, uq_ne _ _ he]
                rw [b1, b2]
                exact ⟨(gs 0).trans s1, (gs 1).trans s2, (gs 2).trans s3, (gs 3).trans s4, (gs 5).trans s5, (gs 6).trans s6, (gs 7).trans s7, fun k hk => by rw [st2_nc _ (by omega), st2_nc _ (by omega)]; exact s8 k hk⟩
            · rw [st2_nj' _ (by decide), st2_nj' _ (by decide), ← ak_g hG0 hG' (fun _ _ => rfl) (fun _ _ => rfl) f hf]
              exact q2 f hf
            · obtain ⟨t1, t2, t3, t4⟩ := q3 f hf
              refine ⟨?_, fun v e => ?_, ?_, ?_⟩
              · rw [st2_nj' _ (by decide), st2_nj' _ (by decide)]; exact t1
              · rw [st2_nj' _ (by decide), st2_nj' _ (by decide)]; exact t2 v e
              · rw [st2_nj' _ (by decide), st2_nj' _ (by decide)]; exact t3
              · rw [st2_nj' _ (by decide), st2_nj' _ (by decide)]; exact t4
          generalize hM9 : st2 (st2 M1 (F + 44) 1 (nI l)) (F + 44) 2 (nI ck) = M9 at h9 f1 hX'
          have hSM9 : SM M9 F G wd := p2.fr (f1 19 0 (by omega) (by decide) (by omega)) (fun c j q1 q2 => f1 c j (by omega) (fun e => by omega) (by omega))
          have h026 : M9 19 26 = nI 0 := (f1 19 26 (by omega) (by decide) (by omega)).trans p6
          have gF := gI (c := F) (N := 12) hF12 (by omega)
          have hcl := q_cl (show F < 2147483648 by omega)
          have e190 : st2 (st2 M9 21 F (nI l)) 23 F (nI ck) 19 0 = nI F := by rw [st2_nc _ (by decide), st2_nc _ (by decide)]; exact hSM9.1
          obtain ⟨M2, m1, m2, m3, m4, m5, m6, m7, m8⟩ := p_comes (a := a) (cf := cf) e190 hF12 hcf
          have h10 : mX10_digits [.inr (some 19), .inl (nI a), .inl (nI l), .inl (nI ck), .inl (nI cf)] M9 = some (some (.inl (nI F)), M2) := by
            rw [iX10_digits, eX10_digits_0, isNew_yes hG hSM9 h026 hF12 a1 a2 a3]
            simp only [bnd1, Option.toList_some, List.cons_append, List.nil_append, eX10_digits_5]
            rw [if_neg (show ¬ nI 1 = 0 by decide), L1, L8, p_isIn_in l1' l8 (by omega)]
            simp only [bnd1, Option.toList_some, List.cons_append, List.nil_append, eX10_digits_15]
            rw [if_neg (show ¬ nI 1 = 0 by decide), hSM9.1, hcl, if_neg gF, st2_nc _ (by decide), hSM9.1, hcl, if_neg gF, if_pos h01, m1]
            simp only [bnd1, Option.toList_some, List.cons_append, List.nil_append, eX10_digits_47]
          have f2 : ∀ c j, (c = 20 ∨ c = 21 ∨ c = 23 ∨ c = 24 ∨ c = 26 ∨ c = 28 → j ≠ F) → (c = 19 → j ≠ 0 ∧ j ≠ 29) → M2 c j = M9 c j := fun c j q1 q2 => by
            rw [m8 c j (fun e => q1 (by omega)) q2]
            by_cases hj : j = F
            · rw [st2_nc _ (fun e => q1 (by omega) hj), st2_nc _ (fun e => q1 (by omega) hj)]
            · rw [st2_nj' _ hj, st2_nj' _ hj]
          refine ⟨_, M9, M2, h9, h10, add_rr (a := a) (len := l) (ck := ck) (cf := cf) (mn := 0) hC hH hN hF12 hG' (hX'.fr hG' (f2 1 1 (by omega) (by omega)) (fun c j q => f2 c j (by omega) (by omega))) ⟨m2, fun f hf => ?_⟩ (fun f hf => ?_) ?_ ?_ (fun c' j q1 q2 q3 q4 q5 q6 q7 => ?_) (fun f hf1 hf2 => ?_)⟩
          · by_cases he : f = F
            · subst he
              refine ⟨?_, ?_, ?_, ?_, ?_, ?_, ?_, fun k hk => ?_⟩
              · rw [m3]; show nI a = nI (uq (G 0) f a f); rw [uq_at]
              · rw [m8 21 f (by omega) (by omega), st2_nc _ (by decide), st2_at]; show nI l = nI (uq (G 1) f l f); rw [uq_at]
              · rw [m8 23 f (by omega) (by omega), st2_at]; show nI ck = nI (uq (G 2) f ck f); rw [uq_at]
              · rw [m4]; show nI cf = nI (uq (G 3) f cf f); rw [uq_at]
              · rw [f2 22 f (by omega) (by omega), f1 22 f (by omega) (by omega) (by omega)]; show _ = nI (uq (G 4) f 0 f); rw [uq_at]; exact uF22
              · rw [m5]; show _ = sI (uq (G 5) f 0 f); rw [uq_at]; rfl
              · rw [f2 27 f (by omega) (by omega), f1 27 f (by omega) (by omega) (by omega)]; show _ = nI (uq (G 6) f 0 f); rw [uq_at]; exact uF27
              · have hk : k < uq (G 4) f 0 f := hk
                rw [uq_at] at hk; omega
            · obtain ⟨s1, s2, s3, s4, s5, s6, s7, s8⟩ := hSM9.2 f (by omega)
              have b : ∀ c, c ≠ 19 → M2 c f = M9 c f := fun c q => f2 c f (fun _ => he) (fun e => absurd e q)
              show _ = nI (uq (G 0) F a f) ∧ _ = nI (uq (G 1) F l f) ∧ _ = nI (uq (G 2) F ck f) ∧ _ = nI (uq (G 3) F cf f) ∧ _ = nI (uq (G 4) F 0 f) ∧ _ = sI (uq (G 5) F 0 f) ∧ _ = nI (uq (G 6) F 0 f) ∧ ∀ k, k < uq (G 4) F 0 f → _ = nI (wd f k)
              simp only [uq_ne _ _ he]
              exact ⟨(b 20 (by decide)).trans s1, (b 21 (by decide)).trans s2, (b 23 (by decide)).trans s3, (b 24 (by decide)).trans s4, (b 22 (by decide)).trans s5, (b 26 (by decide)).trans s6, (b 27 (by decide)).trans s7, fun k hk => (f2 25 _ (by omega) (by omega)).trans (s8 k hk)⟩
          · by_cases he : f = F
            · subst he
              rw [uq_at, uq_at, uq_at]
              exact ⟨m6, (f2 29 f (by omega) (by omega)).trans ((f1 29 f (by omega) (by omega) (by omega)).trans uF29), (f2 30 f (by omega) (by omega)).trans ((f1 30 f (by omega) (by omega) (by omega)).trans uF30)⟩
            · rw [uq_ne _ _ he, uq_ne _ _ he, uq_ne _ _ he]
              obtain ⟨s1, s2, s3⟩ := p3 f (by omega)
              exact ⟨(f2 28 f (fun _ => he) (by omega)).trans ((f1 28 f (by omega) (by omega) (by omega)).trans s1), (f2 29 f (by omega) (by omega)).trans ((f1 29 f (by omega) (by omega) (by omega)).trans s2), (f2 30 f (by omega) (by omega)).trans ((f1 30 f (by omega) (by omega) (by omega)).trans s3)⟩
          · rw [f2 4 3 (by omega) (by omega), ← hM9, st2_nc _ (by omega), st2_nc _ (by omega), e3 4 3 (by omega) (by omega) (by omega), st2_at]; rfl
          · rw [m7]
            by_cases hz0 : F = 0
            · rw [if_pos hz0]
            · rw [if_neg hz0, st2_nc _ (by decide), st2_nc _ (by decide), f1 19 29 (by omega) (by omega) (by omega), p5, u2, if_neg hz0]; rfl
          · rw [f2 c' j (by omega) q7, f1 c' j (by omega) q6 (by omega)]
          · obtain ⟨⟨k1, k2, k3, k4, k5, k6, k7, k8⟩, k9, k10, k11, k12, k13, k14⟩ := u5 f (by omega) hf2
            have gs : ∀ j, M2 (f + 44) j = M (f + 44) j := fun j => by rw [f2 (f + 44) j (by omega) (by omega), f1 (f + 44) j (by omega) (by omega) (by omega)]
            have gm : ∀ c, 20 ≤ c → c ≤ 30 → M2 c f = M c f := fun c q1 q2 => by rw [f2 c f (by omega) (by omega), f1 c f (by omega) (by omega) (by omega)]
            exact ⟨⟨(gs 1).trans k1, (gs 2).trans k2, (gs 5).trans k3, (gs 6).trans k4, (gs 7).trans k5, (gs 9).trans k6, (gs 11).trans k7, (gs 12).trans k8⟩, (gm 21 (by decide) (by decide)).trans k9, (gm 22 (by decide) (by decide)).trans k10, (gm 23 (by decide) (by decide)).trans k11, (gm 27 (by decide) (by decide)).trans k12, (gm 29 (by decide) (by decide)).trans k13, (gm 30 (by decide) (by decide)).trans k14⟩
        · refine stay ?_ ?_
          · rw [iX9_digits, eX9_digits_0, r5, if_pos (show oI none = (-1 : Int32) from rfl), y9]
            simp only [bnd1, Option.toList_some, List.cons_append, List.nil_append, eX9_digits_16]
            rw [if_neg (show ¬ nI 1 = 0 by decide), L1, if_neg l1, if_neg (by rw [L8, q_le (by omega) (by omega)]; exact l8)]
          · rw [iX10_digits, eX10_digits_0, y10]
            simp only [bnd1, Option.toList_some, List.cons_append, List.nil_append, eX10_digits_5]
            rw [if_neg (show ¬ nI 1 = 0 by decide), L1, L8, p_isIn_out (Or.inr (by rw [q_lt (by omega) (by omega)]; omega))]
            simp only [bnd1, Option.toList_some, List.cons_append, List.nil_append, eX10_digits_15]
            rw [if_pos (show nI 0 = 0 from rfl)]
            rfl
    · refine stay ?_ (no10 0 (by omega) r26 (Or.inr hn))
      rw [iX9_digits, eX9_digits_0, r5, if_pos (show oI none = (-1 : Int32) from rfl), canName_no hG hSX hn]
      simp only [bnd1, Option.toList_some, List.cons_append, List.nil_append, eX9_digits_16]
      rw [if_pos (show nI 0 = 0 from rfl)]
      rfl
