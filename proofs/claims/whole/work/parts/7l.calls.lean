/-! send, needs. -/
theorem c_send {M : MM} (h : RR M) : OKc M (mX9_send [.inr (some 0)]) (mX10_send [.inr (some 19)]) := by
  have hR := h
  obtain ⟨F, mi, G, wd, S, la, t, P, c, w, k, no, od, ne, hC, hH, hN⟩ := h
  obtain ⟨hG, hX, hM, hI, hRT, hokT, r5, r6, r26, r06, r33, hmi, rt, ru⟩ := id hC
  obtain ⟨vl, hb, sk, hd, ls, pl, n, st, sn, fl, wt, rf, rv, k0, k1⟩ := S
  obtain ⟨⟨i1, i2, i3, i4, i5, i6, i7, i8, i9, i10, i11⟩, iA⟩ := id hI
  obtain ⟨c1, c2, c3, c4, c5, c6, c7, c8, c9, c10, c11⟩ := id hX
  have hF := hG.1
  have hco := cO_le G vl F 0
  have hcu := cU_le vl hb F 0
  have stay : ∀ a : Int32, mX9_send [.inr (some 0)] M = some (some (.inl a), M) → mX10_send [.inr (some 19)] M = some (some (.inl a), M) → OKc M (mX9_send [.inr (some 0)]) (mX10_send [.inr (some 19)]) := fun a p q => ⟨a, M, M, p, q, hR⟩
  by_cases hsn : sn = 0
  · -- the reference's walk
    have walk : ∀ M1 : MM, KM M1 F G wd (vl, hb, sk, hd, ls, pl, n, st, sn, fl, wt, rf, rv, k0, k1) → mX10_send [.inr (some 19)] M1 = if cO G vl F 0 = 0 ∧ cU vl hb F 0 = 0 then some (some (.inl (nI 1)), st2 M1 19 28 (nI 1)) else some (some (.inl (nI 0)), M1) := by
      intro M1 hM1
      obtain ⟨d1, dD, d2, d3, d4, d5, d6, d7, d8, d9, d10, d11⟩ := id hM1
      have hV := VM_of d1 dD (fun g v hg e => ((i1 g hg).2.2.1 v e).1)
      have loop : ∀ m i, i + m = F → gX10_send 11 [some (.inr (some 19)), some (.inl (nI i))] [] M1 = if cO G vl m i = 0 ∧ cU vl hb m i = 0 then some (some (.inl (nI 1)), st2 M1 19 28 (nI 1)) else some (some (.inl (nI 0)), M1) := by
        intro m
        induction m with
        | zero =>
          intro i hi
          rw [eX10_send_11, d1.1, if_pos (nI_le (show F ≤ i by omega) (by omega)), if_pos ⟨rfl, rfl⟩, L1]
        | succ m ih =>
          intro i hi
          have gi := gI (c := i) (N := 12) (by omega) (by omega)
          obtain ⟨q1, q2, q3⟩ := dD i (by omega)
          obtain ⟨j1, j2, j3, j4⟩ := i1 i (by omega)
          have hal := ak_le G vl i
          have e1 : cO G vl (m + 1) i = (if ak G vl i = 1 ∧ vl i = none then 1 else 0) + cO G vl m (i + 1) := rfl
          have e2 : cU vl hb (m + 1) i = (if vl i ≠ none ∧ hb i = 0 then 1 else 0) + cU vl hb m (i + 1) := rfl
          rw [eX10_send_11, d1.1, if_neg (by rw [q_le (by omega) (by omega)]; omega), p_isAsked hG hV (by omega)]
          simp only [bnd1, Option.toList_some, List.cons_append, List.nil_append, eX10_send_24]
          rw [q_cl (show i < 2147483648 by omega), if_neg gi, q1, if_neg gi, q2, L1, q_add, ih (i + 1) (by omega), e1, e2]
          cases hx : vl i with
          | none =>
            rw [if_neg (fun e : (none : Option Nat) ≠ none ∧ hb i = 0 => e.1 rfl)]
            by_cases h1 : ak G vl i = 1
            · rw [h1, if_neg (show ¬ nI 1 = 0 by decide), if_pos (show oI none < 0 by decide), if_pos (show (1 : Nat) = 1 ∧ (none : Option Nat) = none from ⟨rfl, rfl⟩), if_neg (show ¬ (1 + cO G vl m (i + 1) = 0 ∧ 0 + cU vl hb m (i + 1) = 0) from fun e => by omega)]
              rfl
            · rw [show ak G vl i = 0 by omega, if_pos (show nI 0 = 0 from rfl), if_neg (show ¬ ((0 : Nat) = 1 ∧ (none : Option Nat) = none) from fun e => by omega), Nat.zero_add, Nat.zero_add]
          | some v =>
            obtain ⟨v8, vak⟩ := j3 v hx
            rw [vak, if_neg (show ¬ nI 1 = 0 by decide), if_neg (show ¬ oI (some v) < 0 by show ¬ nI v < 0; rw [L0, q_lt (by omega) (by omega)]; omega), if_neg (show ¬ ((1 : Nat) = 1 ∧ some v = none) from fun e => by cases e.2)]
            by_cases hb0 : hb i = 0
            · rw [if_pos (by rw [hb0]; rfl), if_pos (show some v ≠ none ∧ hb i = 0 from ⟨fun e => (by cases e), hb0⟩), if_neg (show ¬ (0 + cO G vl m (i + 1) = 0 ∧ 1 + cU vl hb m (i + 1) = 0) from fun e => by omega)]
              rfl
            · rw [if_neg (by rw [L0, q_eq (by omega) (by omega)]; exact hb0), if_neg (show ¬ (some v ≠ none ∧ hb i = 0) from fun e => hb0 e.2), Nat.zero_add, Nat.zero_add]
      rw [iX10_send, eX10_send_0, d7, hsn, if_pos (show nI 0 = 0 from rfl), L0]
      exact loop F 0 (by omega)
    have h9 : mX9_send [.inr (some 0)] M = if cO G vl F 0 = 0 ∧ cU vl hb F 0 = 0 then some (some (.inl (nI 1)), st2 M 4 6 (nI 1)) else some (some (.inl (nI 0)), M) := by
      rw [iX9_send, eX9_send_0, c7, hsn, if_pos (show nI 0 = 0 from rfl), p_countOpen hG c1]
      simp only [bnd1, Option.toList_some, List.cons_append, List.nil_append, eX9_send_17]
      rw [p_countUnheard hG c1 i1]
      simp only [bnd1, Option.toList_some, List.cons_append, List.nil_append, eX9_send_27]
      rw [L0, L1]
      by_cases h1 : cO G vl F 0 = 0
      · rw [if_neg (by rw [q_lt (by omega) (by omega)]; omega)]
        by_cases h2 : cU vl hb F 0 = 0
        · rw [if_pos (by rw [h2]; exact nI_le (Nat.le_refl 0) (by omega)), if_pos ⟨h1, h2⟩]
        · rw [if_neg (by rw [q_le (by omega) (by omega)]; omega), if_neg (fun e => h2 e.2)]
      · rw [if_pos (by rw [q_lt (by omega) (by omega)]; omega), if_neg (fun e => h1 e.1)]
    by_cases hc : cO G vl F 0 = 0 ∧ cU vl hb F 0 = 0
    · rw [if_pos hc] at h9
      have g : ∀ c j, (c = 4 → j ≠ 6) → st2 M 4 6 (nI 1) c j = M c j := fun c j q => by
        by_cases hc : c = 4
        · exact st2_nj' _ (q hc)
        · exact st2_nc _ hc
      have hM1 : KM (st2 M 4 6 (nI 1)) F G wd (vl, hb, sk, hd, ls, pl, n, st, sn, fl, wt, rf, rv, k0, k1) := hM.fr (fun c j q1 q2 q3 q4 => g c j (fun e => by omega))
      have h10 := walk _ hM1
      rw [if_pos hc] at h10
      have g2 : ∀ c j, (c = 4 → j ≠ 6) → (c = 19 → j ≠ 28) → st2 (st2 M 4 6 (nI 1)) 19 28 (nI 1) c j = M c j := fun c j q1 q2 => by
        by_cases hc : c = 19
        · rw [st2_nj' _ (q2 hc)]; exact g c j q1
        · rw [st2_nc _ hc]; exact g c j q1
      have hX' : KX (st2 (st2 M 4 6 (nI 1)) 19 28 (nI 1)) F G wd (vl, hb, sk, hd, ls, pl, n, st, 1, fl, wt, rf, rv, k0, k1) := ⟨c1.fr hG (g2 1 1 (by decide) (by decide)) (fun c j q => g2 c j (fun e => by omega) (fun e => by omega)), (g2 4 3 (by decide) (by decide)).trans c2, (g2 4 4 (by decide) (by decide)).trans c3, (g2 14 1 (by decide) (by decide)).trans c4, fun i hi => (g2 18 i (fun e => by omega) (fun e => by omega)).trans (c5 i hi), (g2 4 5 (by decide) (by decide)).trans c6, by rw [st2_nc _ (by decide), st2_at], (g2 4 7 (by decide) (by decide)).trans c8, (g2 4 8 (by decide) (by decide)).trans c9, fun q => ⟨(g2 4 9 (by decide) (by decide)).trans (c10 q).1, (g2 4 10 (by decide) (by decide)).trans (c10 q).2⟩, fun q => ⟨(g2 4 11 (by decide) (by decide)).trans (c11 q).1, (g2 4 12 (by decide) (by decide)).trans (c11 q).2⟩⟩
      have hM' : KM (st2 (st2 M 4 6 (nI 1)) 19 28 (nI 1)) F G wd (vl, hb, sk, hd, ls, pl, n, st, 1, fl, wt, rf, rv, k0, k1) := by
        obtain ⟨d1, dD, d2, d3, d4, d5, d6, d7, d8, d9, d10, d11⟩ := hM
        exact ⟨d1.fr (g2 19 0 (by decide) (by decide)) (fun c j q1 q2 => g2 c j (fun e => by omega) (fun e => by omega)), dD.fr (fun c j q1 q2 => g2 c j (fun e => by omega) (fun e => by omega)), (g2 19 29 (by decide) (by decide)).trans d2, (g2 19 30 (by decide) (by decide)).trans d3, (g2 19 31 (by decide) (by decide)).trans d4, fun i hi => (g2 40 i (fun e => by omega) (fun e => by omega)).trans (d5 i hi), (g2 19 27 (by decide) (by decide)).trans d6, st2_at _ _ _ _, (g2 19 34 (by decide) (by decide)).trans d8, (g2 19 32 (by decide) (by decide)).trans d9, fun h => ⟨(g2 19 36 (by decide) (by decide)).trans (d10 h).1, (g2 19 37 (by decide) (by decide)).trans (d10 h).2⟩, fun h => ⟨⟨(g2 41 0 (by decide) (by decide)).trans (d11 h).1.1, (g2 42 0 (by decide) (by decide)).trans (d11 h).1.2⟩, (g2 41 1 (by decide) (by decide)).trans (d11 h).2.1, (g2 42 1 (by decide) (by decide)).trans (d11 h).2.2⟩⟩
      have hI' : IV F G (vl, hb, sk, hd, ls, pl, n, st, 1, fl, wt, rf, rv, k0, k1) := ⟨⟨i1, i2, i3, i4, i5, i6, Nat.le_refl _, i8, i9, i10, i11⟩, iA⟩
      refine ⟨_, _, _, h9, h10, F, mi, G, wd, (vl, hb, sk, hd, ls, pl, n, st, 1, fl, wt, rf, rv, k0, k1), la, t, P, c, w, k, no, od, ne, hC.upd hX' hM' hI' rfl (fun hl => ?_) (fun j => g2 0 j (fun e => by omega) (fun e => by omega)) (fun j => g2 11 j (fun e => by omega) (fun e => by omega)) (fun j => g2 12 j (fun e => by omega) (fun e => by omega)) (fun j => g2 43 j (fun e => by omega) (fun e => by omega)) (g2 19 26 (by decide) (by decide)) (g2 19 33 (by decide) (by decide)), hH.fr (fun c j q => g2 c j (fun e => by omega) (fun e => by omega)), hN.fr (fun j => g2 3 j (fun e => by omega) (fun e => by omega)) (fun j q => g2 19 j (fun e => by omega) (fun e => by omega))⟩
      obtain ⟨j1, j2, j3, j4, j5⟩ := ru hl
      refine ⟨j1, j2, j3, j4, fun f hf1 hf2 => ?_⟩
      obtain ⟨⟨k1, k2, k3, k4, k5, k6, k7, k8⟩, k9, k10, k11, k12, k13, k14⟩ := j5 f hf1 hf2
      have gs : ∀ j, st2 (st2 M 4 6 (nI 1)) 19 28 (nI 1) (f + 44) j = M (f + 44) j := fun j => g2 (f + 44) j (fun e => by omega) (fun e => by omega)
      have gm : ∀ c, 20 ≤ c → c ≤ 30 → st2 (st2 M 4 6 (nI 1)) 19 28 (nI 1) c f = M c f := fun c q1 q2 => g2 c f (fun e => by omega) (fun e => by omega)
      exact ⟨⟨(gs 1).trans k1, (gs 2).trans k2, (gs 5).trans k3, (gs 6).trans k4, (gs 7).trans k5, (gs 9).trans k6, (gs 11).trans k7, (gs 12).trans k8⟩, (gm 21 (by decide) (by decide)).trans k9, (gm 22 (by decide) (by decide)).trans k10, (gm 23 (by decide) (by decide)).trans k11, (gm 27 (by decide) (by decide)).trans k12, (gm 29 (by decide) (by decide)).trans k13, (gm 30 (by decide) (by decide)).trans k14⟩
    · rw [if_neg hc] at h9
      have h10 := walk M hM
      rw [if_neg hc] at h10
      exact stay _ h9 h10
  · have hsn1 : sn = 1 := by omega
    have d7 : M 19 28 = nI sn := hM.2.2.2.2.2.2.2.1
    refine stay (nI 0) ?_ ?_
    · rw [iX9_send, eX9_send_0, c7, hsn1, if_neg (show ¬ nI 1 = 0 by decide), L0]
    · rw [iX10_send, eX10_send_0, d7, hsn1, if_neg (show ¬ nI 1 = 0 by decide), L0]
