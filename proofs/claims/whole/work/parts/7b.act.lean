/-! act of the reference. -/
theorem KM.w {M : MM} {F : Nat} {G wd : Nat → Nat → Nat} {vl : Nat → Option Nat} {hb sk : Nat → Nat} {hd ls : Option Nat} {pl : Nat → Nat} {n st sn fl wt rf rv k0 k1 : Nat} (hK : KM M F G wd (vl, hb, sk, hd, ls, pl, n, st, sn, fl, wt, rf, rv, k0, k1)) : KM (st2 M 19 32 (nI 0)) F G wd (vl, hb, sk, hd, ls, pl, n, st, sn, fl, 0, rf, rv, k0, k1) := by
  obtain ⟨c1, cD, c2, c3, c4, c5, c6, c7, c8, c9, c10, c11⟩ := hK
  have g : ∀ c j, (c = 19 → j ≠ 32) → st2 M 19 32 (nI 0) c j = M c j := fun c j q => by
    by_cases hc : c = 19
    · exact st2_nj' _ (q hc)
    · exact st2_nc _ hc
  exact ⟨c1.fr (g 19 0 (by decide)) (fun c j q1 q2 => g c j (fun e => by omega)), cD.fr (fun c j q1 q2 => g c j (fun e => by omega)), (g 19 29 (by decide)).trans c2, (g 19 30 (by decide)).trans c3, (g 19 31 (by decide)).trans c4, fun i hi => (g 40 i (fun e => by omega)).trans (c5 i hi), (g 19 27 (by decide)).trans c6, (g 19 28 (by decide)).trans c7, (g 19 34 (by decide)).trans c8, st2_at _ _ _ _, fun (h : 0 = 1) => by omega, fun (h : 0 = 2) => by omega⟩
theorem p_actM {M : MM} {F ne : Nat} {G wd : Nat → Nat → Nat} {S : CS} {t : T2} (hG : GW F G wd) (hK : KM M F G wd S) (hI : IV F G S) (hfl : S.2.2.2.2.2.2.2.2.2.1 = 0) (hR : RM M t) (hok : okT t) (ht : t.1 ≠ none) (hk : okTK F S.2.2.2.1 S.2.2.2.2.1 t) (hN : M 19 14 = nI ne) (hne : ne ≤ 200) : ∃ M' : MM, mX10_act [.inr (some 19)] M = some (some (.inl (nI (hearS F G ne t S).1)), M') ∧ KM M' F G wd (hearS F G ne t S).2 ∧ FTm M M' := by
  have hI0 := IV_wt0 hI
  obtain ⟨vl, hb, sk, hd, ls, pl, n, st, sn, fl, wt, rf, rv, k0, k1⟩ := S
  obtain ⟨⟨i1, i2, i3, i4, i5, i6, i7, i8, i9, i10, i11⟩, iA⟩ := hI
  obtain ⟨c1, cD, c2, c3, c4, c5, c6, c7, c8, c9, c10, c11⟩ := id hK
  have hfl : fl = 0 := hfl
  have hK0 := hK.w
  have g : ∀ c j, (c = 19 → j ≠ 32) → st2 M 19 32 (nI 0) c j = M c j := fun c j q => by
    by_cases hc : c = 19
    · exact st2_nj' _ (q hc)
    · exact st2_nc _ hc
  have f0 : FTm M (st2 M 19 32 (nI 0)) := fun c j q1 q2 q3 q4 q5 q6 q7 => g c j (fun e => by have := q7 e; omega)
  obtain ⟨⟨kk1, kk2, kk3, kk4⟩, kk5⟩ := id hk
  have hm : ∀ k : Nat, k % 100000000 < 100000000 := fun k => Nat.mod_lt _ (by decide)
  obtain ⟨ta, tb⟩ := t
  obtain ⟨ha, hb', hab⟩ := hok
  obtain ⟨ra, rb⟩ := hR
  cases ta with
  | none => exact absurd rfl ht
  | some q0 =>
  obtain ⟨x0, key0⟩ := q0
  obtain ⟨s, v, rfl, hs8, hv8, m37, m35, m36⟩ := ra
  obtain ⟨a1, a2, a3⟩ := ha
  have es : key2 s v / 100000000 = s := by unfold key2; omega
  have ev : key2 s v % 100000000 = v := by unfold key2; omega
  have ek : kd (some (x0, key2 s v)) = key2 s v := rfl
  -- the test of nearness
  have hhead : mX10_act [.inr (some 19)] M = (if nearT (some (x0, key2 s v), tb) ne = 1 then gX10_act 55 [some (.inr (some 19)), some (.inl (nI wt)), some (.inl (nI s)), some (.inl (nI 0))] [] (st2 (st2 M 19 32 (nI 0)) 19 32 (nI 2)) else gX10_act 92 [some (.inr (some 19)), some (.inl (nI wt)), some (.inl (nI s)), none] [] (st2 M 19 32 (nI 0))) := by
    rw [iX10_act, eX10_act_0, L0, L2, g 37 1 (fun e => by omega), g 37 0 (fun e => by omega), g 19 14 (fun _ => by decide), hN, c9, m35, m37]
    cases tb with
    | none =>
      have e : M 37 1 = iZ 1000000 := rb
      rw [e, if_pos (by decide), if_neg (show ¬ nearT (some (x0, key2 s v), none) ne = 1 by intro h; cases h)]
    | some q1 =>
      obtain ⟨x1, key1⟩ := q1
      obtain ⟨s1, v1, rfl, hs1, hv1, n37, n35, n36⟩ := rb
      obtain ⟨b1, b2, b3⟩ := hb'
      have en : nearT (some (x0, key2 s v), some (x1, key2 s1 v1)) ne = if x1 < x0 + (ne : Int) then 1 else 0 := rfl
      rw [n37, en, if_neg (by rw [L1000000, iZ_nat, z_le (by omega) (by omega) (by omega) (by omega)]; show ¬ ((1000000 : Nat) : Int) ≤ x1; omega), iZ_nat ne, z_add]
      by_cases h : x1 < x0 + (ne : Int)
      · rw [if_neg (by rw [z_le (by omega) (by omega) (by omega) (by omega)]; omega), if_pos h, if_pos rfl]
      · rw [if_pos (by rw [z_le (by omega) (by omega) (by omega) (by omega)]; omega), if_neg h, if_neg (by decide)]
  rw [hhead]
  unfold hearS
  dsimp only
  rw [ek, es, ev]
  rcases near_01 (some (x0, key2 s v), tb) ne with hn | hn
  · rw [hn, if_neg (show ¬ (0 : Nat) = 1 by decide), if_neg (show ¬ (0 : Nat) = 1 by decide)]
    have q5 : (nI s = nI 5) = (s = 5) := q_eq (by omega) (by omega)
    have q6 : (nI s = nI 6) = (s = 6) := q_eq (by omega) (by omega)
    have w1 : (nI wt = nI 1) = (wt = 1) := q_eq (by omega) (by omega)
    have w2 : (nI wt = nI 2) = (wt = 2) := q_eq (by omega) (by omega)
    have t142 : ∀ k : Nat, okK F hd ls k → ∃ M' : MM, (mX10_take [.inr (some 19), .inl (nI (k / 100000000)), .inl (nI (k % 100000000))] (st2 M 19 32 (nI 0))).bind (fun r => gX10_act 142 [some (.inr (some 19)), some (.inl (nI wt)), some (.inl (nI s)), none] (r.1.toList ++ []) r.2) = some (some (.inl (nI (takeS F G (k / 100000000) (k % 100000000) (vl, hb, sk, hd, ls, pl, n, st, sn, fl, 0, rf, rv, k0, k1)).1)), M') ∧ KM M' F G wd (takeS F G (k / 100000000) (k % 100000000) (vl, hb, sk, hd, ls, pl, n, st, sn, fl, 0, rf, rv, k0, k1)).2 ∧ FTm M M' := by
      intro k hkk
      have hkk1 := hkk.1
      obtain ⟨M', a1, a2, a3⟩ := p_takeM hG hK0 hI0 rfl hfl (hm k) (by omega) hkk.2.1 hkk.2.2.1 hkk.2.2.2
      refine ⟨M', ?_, a2, f0.trans a3⟩
      rw [a1]
      simp only [bnd1, Option.toList_some, List.cons_append, List.nil_append, eX10_act_142]
    have t180 : ∃ M' : MM, gX10_act 180 [some (.inr (some 19)), some (.inl (nI wt)), some (.inl (nI s)), none] [] (st2 M 19 32 (nI 0)) = some (some (.inl (nI (takeS F G s v (vl, hb, sk, hd, ls, pl, n, st, sn, fl, 0, rf, rv, k0, k1)).1)), M') ∧ KM M' F G wd (takeS F G s v (vl, hb, sk, hd, ls, pl, n, st, sn, fl, 0, rf, rv, k0, k1)).2 ∧ FTm M M' := by
      have kk2 : key2 s v / 100000000 = 0 → hd ≠ none := kk2
      have kk3 : key2 s v / 100000000 = 8 → ls ≠ none := kk3
      have kk4 : key2 s v / 100000000 = 7 → key2 s v % 100000000 < F := kk4
      rw [es] at kk2 kk3 kk4
      rw [ev] at kk4
      obtain ⟨M', a1, a2, a3⟩ := p_takeM hG hK0 hI0 rfl hfl hv8 hs8 kk2 kk3 kk4
      refine ⟨M', ?_, a2, f0.trans a3⟩
      rw [eX10_act_180, g 36 0 (fun e => by omega), m36, a1]
      simp only [bnd1, Option.toList_some, List.cons_append, List.nil_append, eX10_act_191]
    have h143 : ¬ (wt = 2 ∧ s = 5) → ¬ (wt = 2 ∧ s = 6) → ∃ M' : MM, gX10_act 143 [some (.inr (some 19)), some (.inl (nI wt)), some (.inl (nI s)), none] [] (st2 M 19 32 (nI 0)) = some (some (.inl (nI (if wt = 1 ∧ s = 5 then (4, keepS F G rf rv 1 (vl, hb, sk, hd, ls, pl, n, st, sn, fl, 0, rf, rv, k0, k1)) else if wt = 1 ∧ s = 6 then (5, (vl, hb, sk, hd, ls, pl, n, st, sn, fl, 0, rf, rv, k0, k1)) else takeS F G s v (vl, hb, sk, hd, ls, pl, n, st, sn, fl, 0, rf, rv, k0, k1)).1)), M') ∧ KM M' F G wd (if wt = 1 ∧ s = 5 then (4, keepS F G rf rv 1 (vl, hb, sk, hd, ls, pl, n, st, sn, fl, 0, rf, rv, k0, k1)) else if wt = 1 ∧ s = 6 then (5, (vl, hb, sk, hd, ls, pl, n, st, sn, fl, 0, rf, rv, k0, k1)) else takeS F G s v (vl, hb, sk, hd, ls, pl, n, st, sn, fl, 0, rf, rv, k0, k1)).2 ∧ FTm M M' := by
      intro _ _
      by_cases hw1 : wt = 1
      · by_cases h5 : s = 5
        · obtain ⟨j1, j2, j3⟩ := i10 hw1
          obtain ⟨M', a1, a2, a3⟩ := p_keepM (b := 1) hG hK0 hI0 j1 j2 j3 (Nat.le_refl _) rfl hfl
          rw [if_pos ⟨hw1, h5⟩]
          refine ⟨M', ?_, a2, f0.trans a3⟩
          rw [eX10_act_143, L1, L5, if_pos (by rw [hw1]), if_pos (by rw [h5]), g 19 36 (fun _ => by decide), g 19 37 (fun _ => by decide), (c10 hw1).1, (c10 hw1).2, a1]
          simp only [bnd1, Option.toList_some, List.cons_append, List.nil_append, eX10_act_166]
        · rw [if_neg (fun e => h5 e.2)]
          by_cases h6 : s = 6
          · rw [if_pos ⟨hw1, h6⟩]
            refine ⟨_, ?_, hK0, f0⟩
            rw [eX10_act_143, L1, L5, if_pos (by rw [hw1]), if_neg (by rw [q5]; exact h5), eX10_act_167, L1, L5, L6, if_pos (by rw [hw1]), if_pos (by rw [h6])]
          · rw [if_neg (fun e => h6 e.2), eX10_act_143, L1, L5, if_pos (by rw [hw1]), if_neg (by rw [q5]; exact h5), eX10_act_167, L1, L5, L6, if_pos (by rw [hw1]), if_neg (by rw [q6]; exact h6)]
            exact t180
      · rw [if_neg (fun (e : wt = 1 ∧ s = 5) => hw1 e.1), if_neg (fun (e : wt = 1 ∧ s = 6) => hw1 e.1), eX10_act_143, L1, L5, if_neg (by rw [w1]; exact hw1), eX10_act_167, L1, L5, L6, if_neg (by rw [w1]; exact hw1)]
        exact t180
    rw [eX10_act_92, L2, L5, L6]
    by_cases hw2 : wt = 2
    · rw [if_pos (by rw [hw2])]
      obtain ⟨⟨d1, d2⟩, d3, d4⟩ := c11 hw2
      by_cases h5 : s = 5
      · rw [if_pos (by rw [h5]), if_pos ⟨hw2, h5⟩, eX10_act_108, L5, if_pos (by rw [h5]), eX10_act_123, L0, q_cl (show 0 < 2147483648 by omega), if_neg (show ¬ (nI 0 < nI 0 ∨ 2 ≤ 0) by decide), L5, if_pos (by rw [h5]), g 41 0 (fun e => by omega), g 42 0 (fun e => by omega), d1, d2]
        exact t142 k0 (i11 hw2).1
      · rw [if_neg (by rw [q5]; exact h5), if_neg (fun (e : wt = 2 ∧ s = 5) => h5 e.2)]
        by_cases h6 : s = 6
        · rw [if_pos (by rw [h6]), if_pos ⟨hw2, h6⟩, eX10_act_108, L5, if_neg (by rw [q5]; exact h5), eX10_act_123, L1, q_cl (show 1 < 2147483648 by omega), if_neg (show ¬ (nI 1 < 0 ∨ 2 ≤ 1) by decide), L5, if_neg (by rw [q5]; exact h5), g 41 1 (fun e => by omega), g 42 1 (fun e => by omega), d3, d4]
          exact t142 k1 (i11 hw2).2
        · rw [if_neg (by rw [q6]; exact h6), if_neg (fun (e : wt = 2 ∧ s = 6) => h6 e.2)]
          exact h143 (fun e => h5 e.2) (fun e => h6 e.2)
    · rw [if_neg (by rw [w2]; exact hw2), if_neg (fun (e : wt = 2 ∧ s = 5) => hw2 e.1), if_neg (fun (e : wt = 2 ∧ s = 6) => hw2 e.1)]
      exact h143 (fun e => hw2 e.1) (fun e => hw2 e.1)
  · have ht2 := near_some hn
    cases tb with
    | none => exact absurd rfl ht2
    | some q1 =>
    obtain ⟨x1, key1⟩ := q1
    obtain ⟨s1, v1, rfl, hs1, hv1, n37, n35, n36⟩ := rb
    have es1 : key2 s1 v1 / 100000000 = s1 := by unfold key2; omega
    have ev1 : key2 s1 v1 % 100000000 = v1 := by unfold key2; omega
    rw [hn, if_pos rfl, if_pos rfl]
    have h0 : ¬ (nI 0 < 0 ∨ 2 ≤ 0) := by decide
    have h1 : ¬ (nI 1 < 0 ∨ 2 ≤ 1) := by decide
    have g2 : ∀ c j, (c = 19 → j ≠ 32) → st2 (st2 M 19 32 (nI 0)) 19 32 (nI 2) c j = M c j := fun c j q => by
      by_cases hc : c = 19
      · rw [st2_nj' _ (q hc)]; exact g c j q
      · rw [st2_nc _ hc]; exact g c j q
    rw [eX10_act_55, if_neg (show ¬ (2 : Int32) ≤ nI 0 by decide), q_cl (show 0 < 2147483648 by omega), if_neg h0, if_neg h0, if_neg h0, if_neg h0, L1, q_add, st2_nc (st2 (st2 M 19 32 (nI 0)) 19 32 (nI 2)) (show (36 : Nat) ≠ 41 by decide), g2 35 0 (fun e => by omega), g2 36 0 (fun e => by omega), m35, m36]
    rw [eX10_act_55, if_neg (show ¬ (2 : Int32) ≤ nI (0 + 1) by decide), q_cl (show 0 + 1 < 2147483648 by omega), if_neg (show ¬ (nI (0 + 1) < 0 ∨ 2 ≤ 0 + 1) by decide), if_neg (show ¬ (nI (0 + 1) < 0 ∨ 2 ≤ 0 + 1) by decide), if_neg (show ¬ (nI (0 + 1) < 0 ∨ 2 ≤ 0 + 1) by decide), if_neg (show ¬ (nI (0 + 1) < 0 ∨ 2 ≤ 0 + 1) by decide), L1, q_add]
    rw [eX10_act_55, if_pos (show (2 : Int32) ≤ nI (0 + 1 + 1) by decide), L2]
    refine ⟨_, rfl, ?_⟩
    have e35 : st2 (st2 (st2 (st2 M 19 32 (nI 0)) 19 32 (nI 2)) 41 0 (nI s)) 42 0 (nI v) 35 (0 + 1) = nI s1 := by
      rw [st2_nc _ (by decide), st2_nc _ (by decide), g2 35 1 (fun e => by omega)]; exact n35
    have e36 : st2 (st2 (st2 (st2 (st2 M 19 32 (nI 0)) 19 32 (nI 2)) 41 0 (nI s)) 42 0 (nI v)) 41 (0 + 1) (nI s1) 36 (0 + 1) = nI v1 := by
      rw [st2_nc _ (by decide), st2_nc _ (by decide), st2_nc _ (by decide), g2 36 1 (fun e => by omega)]; exact n36
    rw [e35, e36]
    have gg : ∀ c j, c ≠ 41 → c ≠ 42 → (c = 19 → j ≠ 32) → st2 (st2 (st2 (st2 (st2 (st2 M 19 32 (nI 0)) 19 32 (nI 2)) 41 0 (nI s)) 42 0 (nI v)) 41 (0 + 1) (nI s1)) 42 (0 + 1) (nI v1) c j = M c j := fun c j q1 q2 q3 => by
      rw [st2_nc _ q2, st2_nc _ q1, st2_nc _ q2, st2_nc _ q1]
      exact g2 c j q3
    refine ⟨⟨c1.fr (gg 19 0 (by decide) (by decide) (fun _ => by decide)) (fun c j q1 q2 => gg c j (by omega) (by omega) (fun e => by omega)), cD.fr (fun c j q1 q2 => gg c j (by omega) (by omega) (fun e => by omega)), (gg 19 29 (by decide) (by decide) (fun _ => by decide)).trans c2, (gg 19 30 (by decide) (by decide) (fun _ => by decide)).trans c3, (gg 19 31 (by decide) (by decide) (fun _ => by decide)).trans c4, fun i hi => (gg 40 i (by decide) (by decide) (fun e => by omega)).trans (c5 i hi), (gg 19 27 (by decide) (by decide) (fun _ => by decide)).trans c6, (gg 19 28 (by decide) (by decide) (fun _ => by decide)).trans c7, (gg 19 34 (by decide) (by decide) (fun _ => by decide)).trans c8, ?_, fun (h : 2 = 1) => by omega, fun _ => ⟨⟨?_, ?_⟩, ?_, ?_⟩⟩, fun c j q1 q2 q3 q4 q5 q6 q7 => gg c j q5 q6 (fun e => by have := q7 e; omega)⟩
    · rw [st2_nc _ (by decide), st2_nc _ (by decide), st2_nc _ (by decide), st2_nc _ (by decide), st2_at]
    · show _ = nI (key2 s v / 100000000)
      rw [es, st2_nc _ (by decide), st2_nj' _ (by decide), st2_nc _ (by decide), st2_at]
    · show _ = nI (key2 s v % 100000000)
      rw [ev, st2_nj' _ (by decide), st2_nc _ (by decide), st2_at]
    · show _ = nI (key2 s1 v1 / 100000000)
      rw [es1, st2_nc _ (by decide)]
      exact st2_at _ _ _ _
    · show _ = nI (key2 s1 v1 % 100000000)
      rw [ev1]
      exact st2_at _ _ _ _
