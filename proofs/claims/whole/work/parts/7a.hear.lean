/-! What comes of the reading: both. -/
def wt0 : CS → CS
  | (vl, hb, sk, hd, ls, pl, n, st, sn, fl, _, r) => (vl, hb, sk, hd, ls, pl, n, st, sn, fl, 0, r)
def hearS (F : Nat) (G : Nat → Nat → Nat) (ne : Nat) (t : T2) : CS → Nat × CS
  | (vl, hb, sk, hd, ls, pl, n, st, sn, fl, wt, rf, rv, k0, k1) => if nearT t ne = 1 then (2, (vl, hb, sk, hd, ls, pl, n, st, sn, fl, 2, rf, rv, kd t.1, kd t.2)) else if wt = 2 ∧ kd t.1 / 100000000 = 5 then takeS F G (k0 / 100000000) (k0 % 100000000) (vl, hb, sk, hd, ls, pl, n, st, sn, fl, 0, rf, rv, k0, k1) else if wt = 2 ∧ kd t.1 / 100000000 = 6 then takeS F G (k1 / 100000000) (k1 % 100000000) (vl, hb, sk, hd, ls, pl, n, st, sn, fl, 0, rf, rv, k0, k1) else if wt = 1 ∧ kd t.1 / 100000000 = 5 then (4, keepS F G rf rv 1 (vl, hb, sk, hd, ls, pl, n, st, sn, fl, 0, rf, rv, k0, k1)) else if wt = 1 ∧ kd t.1 / 100000000 = 6 then (5, (vl, hb, sk, hd, ls, pl, n, st, sn, fl, 0, rf, rv, k0, k1)) else takeS F G (kd t.1 / 100000000) (kd t.1 % 100000000) (vl, hb, sk, hd, ls, pl, n, st, sn, fl, 0, rf, rv, k0, k1)
/-- what is read is a meaning that can be taken -/
def okTK (F : Nat) (hd ls : Option Nat) (t : T2) : Prop := okK F hd ls (kd t.1) ∧ (t.2 ≠ none → okK F hd ls (kd t.2))
theorem near_some {t : T2} {ne : Nat} (h : nearT t ne = 1) : t.2 ≠ none := by
  obtain ⟨a, b⟩ := t
  cases a with
  | none => cases h
  | some q => cases b with
    | none => cases h
    | some q1 => exact fun e => by cases e
theorem near_01 (t : T2) (ne : Nat) : nearT t ne = 0 ∨ nearT t ne = 1 := by
  obtain ⟨a, b⟩ := t
  cases a with
  | none => exact Or.inl rfl
  | some q => cases b with
    | none => exact Or.inl rfl
    | some q1 =>
      show (if q1.1 < q.1 + (ne : Int) then 1 else 0) = 0 ∨ (if q1.1 < q.1 + (ne : Int) then 1 else 0) = 1
      split
      · exact Or.inr rfl
      · exact Or.inl rfl
theorem IV_wt0 {F : Nat} {G : Nat → Nat → Nat} {S : CS} (hI : IV F G S) : IV F G (wt0 S) := by
  obtain ⟨vl, hb, sk, hd, ls, pl, n, st, sn, fl, wt, rf, rv, k0, k1⟩ := S
  obtain ⟨⟨i1, i2, i3, i4, i5, i6, i7, i8, i9, i10, i11⟩, iA⟩ := hI
  exact ⟨⟨i1, i2, i3, i4, i5, i6, i7, i8, Nat.zero_le _, fun (h : 0 = 1) => by omega, fun (h : 0 = 2) => by omega⟩, iA⟩
theorem IV_hear {F ne : Nat} {G wd : Nat → Nat → Nat} {S : CS} {t : T2} (hG : GW F G wd) (hI : IV F G S) (hk : okTK F S.2.2.2.1 S.2.2.2.2.1 t) : IV F G (hearS F G ne t S).2 := by
  have h0 := IV_wt0 hI
  obtain ⟨vl, hb, sk, hd, ls, pl, n, st, sn, fl, wt, rf, rv, k0, k1⟩ := S
  obtain ⟨⟨i1, i2, i3, i4, i5, i6, i7, i8, i9, i10, i11⟩, iA⟩ := hI
  have hm : ∀ k : Nat, k % 100000000 < 100000000 := fun k => Nat.mod_lt _ (by decide)
  show IV F G (if _ then _ else _ : Nat × CS).2
  by_cases hn : nearT t ne = 1
  · rw [if_pos hn]
    exact ⟨⟨i1, i2, i3, i4, i5, i6, i7, i8, Nat.le_refl _, fun (h : 2 = 1) => by omega, fun _ => ⟨hk.1, hk.2 (near_some hn)⟩⟩, iA⟩
  rw [if_neg hn]
  by_cases h1 : wt = 2 ∧ kd t.1 / 100000000 = 5
  · rw [if_pos h1]
    exact IV_take hG h0 rfl (hm _) (i11 h1.1).1.2.2.2
  rw [if_neg h1]
  by_cases h2 : wt = 2 ∧ kd t.1 / 100000000 = 6
  · rw [if_pos h2]
    exact IV_take hG h0 rfl (hm _) (i11 h2.1).2.2.2.2
  rw [if_neg h2]
  by_cases h3 : wt = 1 ∧ kd t.1 / 100000000 = 5
  · rw [if_pos h3]
    obtain ⟨j1, j2, j3⟩ := i10 h3.1
    exact IV_keep hG h0 j1 j2 j3 (Nat.le_refl _) rfl
  rw [if_neg h3]
  by_cases h4 : wt = 1 ∧ kd t.1 / 100000000 = 6
  · rw [if_pos h4]
    exact h0
  rw [if_neg h4]
  exact IV_take hG h0 rfl (hm _) hk.1.2.2.2
theorem KX.w {M : MM} {F x : Nat} {G wd : Nat → Nat → Nat} {vl : Nat → Option Nat} {hb sk : Nat → Nat} {hd ls : Option Nat} {pl : Nat → Nat} {n st sn fl wt rf rv k0 k1 : Nat} (hK : KX M F G wd (vl, hb, sk, hd, ls, pl, n, st, sn, fl, wt, rf, rv, k0, k1)) (hG : GW F G wd) (hx : x = 0) : KX (st2 M 4 8 (nI x)) F G wd (vl, hb, sk, hd, ls, pl, n, st, sn, fl, x, rf, rv, k0, k1) := by
  obtain ⟨c1, c2, c3, c4, c5, c6, c7, c8, c9, c10, c11⟩ := hK
  exact ⟨c1.fr hG (st2_nc _ (by decide)) (fun c j q => st2_nc _ (by omega)), (st2_nj' _ (by decide)).trans c2, (st2_nj' _ (by decide)).trans c3, (st2_nc _ (by decide)).trans c4, fun i hi => (st2_nc _ (by decide)).trans (c5 i hi), (st2_nj' _ (by decide)).trans c6, (st2_nj' _ (by decide)).trans c7, (st2_nj' _ (by decide)).trans c8, st2_at _ _ _ _, fun h => by omega, fun h => by omega⟩
theorem RT.fr {M M' : MM} {t : T2} (h : RT M 11 12 0 t) (h1 : ∀ j, M' 11 j = M 11 j) (h2 : ∀ j, M' 12 j = M 12 j) : RT M' 11 12 0 t := ⟨(h1 _).trans h.1, (h2 _).trans h.2.1, (h1 _).trans h.2.2.1, (h2 _).trans h.2.2.2⟩
theorem p_hearX {M : MM} {F no od ne : Nat} {G wd : Nat → Nat → Nat} {S : CS} {t : T2} (hG : GW F G wd) (hK : KX M F G wd S) (hI : IV F G S) (hR : RT M 11 12 0 t) (hok : okT t) (ht : t.1 ≠ none) (hk : okTK F S.2.2.2.1 S.2.2.2.2.1 t) (hN : RNx M no od ne) (hne : ne ≤ 200) : ∃ M' : MM, mX6_hear [.inr (some 4)] M = some (some (.inl (nI (hearS F G ne t S).1)), M') ∧ KX M' F G wd (hearS F G ne t S).2 ∧ FT M M' := by
  have hI0 := IV_wt0 hI
  obtain ⟨vl, hb, sk, hd, ls, pl, n, st, sn, fl, wt, rf, rv, k0, k1⟩ := S
  obtain ⟨⟨i1, i2, i3, i4, i5, i6, i7, i8, i9, i10, i11⟩, iA⟩ := hI
  obtain ⟨c1, c2, c3, c4, c5, c6, c7, c8, c9, c10, c11⟩ := id hK
  have hK0 := hK.w (x := 0) hG rfl
  have f0 : FT M (st2 M 4 8 (nI 0)) := fun c j q1 q2 q3 q4 => st2_nc _ q1
  have hR0 : RT (st2 M 4 8 (nI 0)) 11 12 0 t := hR.fr (fun j => st2_nc _ (by decide)) (fun j => st2_nc _ (by decide))
  have hN0 : RNx (st2 M 4 8 (nI 0)) no od ne := ⟨(st2_nc _ (by decide)).trans hN.1, (st2_nc _ (by decide)).trans hN.2.1, (st2_nc _ (by decide)).trans hN.2.2⟩
  obtain ⟨⟨kk1, kk2, kk3, kk4⟩, kk5⟩ := id hk
  have hm : ∀ k : Nat, k % 100000000 < 100000000 := fun k => Nat.mod_lt _ (by decide)
  obtain ⟨ta, tb⟩ := t
  cases ta with
  | none => exact absurd rfl ht
  | some q0 =>
  obtain ⟨x0, key0⟩ := q0
  have kk1 : key0 < 900000000 := kk1
  rw [iX6_hear, eX6_hear_0, c9, L0, p_near4 hR0 hok hN0 hne]
  simp only [bnd1, Option.toList_some, List.cons_append, List.nil_append, eX6_hear_17]
  unfold hearS
  dsimp only
  rcases near_01 (some (x0, key0), tb) ne with hn | hn
  · have hn' : ¬ nearT (some (x0, key0), tb) ne = 1 := by omega
    rw [hn, if_pos (show nI 0 = 0 from rfl), if_neg (show ¬ (0 : Nat) = 1 by decide), L0, p_sort4 hR0 hok (by omega)]
    simp only [bnd1, Option.toList_some, List.cons_append, List.nil_append]
    have es : oI (oS (rk2 (some (x0, key0), tb) 0)) = nI (key0 / 100000000) := rfl
    have ek : kd (some (x0, key0)) = key0 := rfl
    rw [es, ek]
    have hs8 : key0 / 100000000 ≤ 8 := by omega
    have h59 : gX6_hear 59 [some (.inr (some 4)), some (.inl (nI wt)), none, none] [.inl (nI (key0 / 100000000))] (st2 M 4 8 (nI 0)) = gX6_hear 70 [some (.inr (some 4)), some (.inl (nI wt)), some (.inl (nI (key0 / 100000000))), none] [.inl (nI (if key0 / 100000000 = 5 then 1 else 0))] (st2 M 4 8 (nI 0)) := by
      rw [eX6_hear_59, L5]
      by_cases h5 : key0 / 100000000 = 5
      · rw [if_pos (by rw [h5]), if_pos h5]; rfl
      · rw [if_neg (by rw [q_eq (by omega) (by omega)]; exact h5), if_neg h5]; rfl
    have h85 : ∀ x3 : Int32, ∃ M' : MM, gX6_hear 85 [some (.inr (some 4)), some (.inl (nI wt)), some (.inl (nI (key0 / 100000000))), some (.inl x3)] [] (st2 M 4 8 (nI 0)) = some (some (.inl (nI (takeS F G (key0 / 100000000) (key0 % 100000000) (vl, hb, sk, hd, ls, pl, n, st, sn, fl, 0, rf, rv, k0, k1)).1)), M') ∧ KX M' F G wd (takeS F G (key0 / 100000000) (key0 % 100000000) (vl, hb, sk, hd, ls, pl, n, st, sn, fl, 0, rf, rv, k0, k1)).2 ∧ FT M M' := by
      intro x3
      obtain ⟨M', a1, a2, a3⟩ := p_takeX hG hK0 hI0 rfl hk.1
      refine ⟨M', ?_, a2, f0.trans a3⟩
      rw [eX6_hear_85, L0, p_key4 hR0 (by omega)]
      simp only [bnd1, Option.toList_some, List.cons_append, List.nil_append, eX6_hear_94]
      have e1 : iZ (eK (rk2 (some (x0, key0), tb) 0)) = nI key0 := (iZ_nat key0).symm
      have a1 : mX6_take [.inr (some 4), .inl (nI key0)] (st2 M 4 8 (nI 0)) = _ := a1
      rw [e1, a1]
      simp only [bnd1, Option.toList_some, List.cons_append, List.nil_append, eX6_hear_97]
      rfl
    rw [h59, eX6_hear_70]
    generalize hsn : key0 / 100000000 = s at *
    by_cases hw0 : wt = 0
    · rw [if_pos (by rw [hw0]; rfl), if_neg (show ¬ (wt = 2 ∧ s = 5) by omega), if_neg (show ¬ (wt = 2 ∧ s = 6) by omega), if_neg (show ¬ (wt = 1 ∧ s = 5) by omega), if_neg (show ¬ (wt = 1 ∧ s = 6) by omega)]
      exact h85 _
    rw [if_neg (by rw [L0, q_eq (by omega) (by omega)]; exact hw0)]
    -- what stands at 98
    have h98 : ∀ y : Nat, y ≤ 1 → gX6_hear 98 [some (.inr (some 4)), some (.inl (nI wt)), some (.inl (nI s)), some (.inl (nI y))] [] (st2 M 4 8 (nI 0)) = (if wt = 2 then (if y = 0 then (mX6_take [.inr (some 4), .inl (nI k1)] (st2 M 4 8 (nI 0))).bind (fun r => gX6_hear 122 [some (.inr (some 4)), some (.inl (nI wt)), some (.inl (nI s)), some (.inl (nI y))] (r.1.toList ++ []) r.2) else (mX6_take [.inr (some 4), .inl (nI k0)] (st2 M 4 8 (nI 0))).bind (fun r => gX6_hear 122 [some (.inr (some 4)), some (.inl (nI wt)), some (.inl (nI s)), some (.inl (nI y))] (r.1.toList ++ []) r.2)) else (if y = 0 then some (some (.inl (nI 5)), st2 M 4 8 (nI 0)) else (mX6_keep [.inr (some 4), .inl (nI rf), .inl (nI rv), .inl (nI 1)] (st2 M 4 8 (nI 0))).bind (fun r => gX6_hear 140 [some (.inr (some 4)), some (.inl (nI wt)), some (.inl (nI s)), some (.inl (nI y))] (r.1.toList ++ []) r.2))) := by
      intro y hy
      rw [eX6_hear_98, L0, L1, L2, L5, st2_nj' _ (by decide), st2_nj' _ (by decide), st2_nj' _ (by decide), st2_nj' _ (by decide)]
      by_cases hw2 : wt = 2
      · rw [if_pos (by rw [hw2]), if_pos hw2, (c11 hw2).1, (c11 hw2).2]
        by_cases hy0 : y = 0
        · rw [if_pos (by rw [hy0]), if_pos hy0]
        · rw [if_neg (by rw [q_eq (by omega) (by omega)]; exact hy0), if_neg hy0]
      · rw [if_neg (by rw [q_eq (by omega) (by omega)]; exact hw2), if_neg hw2, (c10 (by omega)).1, (c10 (by omega)).2]
        by_cases hy0 : y = 0
        · rw [if_pos (by rw [hy0]), if_pos hy0]
        · rw [if_neg (by rw [q_eq (by omega) (by omega)]; exact hy0), if_neg hy0]
    have t122 : ∀ (k x3 : Nat), okK F hd ls k → ∃ M' : MM, (mX6_take [.inr (some 4), .inl (nI k)] (st2 M 4 8 (nI 0))).bind (fun r => gX6_hear 122 [some (.inr (some 4)), some (.inl (nI wt)), some (.inl (nI s)), some (.inl (nI x3))] (r.1.toList ++ []) r.2) = some (some (.inl (nI (takeS F G (k / 100000000) (k % 100000000) (vl, hb, sk, hd, ls, pl, n, st, sn, fl, 0, rf, rv, k0, k1)).1)), M') ∧ KX M' F G wd (takeS F G (k / 100000000) (k % 100000000) (vl, hb, sk, hd, ls, pl, n, st, sn, fl, 0, rf, rv, k0, k1)).2 ∧ FT M M' := by
      intro k x3 hkk
      obtain ⟨M', a1, a2, a3⟩ := p_takeX hG hK0 hI0 rfl hkk
      refine ⟨M', ?_, a2, f0.trans a3⟩
      rw [a1]
      simp only [bnd1, Option.toList_some, List.cons_append, List.nil_append, eX6_hear_122]
    by_cases h5 : s = 5
    · rw [if_pos h5, if_neg (show ¬ nI 1 = 0 by decide), h98 1 (Nat.le_refl _)]
      by_cases hw2 : wt = 2
      · rw [if_pos hw2, if_neg (show ¬ (1 : Nat) = 0 by decide), if_pos ⟨hw2, h5⟩]
        exact t122 k0 1 (i11 hw2).1
      · have hw1 : wt = 1 := by omega
        rw [if_neg hw2, if_neg (show ¬ (1 : Nat) = 0 by decide), if_neg (fun e => hw2 e.1), if_neg (fun e => hw2 e.1), if_pos ⟨hw1, h5⟩]
        obtain ⟨j1, j2, j3⟩ := i10 hw1
        obtain ⟨M', a1, a2, a3⟩ := p_keepX (b := 1) hG hK0 hI0 j1 j2 j3 (Nat.le_refl _) rfl
        refine ⟨M', ?_, a2, f0.trans a3⟩
        rw [a1]
        simp only [bnd1, Option.toList_some, List.cons_append, List.nil_append, eX6_hear_140]
    · rw [if_neg h5, if_pos (show nI 0 = 0 from rfl), L6]
      by_cases h6 : s = 6
      · rw [if_pos (by rw [h6]), h98 0 (by omega), if_neg (fun (e : wt = 2 ∧ s = 5) => h5 e.2)]
        by_cases hw2 : wt = 2
        · rw [if_pos hw2, if_pos rfl, if_pos ⟨hw2, h6⟩]
          exact t122 k1 0 (i11 hw2).2
        · have hw1 : wt = 1 := by omega
          rw [if_neg hw2, if_pos rfl, if_neg (fun (e : wt = 2 ∧ s = 6) => hw2 e.1), if_neg (fun (e : wt = 1 ∧ s = 5) => h5 e.2), if_pos ⟨hw1, h6⟩]
          exact ⟨_, rfl, hK0, f0⟩
      · rw [if_neg (by rw [q_eq (by omega) (by omega)]; exact h6), if_neg (fun (e : wt = 2 ∧ s = 5) => h5 e.2), if_neg (fun (e : wt = 2 ∧ s = 6) => h6 e.2), if_neg (fun (e : wt = 1 ∧ s = 5) => h5 e.2), if_neg (fun (e : wt = 1 ∧ s = 6) => h6 e.2)]
        exact h85 _
  · have ht2 := near_some hn
    cases tb with
    | none => exact absurd rfl ht2
    | some q1 =>
    obtain ⟨x1, key1⟩ := q1
    have hR2 : RT (st2 (st2 M 4 8 (nI 0)) 4 8 (2 : Int32)) 11 12 0 (some (x0, key0), some (x1, key1)) := hR0.fr (fun j => st2_nc _ (by decide)) (fun j => st2_nc _ (by decide))
    have hR3 : RT (st2 (st2 (st2 M 4 8 (nI 0)) 4 8 (2 : Int32)) 4 11 (nI key0)) 11 12 0 (some (x0, key0), some (x1, key1)) := hR2.fr (fun j => st2_nc _ (by decide)) (fun j => st2_nc _ (by decide))
    have e0 : iZ (eK (rk2 (some (x0, key0), some (x1, key1)) 0)) = nI key0 := (iZ_nat key0).symm
    have e1 : iZ (eK (rk2 (some (x0, key0), some (x1, key1)) 1)) = nI key1 := (iZ_nat key1).symm
    rw [if_pos hn, hn, if_neg (show ¬ nI 1 = 0 by decide), L0, p_key4 hR2 (by omega)]
    simp only [bnd1, Option.toList_some, List.cons_append, List.nil_append, eX6_hear_34]
    rw [e0, L1, p_key4 hR3 (by omega)]
    simp only [bnd1, Option.toList_some, List.cons_append, List.nil_append, eX6_hear_46]
    rw [e1]
    refine ⟨_, rfl, ⟨c1.fr hG (by simp (disch := omega) only [st2_nc]) (fun c j q => by rw [st2_nc _ (by omega), st2_nc _ (by omega), st2_nc _ (by omega), st2_nc _ (by omega)]), ?_, ?_, ?_, fun i hi => ?_, ?_, ?_, ?_, ?_, fun (h : 2 = 1) => by omega, fun _ => ⟨?_, ?_⟩⟩, fun c j q1 q2 q3 q4 => by rw [st2_nc _ q1, st2_nc _ q1, st2_nc _ q1, st2_nc _ q1]⟩
    · rw [st2_nj' _ (by decide), st2_nj' _ (by decide), st2_nj' _ (by decide), st2_nj' _ (by decide)]; exact c2
    · rw [st2_nj' _ (by decide), st2_nj' _ (by decide), st2_nj' _ (by decide), st2_nj' _ (by decide)]; exact c3
    · rw [st2_nc _ (by decide), st2_nc _ (by decide), st2_nc _ (by decide), st2_nc _ (by decide)]; exact c4
    · rw [st2_nc _ (by decide), st2_nc _ (by decide), st2_nc _ (by decide), st2_nc _ (by decide)]; exact c5 i hi
    · rw [st2_nj' _ (by decide), st2_nj' _ (by decide), st2_nj' _ (by decide), st2_nj' _ (by decide)]; exact c6
    · rw [st2_nj' _ (by decide), st2_nj' _ (by decide), st2_nj' _ (by decide), st2_nj' _ (by decide)]; exact c7
    · rw [st2_nj' _ (by decide), st2_nj' _ (by decide), st2_nj' _ (by decide), st2_nj' _ (by decide)]; exact c8
    · rw [st2_nj' _ (by decide), st2_nj' _ (by decide), st2_at]; rfl
    · rw [st2_nj' _ (by decide), st2_at]; rfl
    · rw [st2_at]; rfl
