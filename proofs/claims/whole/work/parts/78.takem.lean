/-! answered, goBack, skip, go, take of the reference. -/
theorem p_answered {M : MM} {F f v : Nat} {G wd : Nat → Nat → Nat} {S : CS} (hG : GW F G wd) (hK : KM M F G wd S) (hI : IV F G S) (hf : f < F) (ha : ak G S.1 f = 1) (hv : v < 100000000) (hw : S.2.2.2.2.2.2.2.2.2.2.1 = 0) (hfl : S.2.2.2.2.2.2.2.2.2.1 = 0) : ∃ M' : MM, mX10_answered [.inr (some 19), .inl (nI f), .inl (nI v)] M = some (some (.inl (nI (answS F G f v S).1)), M') ∧ KM M' F G wd (answS F G f v S).2 ∧ FTm M M' := by
  obtain ⟨M1, a1, a2, a3⟩ := p_keepM (b := 0) hG hK hI hf ha hv (by omega) hw hfl
  obtain ⟨vl, hb, sk, hd, ls, pl, n, st, sn, fl, wt, rf, rv, k0, k1⟩ := S
  have hF := hG.1
  have gf := gI (c := f) (N := 12) (by omega) (by omega)
  obtain ⟨g1, g2, g3, g4, g5, g6, -⟩ := hG.2 f hf
  obtain ⟨c1, cD, c2, c3, c4, c5, c6, c7, c8, c9, c10, c11⟩ := hK
  obtain ⟨s1, s2, s3, s4, -⟩ := c1.2 f hf
  have hkeep : (mX10_keep [.inr (some 19), .inl (nI f), .inl (nI v), .inl (0 : Int32)] M).bind (fun r => gX10_answered 34 [some (.inr (some 19)), some (.inl (nI f)), some (.inl (nI v))] (r.1.toList ++ []) r.2) = some (some (.inl (nI 4)), M1) := by
    rw [L0, a1]
    simp only [bnd1, Option.toList_some, List.cons_append, List.nil_append, eX10_answered_34]
  rw [iX10_answered, eX10_answered_0, q_cl (show f < 2147483648 by omega), if_neg gf, hkeep, s4, if_neg gf, s2, if_neg gf, s3]
  by_cases hc : G 3 f = 1 ∧ G 2 f = 0
  · have eA : answS F G f v (vl, hb, sk, hd, ls, pl, n, st, sn, fl, wt, rf, rv, k0, k1) = (3, (vl, hb, sk, hd, ls, pl, n, st, sn, fl, 1, f, v, k0, k1)) := if_pos hc
    have h35 : gX10_answered 35 [some (.inr (some 19)), some (.inl (nI f)), some (.inl (nI v))] [] M = some (some (.inl (nI 3)), st2 (st2 (st2 M 19 32 (1 : Int32)) 19 36 (nI f)) 19 37 (nI v)) := by
      rw [eX10_answered_35, L3]
    rw [eA, if_neg (by rw [hc.1]; decide), h35, hc.2, if_pos (show nI 0 = 0 from rfl)]
    have hsame : (if nI (G 1 f) ≤ 0 then some (some (.inl (nI 3)), st2 (st2 (st2 M 19 32 (1 : Int32)) 19 36 (nI f)) 19 37 (nI v)) else some (some (.inl (nI 3)), st2 (st2 (st2 M 19 32 (1 : Int32)) 19 36 (nI f)) 19 37 (nI v)) : Option AR) = some (some (.inl (nI 3)), st2 (st2 (st2 M 19 32 (1 : Int32)) 19 36 (nI f)) 19 37 (nI v)) := by
      split <;> rfl
    rw [hsame]
    have g : ∀ c j, (c = 19 → j ≠ 32 ∧ j ≠ 36 ∧ j ≠ 37) → st2 (st2 (st2 M 19 32 (1 : Int32)) 19 36 (nI f)) 19 37 (nI v) c j = M c j := fun c j q => by
      by_cases hc : c = 19
      · have := q hc
        rw [st2_nj' _ this.2.2, st2_nj' _ this.2.1, st2_nj' _ this.1]
      · rw [st2_nc _ hc, st2_nc _ hc, st2_nc _ hc]
    have g19 : ∀ j, j ≠ 32 → j ≠ 36 → j ≠ 37 → st2 (st2 (st2 M 19 32 (1 : Int32)) 19 36 (nI f)) 19 37 (nI v) 19 j = M 19 j := fun j q1 q2 q3 => g 19 j (fun _ => ⟨q1, q2, q3⟩)
    refine ⟨_, rfl, ⟨c1.fr (g19 0 (by decide) (by decide) (by decide)) (fun c j q1 q2 => g c j (fun e => by omega)), cD.fr (fun c j q1 q2 => g c j (fun e => by omega)), (g19 29 (by decide) (by decide) (by decide)).trans c2, (g19 30 (by decide) (by decide) (by decide)).trans c3, (g19 31 (by decide) (by decide) (by decide)).trans c4, fun i hi => (g 40 i (fun e => by omega)).trans (c5 i hi), (g19 27 (by decide) (by decide) (by decide)).trans c6, (g19 28 (by decide) (by decide) (by decide)).trans c7, (g19 34 (by decide) (by decide) (by decide)).trans c8, ?_, fun _ => ⟨?_, ?_⟩, fun (h : 1 = 2) => by omega⟩, fun c j q1 q2 q3 q4 q5 q6 q7 => g c j (fun e => by have := q7 e; omega)⟩
    · rw [st2_nj' _ (by decide), st2_nj' _ (by decide), st2_at]; rfl
    · rw [st2_nj' _ (by decide), st2_at]
    · rw [st2_at]
  · have eA : answS F G f v (vl, hb, sk, hd, ls, pl, n, st, sn, fl, wt, rf, rv, k0, k1) = (4, keepS F G f v 0 (vl, hb, sk, hd, ls, pl, n, st, sn, fl, wt, rf, rv, k0, k1)) := if_neg hc
    rw [eA]
    refine ⟨M1, ?_, a2, a3⟩
    by_cases h3 : G 3 f = 1
    · have h2 : ¬ G 2 f = 0 := fun e => hc ⟨h3, e⟩
      have h1 : ¬ G 1 f = 0 := fun e => h2 (g6 e).2
      rw [if_neg (by rw [h3]; decide), if_neg (by rw [L0, q_le (by omega) (by omega)]; omega), if_neg (by rw [L0, q_eq (by omega) (by omega)]; exact h2)]
    · rw [if_pos (by rw [show G 3 f = 0 by omega]; rfl)]
theorem p_goBackM {M : MM} {F : Nat} {G wd : Nat → Nat → Nat} {S : CS} (hG : GW F G wd) (hK : KM M F G wd S) (hI : IV F G S) : ∃ M' : MM, mX10_goBack [.inr (some 19)] M = some (some (.inl (nI (backS G S).1)), M') ∧ KM M' F G wd (backS G S).2 ∧ FTm M M' := by
  obtain ⟨vl, hb, sk, hd, ls, pl, n, st, sn, fl, wt, rf, rv, k0, k1⟩ := S
  obtain ⟨⟨i1, i2, i3, i4, i5, i6, i7, i8, i9, i10, i11⟩, iA⟩ := hI
  have hF := hG.1
  have key : ∀ m (M1 : MM), m ≤ n → KM M1 F G wd (vl, hb, sk, hd, ls, pl, m, st, sn, fl, wt, rf, rv, k0, k1) → ∃ M' : MM, gX10_goBack 0 [some (.inr (some 19))] [] M1 = some (some (.inl (nI (backT vl hb sk hd ls pl (st, sn, fl, wt, rf, rv, k0, k1) (bkS G vl pl m)).1)), M') ∧ KM M' F G wd (backT vl hb sk hd ls pl (st, sn, fl, wt, rf, rv, k0, k1) (bkS G vl pl m)).2 ∧ FTm M1 M' := by
    intro m
    induction m with
    | zero =>
      intro M1 hm hK1
      refine ⟨M1, ?_, hK1, fun _ _ _ _ _ _ _ _ _ => rfl⟩
      rw [eX10_goBack_0, hK1.2.2.2.2.1, if_pos (show nI 0 ≤ 0 by decide), L6]
      rfl
    | succ m ih =>
      intro M1 hm hK1
      obtain ⟨c1, cD, c2, c3, c4, c5, c6, c7, c8, c9, c10, c11⟩ := id hK1
      have hplF := i5 m (by omega)
      have g : ∀ c j, (c = 19 → j ≠ 31) → st2 M1 19 31 (nI m) c j = M1 c j := fun c j q => by
        by_cases hc : c = 19
        · exact st2_nj' _ (q hc)
        · exact st2_nc _ hc
      have hK2 : KM (st2 M1 19 31 (nI m)) F G wd (vl, hb, sk, hd, ls, pl, m, st, sn, fl, wt, rf, rv, k0, k1) := by
        refine ⟨c1.fr (g 19 0 (by decide)) (fun c j q1 q2 => g c j (fun e => by omega)), cD.fr (fun c j q1 q2 => g c j (fun e => by omega)), (g 19 29 (by decide)).trans c2, (g 19 30 (by decide)).trans c3, by rw [st2_at], fun i hi => (g 40 i (fun e => by omega)).trans (c5 i (by omega)), (g 19 27 (by decide)).trans c6, (g 19 28 (by decide)).trans c7, (g 19 34 (by decide)).trans c8, (g 19 32 (by decide)).trans c9, fun h => ⟨(g 19 36 (by decide)).trans (c10 h).1, (g 19 37 (by decide)).trans (c10 h).2⟩, fun h => ⟨⟨(g 41 0 (by decide)).trans (c11 h).1.1, (g 42 0 (by decide)).trans (c11 h).1.2⟩, (g 41 1 (by decide)).trans (c11 h).2.1, (g 42 1 (by decide)).trans (c11 h).2.2⟩⟩
      have f2 : FTm M1 (st2 M1 19 31 (nI m)) := fun c j q1 q2 q3 q4 q5 q6 q7 => g c j (fun e => by have := q7 e; omega)
      have hV2 := VM_of hK2.1 hK2.2.1 (fun g v hg e => ((i1 g hg).2.2.1 v e).1)
      have hal := ak_le G vl (pl m)
      rw [eX10_goBack_0, c4, if_neg (by rw [L0, q_le (by omega) (by omega)]; omega), L1, q_sub (by omega), show m + 1 - 1 = m by omega, st2_at, q_cl (show m < 2147483648 by omega), if_neg (gI (by omega) (by omega)), st2_nc _ (by decide), c5 m (by omega), p_isAsked hG hV2 hplF]
      simp only [bnd1, Option.toList_some, List.cons_append, List.nil_append, eX10_goBack_30]
      unfold bkS
      by_cases hc : ak G vl (pl m) = 1
      · rw [if_pos hc, hc, if_neg (show ¬ nI 1 = 0 by decide), st2_at, q_cl (show m < 2147483648 by omega), if_neg (gI (by omega) (by omega)), hK2.2.2.2.2.2.1 m |> fun _ => st2_nc M1 (show (40 : Nat) ≠ 19 by decide), c5 m (by omega)]
        obtain ⟨c1, cD, c2, c3, c4, c5, c6, c7, c8, c9, c10, c11⟩ := hK2
        have g' : ∀ c j, (c = 19 → j ≠ 29) → st2 (st2 M1 19 31 (nI m)) 19 29 (nI (pl m)) c j = st2 M1 19 31 (nI m) c j := fun c j q => by
          by_cases hc : c = 19
          · exact st2_nj' _ (q hc)
          · exact st2_nc _ hc
        refine ⟨_, rfl, ⟨c1.fr (g' 19 0 (by decide)) (fun c j q1 q2 => g' c j (fun e => by omega)), cD.fr (fun c j q1 q2 => g' c j (fun e => by omega)), by rw [st2_at]; rfl, (g' 19 30 (by decide)).trans c3, (g' 19 31 (by decide)).trans c4, fun i hi => (g' 40 i (fun e => by omega)).trans (c5 i hi), (g' 19 27 (by decide)).trans c6, (g' 19 28 (by decide)).trans c7, (g' 19 34 (by decide)).trans c8, (g' 19 32 (by decide)).trans c9, fun h => ⟨(g' 19 36 (by decide)).trans (c10 h).1, (g' 19 37 (by decide)).trans (c10 h).2⟩, fun h => ⟨⟨(g' 41 0 (by decide)).trans (c11 h).1.1, (g' 42 0 (by decide)).trans (c11 h).1.2⟩, (g' 41 1 (by decide)).trans (c11 h).2.1, (g' 42 1 (by decide)).trans (c11 h).2.2⟩⟩, fun c j q1 q2 q3 q4 q5 q6 q7 => ?_⟩
        rw [g' c j (fun e => by have := q7 e; omega)]
        exact f2 c j q1 q2 q3 q4 q5 q6 q7
      · rw [if_neg hc, if_pos (by rw [show ak G vl (pl m) = 0 by omega]; rfl)]
        obtain ⟨M', a1, a2, a3⟩ := ih _ (by omega) hK2
        exact ⟨M', a1, a2, f2.trans a3⟩
  rw [iX10_goBack]
  exact key n M (Nat.le_refl _) hK
theorem KM.sk {M : MM} {F h x : Nat} {G wd : Nat → Nat → Nat} {vl : Nat → Option Nat} {hb sk : Nat → Nat} {r : Option Nat × Option Nat × (Nat → Nat) × Nat × Nat × Nat × Nat × Nat × Nat × Nat × Nat × Nat} (hK : KM M F G wd (vl, hb, sk, r)) : KM (st2 M 30 h (nI x)) F G wd (vl, hb, uq sk h x, r) := by
  obtain ⟨hd, ls, pl, n, st, sn, fl, wt, rf, rv, k0, k1⟩ := r
  obtain ⟨c1, cD, c2, c3, c4, c5, c6, c7, c8, c9, c10, c11⟩ := hK
  have e : ∀ c j, c ≠ 30 → st2 M 30 h (nI x) c j = M c j := fun c j q => st2_nc _ q
  refine ⟨c1.fr (e 19 0 (by decide)) (fun c j q1 q2 => e c j (by omega)), fun g hg => ?_, (e 19 29 (by decide)).trans c2, (e 19 30 (by decide)).trans c3, (e 19 31 (by decide)).trans c4, fun i hi => (e 40 i (by decide)).trans (c5 i hi), (e 19 27 (by decide)).trans c6, (e 19 28 (by decide)).trans c7, (e 19 34 (by decide)).trans c8, (e 19 32 (by decide)).trans c9, fun q => ⟨(e 19 36 (by decide)).trans (c10 q).1, (e 19 37 (by decide)).trans (c10 q).2⟩, fun q => ⟨⟨(e 41 0 (by decide)).trans (c11 q).1.1, (e 42 0 (by decide)).trans (c11 q).1.2⟩, (e 41 1 (by decide)).trans (c11 q).2.1, (e 42 1 (by decide)).trans (c11 q).2.2⟩⟩
  obtain ⟨q1, q2, q3⟩ := cD g hg
  refine ⟨(e _ _ (by decide)).trans q1, (e _ _ (by decide)).trans q2, ?_⟩
  by_cases he : g = h
  · rw [he, st2_at, uq_at]
  · rw [st2_nj' _ he, uq_ne _ _ he]; exact q3
theorem p_skipM {M : MM} {F : Nat} {G wd : Nat → Nat → Nat} {S : CS} (hG : GW F G wd) (hK : KM M F G wd S) (hI : IV F G S) : ∃ M' : MM, mX10_skip [.inr (some 19)] M = some (some (.inl (nI (skipS F G S).1)), M') ∧ KM M' F G wd (skipS F G S).2 ∧ FTm M M' := by
  obtain ⟨vl, hb, sk, hd, ls, pl, n, st, sn, fl, wt, rf, rv, k0, k1⟩ := S
  have hF := hG.1
  have hIa := hI.1
  have hhF : ∀ f, hd = some f → f < F := hIa.2.1
  have e29 : M 19 29 = oI hd := hK.2.2.1
  rw [iX10_skip, eX10_skip_0, e29]
  cases hd with
  | none =>
    rw [if_neg (show ¬ (0 : Int32) ≤ oI none by decide)]
    exact ⟨M, rfl, hK, fun _ _ _ _ _ _ _ _ _ => rfl⟩
  | some h =>
    have hh := hhF h rfl
    have gh := gI (c := h) (N := 12) (by omega) (by omega)
    have hK2 := hK.sk (h := h) (x := 1)
    have hI2 := hIa.sk (h := h) (x := 1) (Nat.le_refl _)
    have hV2 := VM_of hK2.1 hK2.2.1 (fun g v hg e => ((hI2.1 g hg).2.2.1 v e).1)
    have hSK : SK (st2 M 30 h (nI 1)) F (uq sk h 1) := fun g hg => ⟨(hK2.2.1 g hg).2.2, (hI2.1 g hg).2.1⟩
    obtain ⟨M2, b1, b2, b3⟩ := p_comesNow (x := nxB F G vl (uq sk h 1) h) hG hK2 hI2 (fun g e => (nxB_ok e).1)
    have eh : oI (some h) = nI h := rfl
    have e2 : st2 M 30 h (nI 1) 19 29 = nI h := hK2.2.2.1
    rw [if_pos (show (0 : Int32) ≤ oI (some h) from nI_le (Nat.zero_le h) (by omega)), eh, q_cl (show h < 2147483648 by omega), if_neg gh, L1, e2, p_nextBehind10 hG hV2 hSK hK2.1.1 hh]
    simp only [bnd1, Option.toList_some, List.cons_append, List.nil_append, eX10_skip_29]
    rw [b1]
    simp only [bnd0, Option.toList_none, List.nil_append, eX10_skip_32]
    exact ⟨M2, rfl, b2, fun c j q1 q2 q3 q4 q5 q6 q7 => by rw [b3 c j q1 q2 q3 q4 q5 q6 q7, st2_nc _ q3]⟩
theorem p_goM {M : MM} {F f : Nat} {G wd : Nat → Nat → Nat} {S : CS} (hG : GW F G wd) (hK : KM M F G wd S) (hI : IV F G S) (hf : f < F) : ∃ M' : MM, mX10_go [.inr (some 19), .inl (nI f)] M = some (some (.inl (nI (goS G f S).1)), M') ∧ KM M' F G wd (goS G f S).2 ∧ FTm M M' := by
  obtain ⟨vl, hb, sk, r⟩ := S
  have hF := hG.1
  have gf := gI (c := f) (N := 12) (by omega) (by omega)
  have hal := ak_le G vl f
  have hV : VM M F G vl := by obtain ⟨hd, ls, pl, n, st, sn, fl, wt, rf, rv, k0, k1⟩ := r; exact VM_of hK.1 hK.2.1 (fun g v hg e => ((hI.1.1 g hg).2.2.1 v e).1)
  rw [iX10_go, eX10_go_0, p_isAsked hG hV hf]
  simp only [bnd1, Option.toList_some, List.cons_append, List.nil_append, eX10_go_5]
  by_cases hc : ak G vl f = 0
  · have e : goS G f (vl, hb, sk, r) = (6, (vl, hb, sk, r)) := if_pos hc
    rw [e, if_pos (by rw [hc]; rfl), L6]
    exact ⟨M, rfl, hK, fun _ _ _ _ _ _ _ _ _ => rfl⟩
  · have e : goS G f (vl, hb, sk, r) = (5, comeS (some f) (vl, hb, uq sk f 0, r)) := if_neg hc
    have hK2 := hK.sk (h := f) (x := 0)
    have hI2 := hI.1.sk (h := f) (x := 0) (by omega)
    obtain ⟨M2, b1, b2, b3⟩ := p_comesNow (x := some f) hG hK2 hI2 (fun g e => by cases e; exact hf)
    have b1 : mX10_comesNow [.inr (some 19), .inl (nI f)] (st2 M 30 f (nI 0)) = some (none, M2) := b1
    rw [e, if_neg (by rw [L0, q_eq (by omega) (by omega)]; exact hc), q_cl (show f < 2147483648 by omega), if_neg gf, L0, b1]
    simp only [bnd0, Option.toList_none, List.nil_append, eX10_go_23]
    exact ⟨M2, rfl, b2, fun c j q1 q2 q3 q4 q5 q6 q7 => by rw [b3 c j q1 q2 q3 q4 q5 q6 q7, st2_nc _ q3]⟩
theorem p_takeM {M : MM} {F s v : Nat} {G wd : Nat → Nat → Nat} {S : CS} (hG : GW F G wd) (hK : KM M F G wd S) (hI : IV F G S) (hw : S.2.2.2.2.2.2.2.2.2.2.1 = 0) (hfl : S.2.2.2.2.2.2.2.2.2.1 = 0) (hv : v < 100000000) (hs : s ≤ 8) (o2 : s = 0 → S.2.2.2.1 ≠ none) (o3 : s = 8 → S.2.2.2.2.1 ≠ none) (o4 : s = 7 → v < F) : ∃ M' : MM, mX10_take [.inr (some 19), .inl (nI s), .inl (nI v)] M = some (some (.inl (nI (takeS F G s v S).1)), M') ∧ KM M' F G wd (takeS F G s v S).2 ∧ FTm M M' := by
  have ne : ∀ a : Nat, a ≤ 8 → s ≠ a → ¬ nI s = nI a := fun a ha h => by rw [q_eq (by omega) (by omega)]; exact h
  rw [iX10_take, eX10_take_0]
  unfold takeS
  rw [L0, L1, L2, L3, L4, L5, L6, L7, L8]
  by_cases h0 : s = 0
  · rw [if_pos (by rw [h0]), if_pos h0]
    cases hh : S.2.2.2.1 with
    | none => exact absurd hh (o2 h0)
    | some f =>
      have h43 : M 19 29 = nI f ∧ f < F := by
        obtain ⟨vl, hb, sk, hd, ls, pl, n, st, sn, fl, wt, rf, rv, k0, k1⟩ := S
        have hh : hd = some f := hh
        have := hK.2.2.1
        rw [hh] at this
        exact ⟨this, hI.1.2.1 f hh⟩
      obtain ⟨M', a1, a2, a3⟩ := p_answered hG hK hI h43.2 (hI.2 f hh) hv hw hfl
      refine ⟨M', ?_, a2, a3⟩
      rw [h43.1, a1]
      simp only [bnd1, Option.toList_some, List.cons_append, List.nil_append, eX10_take_61]
      rfl
  rw [if_neg (ne 0 (by omega) h0), if_neg h0]
  by_cases h1 : s = 1
  · rw [if_pos (by rw [h1]), if_pos h1]
    obtain ⟨M', a1, a2, a3⟩ := p_goBackM hG hK hI
    refine ⟨M', ?_, a2, a3⟩
    rw [a1]
    simp only [bnd1, Option.toList_some, List.cons_append, List.nil_append, eX10_take_76]
  rw [if_neg (ne 1 (by omega) h1), if_neg h1]
  by_cases h2 : s = 2
  · rw [if_pos (by rw [h2]), if_pos h2]
    obtain ⟨M', a1, a2, a3⟩ := p_skipM hG hK hI
    refine ⟨M', ?_, a2, a3⟩
    rw [a1]
    simp only [bnd1, Option.toList_some, List.cons_append, List.nil_append, eX10_take_81]
  rw [if_neg (ne 2 (by omega) h2), if_neg h2]
  by_cases h3 : s = 3
  · rw [if_pos (by rw [h3]), if_pos h3]
    exact ⟨M, rfl, hK, fun _ _ _ _ _ _ _ _ _ => rfl⟩
  rw [if_neg (ne 3 (by omega) h3), if_neg h3]
  by_cases h4 : s = 4
  · rw [if_pos (by rw [h4]), if_pos h4]
    obtain ⟨vl, hb, sk, hd, ls, pl, n, st, sn, fl, wt, rf, rv, k0, k1⟩ := S
    obtain ⟨c1, cD, c2, c3, c4, c5, c6, c7, c8, c9, c10, c11⟩ := hK
    have g : ∀ c j, (c = 19 → j ≠ 27) → st2 M 19 27 (nI 1) c j = M c j := fun c j q => by
      by_cases hc : c = 19
      · exact st2_nj' _ (q hc)
      · exact st2_nc _ hc
    exact ⟨_, rfl, ⟨c1.fr (g 19 0 (by decide)) (fun c j q1 q2 => g c j (fun e => by omega)), cD.fr (fun c j q1 q2 => g c j (fun e => by omega)), (g 19 29 (by decide)).trans c2, (g 19 30 (by decide)).trans c3, (g 19 31 (by decide)).trans c4, fun i hi => (g 40 i (fun e => by omega)).trans (c5 i hi), by rw [st2_at], (g 19 28 (by decide)).trans c7, (g 19 34 (by decide)).trans c8, (g 19 32 (by decide)).trans c9, fun h => ⟨(g 19 36 (by decide)).trans (c10 h).1, (g 19 37 (by decide)).trans (c10 h).2⟩, fun h => ⟨⟨(g 41 0 (by decide)).trans (c11 h).1.1, (g 42 0 (by decide)).trans (c11 h).1.2⟩, (g 41 1 (by decide)).trans (c11 h).2.1, (g 42 1 (by decide)).trans (c11 h).2.2⟩⟩, fun c j q1 q2 q3 q4 q5 q6 q7 => g c j (fun e => by have := q7 e; omega)⟩
  rw [if_neg (ne 4 (by omega) h4), if_neg h4]
  by_cases h5 : s = 5
  · rw [if_pos (by rw [h5]), if_neg (by omega), if_neg (by omega)]
    exact ⟨M, rfl, hK, fun _ _ _ _ _ _ _ _ _ => rfl⟩
  rw [if_neg (ne 5 (by omega) h5)]
  by_cases h6 : s = 6
  · rw [if_pos (by rw [h6]), if_neg (by omega), if_neg (by omega)]
    exact ⟨M, rfl, hK, fun _ _ _ _ _ _ _ _ _ => rfl⟩
  rw [if_neg (ne 6 (by omega) h6)]
  by_cases h7 : s = 7
  · rw [if_pos (by rw [h7]), if_pos h7]
    obtain ⟨M', a1, a2, a3⟩ := p_goM hG hK hI (o4 h7)
    refine ⟨M', ?_, a2, a3⟩
    rw [a1]
    simp only [bnd1, Option.toList_some, List.cons_append, List.nil_append, eX10_take_96]
  rw [if_neg (ne 7 (by omega) h7), if_neg h7]
  have h8 : s = 8 := by omega
  rw [if_pos (by rw [h8]), if_pos h8]
  cases hh : S.2.2.2.2.1 with
  | none => exact absurd hh (o3 h8)
  | some f =>
    have h44 : M 19 30 = nI f ∧ f < F ∧ ak G S.1 f = 1 := by
      obtain ⟨vl, hb, sk, hd, ls, pl, n, st, sn, fl, wt, rf, rv, k0, k1⟩ := S
      have hh : ls = some f := hh
      have := hK.2.2.2.1
      rw [hh] at this
      exact ⟨this, hI.1.2.2.1 f hh⟩
    obtain ⟨M', a1, a2, a3⟩ := p_answered hG hK hI h44.2.1 h44.2.2 hv hw hfl
    refine ⟨M', ?_, a2, a3⟩
    rw [h44.1, a1]
    simp only [bnd1, Option.toList_some, List.cons_append, List.nil_append, eX10_take_71]
    rfl
